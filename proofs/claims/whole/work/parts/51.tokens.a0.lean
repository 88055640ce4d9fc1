theorem d_cTokens_kindOf_0 : decode b_cTokens_kindOf 0 = .ok (.aload_n 0, 1) := by decide +kernel
theorem d_cTokens_kindOf_1 : decode b_cTokens_kindOf 1 = .ok (.getfield 25, 3) := by decide +kernel
theorem d_cTokens_kindOf_4 : decode b_cTokens_kindOf 4 = .ok (.getfield 34, 3) := by decide +kernel
theorem d_cTokens_kindOf_7 : decode b_cTokens_kindOf 7 = .ok (.iload_n 1, 1) := by decide +kernel
theorem d_cTokens_kindOf_8 : decode b_cTokens_kindOf 8 = .ok (.caload, 1) := by decide +kernel
theorem d_cTokens_kindOf_9 : decode b_cTokens_kindOf 9 = .ok (.istore_n 2, 1) := by decide +kernel
theorem d_cTokens_kindOf_10 : decode b_cTokens_kindOf 10 = .ok (.iload_n 1, 1) := by decide +kernel
theorem d_cTokens_kindOf_11 : decode b_cTokens_kindOf 11 = .ok (.iconst 1, 1) := by decide +kernel
theorem d_cTokens_kindOf_12 : decode b_cTokens_kindOf 12 = .ok (.iadd, 1) := by decide +kernel
theorem d_cTokens_kindOf_13 : decode b_cTokens_kindOf 13 = .ok (.aload_n 0, 1) := by decide +kernel
theorem d_cTokens_kindOf_14 : decode b_cTokens_kindOf 14 = .ok (.getfield 25, 3) := by decide +kernel
theorem d_cTokens_kindOf_17 : decode b_cTokens_kindOf 17 = .ok (.getfield 29, 3) := by decide +kernel
theorem d_cTokens_kindOf_20 : decode b_cTokens_kindOf 20 = .ok (.if_icmp .ge 22, 3) := by decide +kernel
theorem d_cTokens_kindOf_23 : decode b_cTokens_kindOf 23 = .ok (.aload_n 0, 1) := by decide +kernel
theorem d_cTokens_kindOf_24 : decode b_cTokens_kindOf 24 = .ok (.getfield 25, 3) := by decide +kernel
theorem d_cTokens_kindOf_27 : decode b_cTokens_kindOf 27 = .ok (.getfield 34, 3) := by decide +kernel
theorem d_cTokens_kindOf_30 : decode b_cTokens_kindOf 30 = .ok (.iload_n 1, 1) := by decide +kernel
theorem d_cTokens_kindOf_31 : decode b_cTokens_kindOf 31 = .ok (.iconst 1, 1) := by decide +kernel
theorem d_cTokens_kindOf_32 : decode b_cTokens_kindOf 32 = .ok (.iadd, 1) := by decide +kernel
theorem d_cTokens_kindOf_33 : decode b_cTokens_kindOf 33 = .ok (.caload, 1) := by decide +kernel
theorem d_cTokens_kindOf_34 : decode b_cTokens_kindOf 34 = .ok (.iload_n 2, 1) := by decide +kernel
theorem d_cTokens_kindOf_35 : decode b_cTokens_kindOf 35 = .ok (.if_icmp .ne 7, 3) := by decide +kernel
theorem d_cTokens_kindOf_38 : decode b_cTokens_kindOf 38 = .ok (.iconst 1, 1) := by decide +kernel
theorem d_cTokens_kindOf_39 : decode b_cTokens_kindOf 39 = .ok (.goto 4, 3) := by decide +kernel
theorem d_cTokens_kindOf_42 : decode b_cTokens_kindOf 42 = .ok (.iconst 0, 1) := by decide +kernel
theorem d_cTokens_kindOf_43 : decode b_cTokens_kindOf 43 = .ok (.istore_n 3, 1) := by decide +kernel
theorem d_cTokens_kindOf_44 : decode b_cTokens_kindOf 44 = .ok (.iload_n 2, 1) := by decide +kernel
theorem d_cTokens_kindOf_45 : decode b_cTokens_kindOf 45 = .ok (.lookupswitch 120 #[(33, 98), (38, 77), (40, 100), (41, 102), (59, 75), (60, 105), (62, 108), (124, 88)], 75) := by decide +kernel
theorem d_cTokens_kindOf_120 : decode b_cTokens_kindOf 120 = .ok (.iconst 0, 1) := by decide +kernel
theorem d_cTokens_kindOf_121 : decode b_cTokens_kindOf 121 = .ok (.ireturn, 1) := by decide +kernel
theorem d_cTokens_kindOf_122 : decode b_cTokens_kindOf 122 = .ok (.iload_n 3, 1) := by decide +kernel
theorem d_cTokens_kindOf_123 : decode b_cTokens_kindOf 123 = .ok (.ifCond .eq 7, 3) := by decide +kernel
theorem d_cTokens_kindOf_126 : decode b_cTokens_kindOf 126 = .ok (.iconst 1, 1) := by decide +kernel
theorem d_cTokens_kindOf_127 : decode b_cTokens_kindOf 127 = .ok (.goto 5, 3) := by decide +kernel
theorem d_cTokens_kindOf_130 : decode b_cTokens_kindOf 130 = .ok (.bipush 11, 2) := by decide +kernel
theorem d_cTokens_kindOf_132 : decode b_cTokens_kindOf 132 = .ok (.ireturn, 1) := by decide +kernel
theorem d_cTokens_kindOf_133 : decode b_cTokens_kindOf 133 = .ok (.iload_n 3, 1) := by decide +kernel
theorem d_cTokens_kindOf_134 : decode b_cTokens_kindOf 134 = .ok (.ifCond .eq 7, 3) := by decide +kernel
theorem d_cTokens_kindOf_137 : decode b_cTokens_kindOf 137 = .ok (.iconst 2, 1) := by decide +kernel
theorem d_cTokens_kindOf_138 : decode b_cTokens_kindOf 138 = .ok (.goto 4, 3) := by decide +kernel
theorem d_cTokens_kindOf_141 : decode b_cTokens_kindOf 141 = .ok (.iconst 3, 1) := by decide +kernel
theorem d_cTokens_kindOf_142 : decode b_cTokens_kindOf 142 = .ok (.ireturn, 1) := by decide +kernel
theorem d_cTokens_kindOf_143 : decode b_cTokens_kindOf 143 = .ok (.iconst 4, 1) := by decide +kernel
theorem d_cTokens_kindOf_144 : decode b_cTokens_kindOf 144 = .ok (.ireturn, 1) := by decide +kernel
theorem d_cTokens_kindOf_145 : decode b_cTokens_kindOf 145 = .ok (.iconst 5, 1) := by decide +kernel
theorem d_cTokens_kindOf_146 : decode b_cTokens_kindOf 146 = .ok (.ireturn, 1) := by decide +kernel
theorem d_cTokens_kindOf_147 : decode b_cTokens_kindOf 147 = .ok (.bipush 6, 2) := by decide +kernel
theorem d_cTokens_kindOf_149 : decode b_cTokens_kindOf 149 = .ok (.ireturn, 1) := by decide +kernel
theorem d_cTokens_kindOf_150 : decode b_cTokens_kindOf 150 = .ok (.bipush 7, 2) := by decide +kernel
theorem d_cTokens_kindOf_152 : decode b_cTokens_kindOf 152 = .ok (.ireturn, 1) := by decide +kernel
theorem d_cTokens_kindOf_153 : decode b_cTokens_kindOf 153 = .ok (.iload_n 3, 1) := by decide +kernel
theorem d_cTokens_kindOf_154 : decode b_cTokens_kindOf 154 = .ok (.ifCond .eq 8, 3) := by decide +kernel
theorem d_cTokens_kindOf_157 : decode b_cTokens_kindOf 157 = .ok (.bipush 9, 2) := by decide +kernel
theorem d_cTokens_kindOf_159 : decode b_cTokens_kindOf 159 = .ok (.goto 5, 3) := by decide +kernel
theorem d_cTokens_kindOf_162 : decode b_cTokens_kindOf 162 = .ok (.bipush 8, 2) := by decide +kernel
theorem d_cTokens_kindOf_164 : decode b_cTokens_kindOf 164 = .ok (.ireturn, 1) := by decide +kernel
theorem d_cTokens_kindOf_165 : decode b_cTokens_kindOf 165 = .ok (.bipush 10, 2) := by decide +kernel
theorem d_cTokens_kindOf_167 : decode b_cTokens_kindOf 167 = .ok (.ireturn, 1) := by decide +kernel
theorem d_cTokens_wordEnd_0 : decode b_cTokens_wordEnd 0 = .ok (.iconst 0, 1) := by decide +kernel
theorem d_cTokens_wordEnd_1 : decode b_cTokens_wordEnd 1 = .ok (.istore_n 2, 1) := by decide +kernel
theorem d_cTokens_wordEnd_2 : decode b_cTokens_wordEnd 2 = .ok (.iload_n 1, 1) := by decide +kernel
theorem d_cTokens_wordEnd_3 : decode b_cTokens_wordEnd 3 = .ok (.istore_n 3, 1) := by decide +kernel
theorem d_cTokens_wordEnd_4 : decode b_cTokens_wordEnd 4 = .ok (.iload_n 3, 1) := by decide +kernel
theorem d_cTokens_wordEnd_5 : decode b_cTokens_wordEnd 5 = .ok (.aload_n 0, 1) := by decide +kernel
theorem d_cTokens_wordEnd_6 : decode b_cTokens_wordEnd 6 = .ok (.getfield 25, 3) := by decide +kernel
theorem d_cTokens_wordEnd_9 : decode b_cTokens_wordEnd 9 = .ok (.getfield 29, 3) := by decide +kernel
theorem d_cTokens_wordEnd_12 : decode b_cTokens_wordEnd 12 = .ok (.if_icmp .ge 63, 3) := by decide +kernel
theorem d_cTokens_wordEnd_15 : decode b_cTokens_wordEnd 15 = .ok (.aload_n 0, 1) := by decide +kernel
theorem d_cTokens_wordEnd_16 : decode b_cTokens_wordEnd 16 = .ok (.getfield 25, 3) := by decide +kernel
theorem d_cTokens_wordEnd_19 : decode b_cTokens_wordEnd 19 = .ok (.getfield 34, 3) := by decide +kernel
theorem d_cTokens_wordEnd_22 : decode b_cTokens_wordEnd 22 = .ok (.iload_n 3, 1) := by decide +kernel
theorem d_cTokens_wordEnd_23 : decode b_cTokens_wordEnd 23 = .ok (.caload, 1) := by decide +kernel
theorem d_cTokens_wordEnd_24 : decode b_cTokens_wordEnd 24 = .ok (.istore 4, 2) := by decide +kernel
theorem d_cTokens_wordEnd_26 : decode b_cTokens_wordEnd 26 = .ok (.iload 4, 2) := by decide +kernel
theorem d_cTokens_wordEnd_28 : decode b_cTokens_wordEnd 28 = .ok (.bipush 39, 2) := by decide +kernel
theorem d_cTokens_wordEnd_30 : decode b_cTokens_wordEnd 30 = .ok (.if_icmp .ne 16, 3) := by decide +kernel
theorem d_cTokens_wordEnd_33 : decode b_cTokens_wordEnd 33 = .ok (.iload_n 2, 1) := by decide +kernel
theorem d_cTokens_wordEnd_34 : decode b_cTokens_wordEnd 34 = .ok (.ifCond .ne 7, 3) := by decide +kernel
theorem d_cTokens_wordEnd_37 : decode b_cTokens_wordEnd 37 = .ok (.iconst 1, 1) := by decide +kernel
theorem d_cTokens_wordEnd_38 : decode b_cTokens_wordEnd 38 = .ok (.goto 4, 3) := by decide +kernel
theorem d_cTokens_wordEnd_41 : decode b_cTokens_wordEnd 41 = .ok (.iconst 0, 1) := by decide +kernel
theorem d_cTokens_wordEnd_42 : decode b_cTokens_wordEnd 42 = .ok (.istore_n 2, 1) := by decide +kernel
theorem d_cTokens_wordEnd_43 : decode b_cTokens_wordEnd 43 = .ok (.goto 26, 3) := by decide +kernel
theorem d_cTokens_wordEnd_46 : decode b_cTokens_wordEnd 46 = .ok (.iload_n 2, 1) := by decide +kernel
theorem d_cTokens_wordEnd_47 : decode b_cTokens_wordEnd 47 = .ok (.ifCond .ne 22, 3) := by decide +kernel
theorem d_cTokens_wordEnd_50 : decode b_cTokens_wordEnd 50 = .ok (.iload 4, 2) := by decide +kernel
theorem d_cTokens_wordEnd_52 : decode b_cTokens_wordEnd 52 = .ok (.bipush 32, 2) := by decide +kernel
theorem d_cTokens_wordEnd_54 : decode b_cTokens_wordEnd 54 = .ok (.if_icmp .eq 13, 3) := by decide +kernel
theorem d_cTokens_wordEnd_57 : decode b_cTokens_wordEnd 57 = .ok (.aload_n 0, 1) := by decide +kernel
theorem d_cTokens_wordEnd_58 : decode b_cTokens_wordEnd 58 = .ok (.iload_n 3, 1) := by decide +kernel
theorem d_cTokens_wordEnd_59 : decode b_cTokens_wordEnd 59 = .ok (.invokevirtual 38, 3) := by decide +kernel
theorem d_cTokens_wordEnd_62 : decode b_cTokens_wordEnd 62 = .ok (.bipush 10, 2) := by decide +kernel
theorem d_cTokens_wordEnd_64 : decode b_cTokens_wordEnd 64 = .ok (.if_icmp .eq 5, 3) := by decide +kernel
theorem d_cTokens_wordEnd_67 : decode b_cTokens_wordEnd 67 = .ok (.iload_n 3, 1) := by decide +kernel
theorem d_cTokens_wordEnd_68 : decode b_cTokens_wordEnd 68 = .ok (.ireturn, 1) := by decide +kernel
theorem d_cTokens_wordEnd_69 : decode b_cTokens_wordEnd 69 = .ok (.iinc 3 1, 3) := by decide +kernel
theorem d_cTokens_wordEnd_72 : decode b_cTokens_wordEnd 72 = .ok (.goto (-68), 3) := by decide +kernel
theorem d_cTokens_wordEnd_75 : decode b_cTokens_wordEnd 75 = .ok (.iload_n 2, 1) := by decide +kernel
theorem d_cTokens_wordEnd_76 : decode b_cTokens_wordEnd 76 = .ok (.ifCond .eq 15, 3) := by decide +kernel
theorem d_cTokens_wordEnd_79 : decode b_cTokens_wordEnd 79 = .ok (.aload_n 0, 1) := by decide +kernel
theorem d_cTokens_wordEnd_80 : decode b_cTokens_wordEnd 80 = .ok (.getfield 25, 3) := by decide +kernel
theorem d_cTokens_wordEnd_83 : decode b_cTokens_wordEnd 83 = .ok (.getfield 29, 3) := by decide +kernel
theorem d_cTokens_wordEnd_86 : decode b_cTokens_wordEnd 86 = .ok (.iconst 1, 1) := by decide +kernel
theorem d_cTokens_wordEnd_87 : decode b_cTokens_wordEnd 87 = .ok (.iadd, 1) := by decide +kernel
theorem d_cTokens_wordEnd_88 : decode b_cTokens_wordEnd 88 = .ok (.goto 10, 3) := by decide +kernel
theorem d_cTokens_wordEnd_91 : decode b_cTokens_wordEnd 91 = .ok (.aload_n 0, 1) := by decide +kernel
theorem d_cTokens_wordEnd_92 : decode b_cTokens_wordEnd 92 = .ok (.getfield 25, 3) := by decide +kernel
theorem d_cTokens_wordEnd_95 : decode b_cTokens_wordEnd 95 = .ok (.getfield 29, 3) := by decide +kernel
theorem d_cTokens_wordEnd_98 : decode b_cTokens_wordEnd 98 = .ok (.ireturn, 1) := by decide +kernel
theorem d_cTokens_widthOf_0 : decode b_cTokens_widthOf 0 = .ok (.iload_n 0, 1) := by decide +kernel
theorem d_cTokens_widthOf_1 : decode b_cTokens_widthOf 1 = .ok (.iconst 1, 1) := by decide +kernel
theorem d_cTokens_widthOf_2 : decode b_cTokens_widthOf 2 = .ok (.if_icmp .eq 14, 3) := by decide +kernel
theorem d_cTokens_widthOf_5 : decode b_cTokens_widthOf 5 = .ok (.iload_n 0, 1) := by decide +kernel
theorem d_cTokens_widthOf_6 : decode b_cTokens_widthOf 6 = .ok (.iconst 2, 1) := by decide +kernel
theorem d_cTokens_widthOf_7 : decode b_cTokens_widthOf 7 = .ok (.if_icmp .eq 9, 3) := by decide +kernel
theorem d_cTokens_widthOf_10 : decode b_cTokens_widthOf 10 = .ok (.iload_n 0, 1) := by decide +kernel
theorem d_cTokens_widthOf_11 : decode b_cTokens_widthOf 11 = .ok (.bipush 9, 2) := by decide +kernel
theorem d_cTokens_widthOf_13 : decode b_cTokens_widthOf 13 = .ok (.if_icmp .ne 7, 3) := by decide +kernel
theorem d_cTokens_widthOf_16 : decode b_cTokens_widthOf 16 = .ok (.iconst 2, 1) := by decide +kernel
theorem d_cTokens_widthOf_17 : decode b_cTokens_widthOf 17 = .ok (.goto 4, 3) := by decide +kernel
theorem d_cTokens_widthOf_20 : decode b_cTokens_widthOf 20 = .ok (.iconst 1, 1) := by decide +kernel
theorem d_cTokens_widthOf_21 : decode b_cTokens_widthOf 21 = .ok (.ireturn, 1) := by decide +kernel
theorem d_cTokens_cutLine_0 : decode b_cTokens_cutLine 0 = .ok (.aload_n 0, 1) := by decide +kernel
theorem d_cTokens_cutLine_1 : decode b_cTokens_cutLine 1 = .ok (.iconst 0, 1) := by decide +kernel
theorem d_cTokens_cutLine_2 : decode b_cTokens_cutLine 2 = .ok (.putfield 21, 3) := by decide +kernel
theorem d_cTokens_cutLine_5 : decode b_cTokens_cutLine 5 = .ok (.iconst 0, 1) := by decide +kernel
theorem d_cTokens_cutLine_6 : decode b_cTokens_cutLine 6 = .ok (.istore_n 1, 1) := by decide +kernel
theorem d_cTokens_cutLine_7 : decode b_cTokens_cutLine 7 = .ok (.iload_n 1, 1) := by decide +kernel
theorem d_cTokens_cutLine_8 : decode b_cTokens_cutLine 8 = .ok (.aload_n 0, 1) := by decide +kernel
theorem d_cTokens_cutLine_9 : decode b_cTokens_cutLine 9 = .ok (.getfield 25, 3) := by decide +kernel
theorem d_cTokens_cutLine_12 : decode b_cTokens_cutLine 12 = .ok (.getfield 29, 3) := by decide +kernel
theorem d_cTokens_cutLine_15 : decode b_cTokens_cutLine 15 = .ok (.if_icmp .ge 130, 3) := by decide +kernel
theorem d_cTokens_cutLine_18 : decode b_cTokens_cutLine 18 = .ok (.iload_n 1, 1) := by decide +kernel
theorem d_cTokens_cutLine_19 : decode b_cTokens_cutLine 19 = .ok (.iconst 1, 1) := by decide +kernel
theorem d_cTokens_cutLine_20 : decode b_cTokens_cutLine 20 = .ok (.iadd, 1) := by decide +kernel
theorem d_cTokens_cutLine_21 : decode b_cTokens_cutLine 21 = .ok (.istore_n 2, 1) := by decide +kernel
theorem d_cTokens_cutLine_22 : decode b_cTokens_cutLine 22 = .ok (.aload_n 0, 1) := by decide +kernel
theorem d_cTokens_cutLine_23 : decode b_cTokens_cutLine 23 = .ok (.getfield 25, 3) := by decide +kernel
theorem d_cTokens_cutLine_26 : decode b_cTokens_cutLine 26 = .ok (.getfield 34, 3) := by decide +kernel
theorem d_cTokens_cutLine_29 : decode b_cTokens_cutLine 29 = .ok (.iload_n 1, 1) := by decide +kernel
theorem d_cTokens_cutLine_30 : decode b_cTokens_cutLine 30 = .ok (.caload, 1) := by decide +kernel
theorem d_cTokens_cutLine_31 : decode b_cTokens_cutLine 31 = .ok (.bipush 32, 2) := by decide +kernel
theorem d_cTokens_cutLine_33 : decode b_cTokens_cutLine 33 = .ok (.if_icmp .eq 101, 3) := by decide +kernel
theorem d_cTokens_cutLine_36 : decode b_cTokens_cutLine 36 = .ok (.aload_n 0, 1) := by decide +kernel
theorem d_cTokens_cutLine_37 : decode b_cTokens_cutLine 37 = .ok (.iload_n 1, 1) := by decide +kernel
theorem d_cTokens_cutLine_38 : decode b_cTokens_cutLine 38 = .ok (.invokevirtual 38, 3) := by decide +kernel
theorem d_cTokens_cutLine_41 : decode b_cTokens_cutLine 41 = .ok (.istore_n 3, 1) := by decide +kernel
theorem d_cTokens_cutLine_42 : decode b_cTokens_cutLine 42 = .ok (.iload_n 3, 1) := by decide +kernel
theorem d_cTokens_cutLine_43 : decode b_cTokens_cutLine 43 = .ok (.bipush 10, 2) := by decide +kernel
theorem d_cTokens_cutLine_45 : decode b_cTokens_cutLine 45 = .ok (.if_icmp .ne 11, 3) := by decide +kernel
theorem d_cTokens_cutLine_48 : decode b_cTokens_cutLine 48 = .ok (.aload_n 0, 1) := by decide +kernel
theorem d_cTokens_cutLine_49 : decode b_cTokens_cutLine 49 = .ok (.iload_n 1, 1) := by decide +kernel
theorem d_cTokens_cutLine_50 : decode b_cTokens_cutLine 50 = .ok (.invokevirtual 42, 3) := by decide +kernel
theorem d_cTokens_cutLine_53 : decode b_cTokens_cutLine 53 = .ok (.goto 9, 3) := by decide +kernel
theorem d_cTokens_cutLine_56 : decode b_cTokens_cutLine 56 = .ok (.iload_n 1, 1) := by decide +kernel
theorem d_cTokens_cutLine_57 : decode b_cTokens_cutLine 57 = .ok (.iload_n 3, 1) := by decide +kernel
theorem d_cTokens_cutLine_58 : decode b_cTokens_cutLine 58 = .ok (.invokestatic 45, 3) := by decide +kernel
theorem d_cTokens_cutLine_61 : decode b_cTokens_cutLine 61 = .ok (.iadd, 1) := by decide +kernel
theorem d_cTokens_cutLine_62 : decode b_cTokens_cutLine 62 = .ok (.istore_n 2, 1) := by decide +kernel
theorem d_cTokens_cutLine_63 : decode b_cTokens_cutLine 63 = .ok (.iload_n 3, 1) := by decide +kernel
theorem d_cTokens_cutLine_64 : decode b_cTokens_cutLine 64 = .ok (.bipush 11, 2) := by decide +kernel
theorem d_cTokens_cutLine_66 : decode b_cTokens_cutLine 66 = .ok (.if_icmp .eq 26, 3) := by decide +kernel
theorem d_cTokens_cutLine_69 : decode b_cTokens_cutLine 69 = .ok (.iload_n 2, 1) := by decide +kernel
theorem d_cTokens_cutLine_70 : decode b_cTokens_cutLine 70 = .ok (.aload_n 0, 1) := by decide +kernel
theorem d_cTokens_cutLine_71 : decode b_cTokens_cutLine 71 = .ok (.getfield 25, 3) := by decide +kernel
theorem d_cTokens_cutLine_74 : decode b_cTokens_cutLine 74 = .ok (.getfield 29, 3) := by decide +kernel
theorem d_cTokens_cutLine_77 : decode b_cTokens_cutLine 77 = .ok (.if_icmp .gt 15, 3) := by decide +kernel
theorem d_cTokens_cutLine_80 : decode b_cTokens_cutLine 80 = .ok (.aload_n 0, 1) := by decide +kernel
theorem d_cTokens_cutLine_81 : decode b_cTokens_cutLine 81 = .ok (.getfield 21, 3) := by decide +kernel
theorem d_cTokens_cutLine_84 : decode b_cTokens_cutLine 84 = .ok (.aload_n 0, 1) := by decide +kernel
theorem d_cTokens_cutLine_85 : decode b_cTokens_cutLine 85 = .ok (.getfield 9, 3) := by decide +kernel
theorem d_cTokens_cutLine_88 : decode b_cTokens_cutLine 88 = .ok (.arraylength, 1) := by decide +kernel
theorem d_cTokens_cutLine_89 : decode b_cTokens_cutLine 89 = .ok (.if_icmp .lt 5, 3) := by decide +kernel
theorem d_cTokens_cutLine_92 : decode b_cTokens_cutLine 92 = .ok (.iconst 0, 1) := by decide +kernel
theorem d_cTokens_cutLine_93 : decode b_cTokens_cutLine 93 = .ok (.ireturn, 1) := by decide +kernel
theorem d_cTokens_cutLine_94 : decode b_cTokens_cutLine 94 = .ok (.aload_n 0, 1) := by decide +kernel
theorem d_cTokens_cutLine_95 : decode b_cTokens_cutLine 95 = .ok (.getfield 9, 3) := by decide +kernel
theorem d_cTokens_cutLine_98 : decode b_cTokens_cutLine 98 = .ok (.aload_n 0, 1) := by decide +kernel
theorem d_cTokens_cutLine_99 : decode b_cTokens_cutLine 99 = .ok (.getfield 21, 3) := by decide +kernel
theorem d_cTokens_cutLine_102 : decode b_cTokens_cutLine 102 = .ok (.iload_n 3, 1) := by decide +kernel
theorem d_cTokens_cutLine_103 : decode b_cTokens_cutLine 103 = .ok (.iastore, 1) := by decide +kernel
theorem d_cTokens_cutLine_104 : decode b_cTokens_cutLine 104 = .ok (.aload_n 0, 1) := by decide +kernel
theorem d_cTokens_cutLine_105 : decode b_cTokens_cutLine 105 = .ok (.getfield 15, 3) := by decide +kernel
theorem d_cTokens_cutLine_108 : decode b_cTokens_cutLine 108 = .ok (.aload_n 0, 1) := by decide +kernel
theorem d_cTokens_cutLine_109 : decode b_cTokens_cutLine 109 = .ok (.getfield 21, 3) := by decide +kernel
theorem d_cTokens_cutLine_112 : decode b_cTokens_cutLine 112 = .ok (.iload_n 1, 1) := by decide +kernel
theorem d_cTokens_cutLine_113 : decode b_cTokens_cutLine 113 = .ok (.iastore, 1) := by decide +kernel
theorem d_cTokens_cutLine_114 : decode b_cTokens_cutLine 114 = .ok (.aload_n 0, 1) := by decide +kernel
theorem d_cTokens_cutLine_115 : decode b_cTokens_cutLine 115 = .ok (.getfield 18, 3) := by decide +kernel
theorem d_cTokens_cutLine_118 : decode b_cTokens_cutLine 118 = .ok (.aload_n 0, 1) := by decide +kernel
theorem d_cTokens_cutLine_119 : decode b_cTokens_cutLine 119 = .ok (.getfield 21, 3) := by decide +kernel
theorem d_cTokens_cutLine_122 : decode b_cTokens_cutLine 122 = .ok (.iload_n 2, 1) := by decide +kernel
theorem d_cTokens_cutLine_123 : decode b_cTokens_cutLine 123 = .ok (.iastore, 1) := by decide +kernel
theorem d_cTokens_cutLine_124 : decode b_cTokens_cutLine 124 = .ok (.aload_n 0, 1) := by decide +kernel
theorem d_cTokens_cutLine_125 : decode b_cTokens_cutLine 125 = .ok (.dup, 1) := by decide +kernel
theorem d_cTokens_cutLine_126 : decode b_cTokens_cutLine 126 = .ok (.getfield 21, 3) := by decide +kernel
theorem d_cTokens_cutLine_129 : decode b_cTokens_cutLine 129 = .ok (.iconst 1, 1) := by decide +kernel
theorem d_cTokens_cutLine_130 : decode b_cTokens_cutLine 130 = .ok (.iadd, 1) := by decide +kernel
theorem d_cTokens_cutLine_131 : decode b_cTokens_cutLine 131 = .ok (.putfield 21, 3) := by decide +kernel
theorem d_cTokens_cutLine_134 : decode b_cTokens_cutLine 134 = .ok (.iload_n 1, 1) := by decide +kernel
theorem d_cTokens_cutLine_135 : decode b_cTokens_cutLine 135 = .ok (.iconst 1, 1) := by decide +kernel
theorem d_cTokens_cutLine_136 : decode b_cTokens_cutLine 136 = .ok (.iadd, 1) := by decide +kernel
theorem d_cTokens_cutLine_137 : decode b_cTokens_cutLine 137 = .ok (.iload_n 2, 1) := by decide +kernel
theorem d_cTokens_cutLine_138 : decode b_cTokens_cutLine 138 = .ok (.invokestatic 48, 3) := by decide +kernel
theorem d_cTokens_cutLine_141 : decode b_cTokens_cutLine 141 = .ok (.istore_n 1, 1) := by decide +kernel
theorem d_cTokens_cutLine_142 : decode b_cTokens_cutLine 142 = .ok (.goto (-135), 3) := by decide +kernel
theorem d_cTokens_cutLine_145 : decode b_cTokens_cutLine 145 = .ok (.iconst 1, 1) := by decide +kernel
theorem d_cTokens_cutLine_146 : decode b_cTokens_cutLine 146 = .ok (.ireturn, 1) := by decide +kernel
theorem d_cTokens_kindAt_0 : decode b_cTokens_kindAt 0 = .ok (.iload_n 1, 1) := by decide +kernel
theorem d_cTokens_kindAt_1 : decode b_cTokens_kindAt 1 = .ok (.ifCond .lt 20, 3) := by decide +kernel
theorem d_cTokens_kindAt_4 : decode b_cTokens_kindAt 4 = .ok (.iload_n 1, 1) := by decide +kernel
theorem d_cTokens_kindAt_5 : decode b_cTokens_kindAt 5 = .ok (.aload_n 0, 1) := by decide +kernel
theorem d_cTokens_kindAt_6 : decode b_cTokens_kindAt 6 = .ok (.getfield 21, 3) := by decide +kernel
theorem d_cTokens_kindAt_9 : decode b_cTokens_kindAt 9 = .ok (.if_icmp .ge 12, 3) := by decide +kernel
theorem d_cTokens_kindAt_12 : decode b_cTokens_kindAt 12 = .ok (.aload_n 0, 1) := by decide +kernel
theorem d_cTokens_kindAt_13 : decode b_cTokens_kindAt 13 = .ok (.getfield 9, 3) := by decide +kernel
theorem d_cTokens_kindAt_16 : decode b_cTokens_kindAt 16 = .ok (.iload_n 1, 1) := by decide +kernel
theorem d_cTokens_kindAt_17 : decode b_cTokens_kindAt 17 = .ok (.iaload, 1) := by decide +kernel
theorem d_cTokens_kindAt_18 : decode b_cTokens_kindAt 18 = .ok (.goto 5, 3) := by decide +kernel
theorem d_cTokens_kindAt_21 : decode b_cTokens_kindAt 21 = .ok (.bipush 11, 2) := by decide +kernel
theorem d_cTokens_kindAt_23 : decode b_cTokens_kindAt 23 = .ok (.ireturn, 1) := by decide +kernel
theorem d_cTokens_isRedirection_0 : decode b_cTokens_isRedirection 0 = .ok (.iload_n 1, 1) := by decide +kernel
theorem d_cTokens_isRedirection_1 : decode b_cTokens_isRedirection 1 = .ok (.ifCond .lt 37, 3) := by decide +kernel
theorem d_cTokens_isRedirection_4 : decode b_cTokens_isRedirection 4 = .ok (.iload_n 1, 1) := by decide +kernel
theorem d_cTokens_isRedirection_5 : decode b_cTokens_isRedirection 5 = .ok (.aload_n 0, 1) := by decide +kernel
theorem d_cTokens_isRedirection_6 : decode b_cTokens_isRedirection 6 = .ok (.getfield 21, 3) := by decide +kernel
theorem d_cTokens_isRedirection_9 : decode b_cTokens_isRedirection 9 = .ok (.if_icmp .ge 29, 3) := by decide +kernel
theorem d_cTokens_isRedirection_12 : decode b_cTokens_isRedirection 12 = .ok (.aload_n 0, 1) := by decide +kernel
theorem d_cTokens_isRedirection_13 : decode b_cTokens_isRedirection 13 = .ok (.getfield 9, 3) := by decide +kernel
theorem d_cTokens_isRedirection_16 : decode b_cTokens_isRedirection 16 = .ok (.iload_n 1, 1) := by decide +kernel
theorem d_cTokens_isRedirection_17 : decode b_cTokens_isRedirection 17 = .ok (.iaload, 1) := by decide +kernel
theorem d_cTokens_isRedirection_18 : decode b_cTokens_isRedirection 18 = .ok (.bipush 7, 2) := by decide +kernel
theorem d_cTokens_isRedirection_20 : decode b_cTokens_isRedirection 20 = .ok (.if_icmp .lt 18, 3) := by decide +kernel
theorem d_cTokens_isRedirection_23 : decode b_cTokens_isRedirection 23 = .ok (.aload_n 0, 1) := by decide +kernel
theorem d_cTokens_isRedirection_24 : decode b_cTokens_isRedirection 24 = .ok (.getfield 9, 3) := by decide +kernel
theorem d_cTokens_isRedirection_27 : decode b_cTokens_isRedirection 27 = .ok (.iload_n 1, 1) := by decide +kernel
theorem d_cTokens_isRedirection_28 : decode b_cTokens_isRedirection 28 = .ok (.iaload, 1) := by decide +kernel
theorem d_cTokens_isRedirection_29 : decode b_cTokens_isRedirection 29 = .ok (.bipush 9, 2) := by decide +kernel
theorem d_cTokens_isRedirection_31 : decode b_cTokens_isRedirection 31 = .ok (.if_icmp .gt 7, 3) := by decide +kernel
theorem d_cTokens_isRedirection_34 : decode b_cTokens_isRedirection 34 = .ok (.iconst 1, 1) := by decide +kernel
theorem d_cTokens_isRedirection_35 : decode b_cTokens_isRedirection 35 = .ok (.goto 4, 3) := by decide +kernel
theorem d_cTokens_isRedirection_38 : decode b_cTokens_isRedirection 38 = .ok (.iconst 0, 1) := by decide +kernel
theorem d_cTokens_isRedirection_39 : decode b_cTokens_isRedirection 39 = .ok (.ireturn, 1) := by decide +kernel
theorem d_cTokens_countWords_0 : decode b_cTokens_countWords 0 = .ok (.iconst 0, 1) := by decide +kernel
theorem d_cTokens_countWords_1 : decode b_cTokens_countWords 1 = .ok (.istore_n 1, 1) := by decide +kernel
theorem d_cTokens_countWords_2 : decode b_cTokens_countWords 2 = .ok (.iconst 0, 1) := by decide +kernel
theorem d_cTokens_countWords_3 : decode b_cTokens_countWords 3 = .ok (.istore_n 2, 1) := by decide +kernel
theorem d_cTokens_countWords_4 : decode b_cTokens_countWords 4 = .ok (.iload_n 2, 1) := by decide +kernel
theorem d_cTokens_countWords_5 : decode b_cTokens_countWords 5 = .ok (.aload_n 0, 1) := by decide +kernel
theorem d_cTokens_countWords_6 : decode b_cTokens_countWords 6 = .ok (.getfield 21, 3) := by decide +kernel
theorem d_cTokens_countWords_9 : decode b_cTokens_countWords 9 = .ok (.if_icmp .ge 28, 3) := by decide +kernel
theorem d_cTokens_countWords_12 : decode b_cTokens_countWords 12 = .ok (.iload_n 1, 1) := by decide +kernel
theorem d_cTokens_countWords_13 : decode b_cTokens_countWords 13 = .ok (.aload_n 0, 1) := by decide +kernel
theorem d_cTokens_countWords_14 : decode b_cTokens_countWords 14 = .ok (.getfield 9, 3) := by decide +kernel
theorem d_cTokens_countWords_17 : decode b_cTokens_countWords 17 = .ok (.iload_n 2, 1) := by decide +kernel
theorem d_cTokens_countWords_18 : decode b_cTokens_countWords 18 = .ok (.iaload, 1) := by decide +kernel
theorem d_cTokens_countWords_19 : decode b_cTokens_countWords 19 = .ok (.bipush 10, 2) := by decide +kernel
theorem d_cTokens_countWords_21 : decode b_cTokens_countWords 21 = .ok (.if_icmp .ne 7, 3) := by decide +kernel
theorem d_cTokens_countWords_24 : decode b_cTokens_countWords 24 = .ok (.iconst 1, 1) := by decide +kernel
theorem d_cTokens_countWords_25 : decode b_cTokens_countWords 25 = .ok (.goto 4, 3) := by decide +kernel
theorem d_cTokens_countWords_28 : decode b_cTokens_countWords 28 = .ok (.iconst 0, 1) := by decide +kernel
theorem d_cTokens_countWords_29 : decode b_cTokens_countWords 29 = .ok (.iadd, 1) := by decide +kernel
theorem d_cTokens_countWords_30 : decode b_cTokens_countWords 30 = .ok (.istore_n 1, 1) := by decide +kernel
theorem d_cTokens_countWords_31 : decode b_cTokens_countWords 31 = .ok (.iinc 2 1, 3) := by decide +kernel
theorem d_cTokens_countWords_34 : decode b_cTokens_countWords 34 = .ok (.goto (-30), 3) := by decide +kernel
theorem d_cTokens_countWords_37 : decode b_cTokens_countWords 37 = .ok (.iload_n 1, 1) := by decide +kernel
theorem d_cTokens_countWords_38 : decode b_cTokens_countWords 38 = .ok (.ireturn, 1) := by decide +kernel
theorem d_cTokens_find_0 : decode b_cTokens_find 0 = .ok (.iconst 0, 1) := by decide +kernel
theorem d_cTokens_find_1 : decode b_cTokens_find 1 = .ok (.istore 5, 2) := by decide +kernel
theorem d_cTokens_find_3 : decode b_cTokens_find 3 = .ok (.iload_n 1, 1) := by decide +kernel
theorem d_cTokens_find_4 : decode b_cTokens_find 4 = .ok (.istore 6, 2) := by decide +kernel
theorem d_cTokens_find_6 : decode b_cTokens_find 6 = .ok (.iload 6, 2) := by decide +kernel
theorem d_cTokens_find_8 : decode b_cTokens_find 8 = .ok (.iload_n 2, 1) := by decide +kernel
theorem d_cTokens_find_9 : decode b_cTokens_find 9 = .ok (.if_icmp .ge 60, 3) := by decide +kernel
theorem d_cTokens_find_12 : decode b_cTokens_find 12 = .ok (.aload_n 0, 1) := by decide +kernel
theorem d_cTokens_find_13 : decode b_cTokens_find 13 = .ok (.iload 6, 2) := by decide +kernel
theorem d_cTokens_find_15 : decode b_cTokens_find 15 = .ok (.invokevirtual 54, 3) := by decide +kernel
theorem d_cTokens_find_18 : decode b_cTokens_find 18 = .ok (.istore 7, 2) := by decide +kernel
theorem d_cTokens_find_20 : decode b_cTokens_find 20 = .ok (.iload 5, 2) := by decide +kernel
theorem d_cTokens_find_22 : decode b_cTokens_find 22 = .ok (.ifCond .ne 19, 3) := by decide +kernel
theorem d_cTokens_find_25 : decode b_cTokens_find 25 = .ok (.iload 7, 2) := by decide +kernel
theorem d_cTokens_find_27 : decode b_cTokens_find 27 = .ok (.iload_n 3, 1) := by decide +kernel
theorem d_cTokens_find_28 : decode b_cTokens_find 28 = .ok (.if_icmp .lt 13, 3) := by decide +kernel
theorem d_cTokens_find_31 : decode b_cTokens_find 31 = .ok (.iload 7, 2) := by decide +kernel
theorem d_cTokens_find_33 : decode b_cTokens_find 33 = .ok (.iload 4, 2) := by decide +kernel
theorem d_cTokens_find_35 : decode b_cTokens_find 35 = .ok (.if_icmp .gt 6, 3) := by decide +kernel
theorem d_cTokens_find_38 : decode b_cTokens_find 38 = .ok (.iload 6, 2) := by decide +kernel
theorem d_cTokens_find_40 : decode b_cTokens_find 40 = .ok (.ireturn, 1) := by decide +kernel
theorem d_cTokens_find_41 : decode b_cTokens_find 41 = .ok (.iload 7, 2) := by decide +kernel
theorem d_cTokens_find_43 : decode b_cTokens_find 43 = .ok (.iconst 5, 1) := by decide +kernel
theorem d_cTokens_find_44 : decode b_cTokens_find 44 = .ok (.if_icmp .ne 9, 3) := by decide +kernel
theorem d_cTokens_find_47 : decode b_cTokens_find 47 = .ok (.iinc 5 1, 3) := by decide +kernel
theorem d_cTokens_find_50 : decode b_cTokens_find 50 = .ok (.goto 13, 3) := by decide +kernel
theorem d_cTokens_find_53 : decode b_cTokens_find 53 = .ok (.iload 7, 2) := by decide +kernel
theorem d_cTokens_find_55 : decode b_cTokens_find 55 = .ok (.bipush 6, 2) := by decide +kernel
theorem d_cTokens_find_57 : decode b_cTokens_find 57 = .ok (.if_icmp .ne 6, 3) := by decide +kernel
theorem d_cTokens_find_60 : decode b_cTokens_find 60 = .ok (.iinc 5 (-1), 3) := by decide +kernel
theorem d_cTokens_find_63 : decode b_cTokens_find 63 = .ok (.iinc 6 1, 3) := by decide +kernel
theorem d_cTokens_find_66 : decode b_cTokens_find 66 = .ok (.goto (-60), 3) := by decide +kernel
theorem d_cTokens_find_69 : decode b_cTokens_find 69 = .ok (.iload_n 2, 1) := by decide +kernel
theorem d_cTokens_find_70 : decode b_cTokens_find 70 = .ok (.ireturn, 1) := by decide +kernel
theorem cw_cTokens_kindOf {R : Room} {s : State} {args : Array Value} {own : String} {ix : Nat} (hts : ∀ w ∈ zt, w.before args s = true) (hl : (Cond.methodLink own ix y_cTokens_kindOf).before args s = true) (h1 : 1 ≤ R.frames) (h2 : 23 ≤ R.locals) : CallW R s args own "TreeShell$Tokens" ix y_cTokens_kindOf b_cTokens_kindOf 4 (some .int) (.code y_cTokens_kindOf b_cTokens_kindOf 4 (some .int) :: zt) { frames := 0, cells := 0, slots := 0, locals := 0 } 0 0 1 := ⟨callB_of 1 hts (zgood w_406) rfl rfl rfl (hts _ w_70) hl ⟨by decide, by decide, by decide +kernel⟩ ⟨h1, h2⟩, hts _ w_405, hts _ w_0⟩
theorem cw_cTokens_wordEnd {R : Room} {s : State} {args : Array Value} {own : String} {ix : Nat} (hts : ∀ w ∈ zt, w.before args s = true) (hl : (Cond.methodLink own ix y_cTokens_wordEnd).before args s = true) (h1 : 2 ≤ R.frames) (h2 : 47 ≤ R.locals) : CallW R s args own "TreeShell$Tokens" ix y_cTokens_wordEnd b_cTokens_wordEnd 5 (some .int) (.code y_cTokens_wordEnd b_cTokens_wordEnd 5 (some .int) :: zt) { frames := 1, cells := 0, slots := 0, locals := 23 } 0 0 1 := ⟨callB_of 1 hts (zgood w_410) rfl rfl rfl (hts _ w_70) hl ⟨by decide, by decide, by decide +kernel⟩ ⟨h1, h2⟩, hts _ w_409, hts _ w_1⟩
theorem cw_cTokens_widthOf {R : Room} {s : State} {args : Array Value} {ix : Nat} (hts : ∀ w ∈ zt, w.before args s = true) (hl : (Cond.methodLink "TreeShell$Tokens" ix y_cTokens_widthOf).before args s = true) (h1 : 1 ≤ R.frames) (h2 : 20 ≤ R.locals) : CallB R s args "TreeShell$Tokens" ix y_cTokens_widthOf b_cTokens_widthOf 1 (some .int) (.code y_cTokens_widthOf b_cTokens_widthOf 1 (some .int) :: zt) { frames := 0, cells := 0, slots := 0, locals := 0 } 0 0 1 ∧ (Cond.static y_cTokens_widthOf).before args s = true := ⟨callB_of 1 hts (zgood w_413) rfl rfl rfl (hts _ w_70) hl ⟨by decide, by decide, by decide +kernel⟩ ⟨h1, h2⟩, hts _ w_412⟩
theorem cw_cTokens_cutLine {R : Room} {s : State} {args : Array Value} {own : String} {ix : Nat} (hts : ∀ w ∈ zt, w.before args s = true) (hl : (Cond.methodLink own ix y_cTokens_cutLine).before args s = true) (h1 : 3 ≤ R.frames) (h2 : 70 ≤ R.locals) : CallW R s args own "TreeShell$Tokens" ix y_cTokens_cutLine b_cTokens_cutLine 4 (some .boolean) (.code y_cTokens_cutLine b_cTokens_cutLine 4 (some .boolean) :: zt) { frames := 2, cells := 0, slots := 0, locals := 47 } 0 0 0 := ⟨callB_of 0 hts (zgood w_402) rfl rfl rfl (hts _ w_70) hl ⟨by decide, by decide, by decide +kernel⟩ ⟨h1, h2⟩, hts _ w_400, hts _ w_401⟩
theorem cw_cTokens_kindAt {R : Room} {s : State} {args : Array Value} {own : String} {ix : Nat} (hts : ∀ w ∈ zt, w.before args s = true) (hl : (Cond.methodLink own ix y_cTokens_kindAt).before args s = true) (h1 : 1 ≤ R.frames) (h2 : 21 ≤ R.locals) : CallW R s args own "TreeShell$Tokens" ix y_cTokens_kindAt b_cTokens_kindAt 2 (some .int) (.code y_cTokens_kindAt b_cTokens_kindAt 2 (some .int) :: zt) { frames := 0, cells := 0, slots := 0, locals := 0 } 0 0 1 := ⟨callB_of 1 hts (zgood w_426) rfl rfl rfl (hts _ w_70) hl ⟨by decide, by decide, by decide +kernel⟩ ⟨h1, h2⟩, hts _ w_424, hts _ w_425⟩
theorem cw_cTokens_isRedirection {R : Room} {s : State} {args : Array Value} {own : String} {ix : Nat} (hts : ∀ w ∈ zt, w.before args s = true) (hl : (Cond.methodLink own ix y_cTokens_isRedirection).before args s = true) (h1 : 1 ≤ R.frames) (h2 : 21 ≤ R.locals) : CallW R s args own "TreeShell$Tokens" ix y_cTokens_isRedirection b_cTokens_isRedirection 2 (some .boolean) (.code y_cTokens_isRedirection b_cTokens_isRedirection 2 (some .boolean) :: zt) { frames := 0, cells := 0, slots := 0, locals := 0 } 0 0 1 := ⟨callB_of 1 hts (zgood w_442) rfl rfl rfl (hts _ w_70) hl ⟨by decide, by decide, by decide +kernel⟩ ⟨h1, h2⟩, hts _ w_440, hts _ w_441⟩
theorem cw_cTokens_countWords {R : Room} {s : State} {args : Array Value} {own : String} {ix : Nat} (hts : ∀ w ∈ zt, w.before args s = true) (hl : (Cond.methodLink own ix y_cTokens_countWords).before args s = true) (h1 : 1 ≤ R.frames) (h2 : 22 ≤ R.locals) : CallW R s args own "TreeShell$Tokens" ix y_cTokens_countWords b_cTokens_countWords 3 (some .int) (.code y_cTokens_countWords b_cTokens_countWords 3 (some .int) :: zt) { frames := 0, cells := 0, slots := 0, locals := 0 } 0 0 0 := ⟨callB_of 0 hts (zgood w_450) rfl rfl rfl (hts _ w_70) hl ⟨by decide, by decide, by decide +kernel⟩ ⟨h1, h2⟩, hts _ w_448, hts _ w_449⟩
theorem cw_cTokens_find {R : Room} {s : State} {args : Array Value} {own : String} {ix : Nat} (hts : ∀ w ∈ zt, w.before args s = true) (hl : (Cond.methodLink own ix y_cTokens_find).before args s = true) (h1 : 2 ≤ R.frames) (h2 : 48 ≤ R.locals) : CallW R s args own "TreeShell$Tokens" ix y_cTokens_find b_cTokens_find 8 (some .int) (.code y_cTokens_find b_cTokens_find 8 (some .int) :: zt) { frames := 1, cells := 0, slots := 0, locals := 21 } 0 0 4 := ⟨callB_of 4 hts (zgood w_467) rfl rfl rfl (hts _ w_70) hl ⟨by decide, by decide, by decide +kernel⟩ ⟨h1, h2⟩, hts _ w_465, hts _ w_466⟩
