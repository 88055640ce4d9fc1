theorem d_r_child_46 : decode b_r_child 46 = .ok (.iinc 4 1, 3) := by decide +kernel
theorem d_r_child_49 : decode b_r_child 49 = .ok (.goto (-46), 3) := by decide +kernel
theorem d_r_child_52 : decode b_r_child 52 = .ok (.iconst (-1), 1) := by decide +kernel
theorem d_r_child_53 : decode b_r_child 53 = .ok (.ireturn, 1) := by decide +kernel
theorem d_r_isName_0 : decode b_r_isName 0 = .ok (.iload_n 2, 1) := by decide +kernel
theorem d_r_isName_1 : decode b_r_isName 1 = .ok (.iload_n 1, 1) := by decide +kernel
theorem d_r_isName_2 : decode b_r_isName 2 = .ok (.isub, 1) := by decide +kernel
theorem d_r_isName_3 : decode b_r_isName 3 = .ok (.iconst 1, 1) := by decide +kernel
theorem d_r_isName_4 : decode b_r_isName 4 = .ok (.if_icmp .lt 20, 3) := by decide +kernel
theorem d_r_isName_7 : decode b_r_isName 7 = .ok (.iload_n 2, 1) := by decide +kernel
theorem d_r_isName_8 : decode b_r_isName 8 = .ok (.iload_n 1, 1) := by decide +kernel
theorem d_r_isName_9 : decode b_r_isName 9 = .ok (.isub, 1) := by decide +kernel
theorem d_r_isName_10 : decode b_r_isName 10 = .ok (.bipush 7, 2) := by decide +kernel
theorem d_r_isName_12 : decode b_r_isName 12 = .ok (.if_icmp .gt 12, 3) := by decide +kernel
theorem d_r_isName_15 : decode b_r_isName 15 = .ok (.aload_n 0, 1) := by decide +kernel
theorem d_r_isName_16 : decode b_r_isName 16 = .ok (.iload_n 1, 1) := by decide +kernel
theorem d_r_isName_17 : decode b_r_isName 17 = .ok (.iload_n 2, 1) := by decide +kernel
theorem d_r_isName_18 : decode b_r_isName 18 = .ok (.invokevirtual 247, 3) := by decide +kernel
theorem d_r_isName_21 : decode b_r_isName 21 = .ok (.ifCond .eq 5, 3) := by decide +kernel
theorem d_r_isName_24 : decode b_r_isName 24 = .ok (.iconst 0, 1) := by decide +kernel
theorem d_r_isName_25 : decode b_r_isName 25 = .ok (.ireturn, 1) := by decide +kernel
theorem d_r_isName_26 : decode b_r_isName 26 = .ok (.iload_n 1, 1) := by decide +kernel
theorem d_r_isName_27 : decode b_r_isName 27 = .ok (.istore_n 3, 1) := by decide +kernel
theorem d_r_isName_28 : decode b_r_isName 28 = .ok (.iload_n 3, 1) := by decide +kernel
theorem d_r_isName_29 : decode b_r_isName 29 = .ok (.iload_n 2, 1) := by decide +kernel
theorem d_r_isName_30 : decode b_r_isName 30 = .ok (.if_icmp .ge 61, 3) := by decide +kernel
theorem d_r_isName_33 : decode b_r_isName 33 = .ok (.aload_n 0, 1) := by decide +kernel
theorem d_r_isName_34 : decode b_r_isName 34 = .ok (.getfield 48, 3) := by decide +kernel
theorem d_r_isName_37 : decode b_r_isName 37 = .ok (.iload_n 3, 1) := by decide +kernel
theorem d_r_isName_38 : decode b_r_isName 38 = .ok (.iaload, 1) := by decide +kernel
theorem d_r_isName_39 : decode b_r_isName 39 = .ok (.istore 4, 2) := by decide +kernel
theorem d_r_isName_41 : decode b_r_isName 41 = .ok (.iload 4, 2) := by decide +kernel
theorem d_r_isName_43 : decode b_r_isName 43 = .ok (.bipush 97, 2) := by decide +kernel
theorem d_r_isName_45 : decode b_r_isName 45 = .ok (.if_icmp .lt 10, 3) := by decide +kernel
theorem d_r_isName_48 : decode b_r_isName 48 = .ok (.iload 4, 2) := by decide +kernel
theorem d_r_isName_50 : decode b_r_isName 50 = .ok (.bipush 122, 2) := by decide +kernel
theorem d_r_isName_52 : decode b_r_isName 52 = .ok (.if_icmp .le 33, 3) := by decide +kernel
theorem d_r_isName_55 : decode b_r_isName 55 = .ok (.iload 4, 2) := by decide +kernel
theorem d_r_isName_57 : decode b_r_isName 57 = .ok (.bipush 48, 2) := by decide +kernel
theorem d_r_isName_59 : decode b_r_isName 59 = .ok (.if_icmp .lt 10, 3) := by decide +kernel
theorem d_r_isName_62 : decode b_r_isName 62 = .ok (.iload 4, 2) := by decide +kernel
theorem d_r_isName_64 : decode b_r_isName 64 = .ok (.bipush 57, 2) := by decide +kernel
theorem d_r_isName_66 : decode b_r_isName 66 = .ok (.if_icmp .le 19, 3) := by decide +kernel
theorem d_r_isName_69 : decode b_r_isName 69 = .ok (.iload 4, 2) := by decide +kernel
theorem d_r_isName_71 : decode b_r_isName 71 = .ok (.bipush 95, 2) := by decide +kernel
theorem d_r_isName_73 : decode b_r_isName 73 = .ok (.if_icmp .eq 12, 3) := by decide +kernel
theorem d_r_isName_76 : decode b_r_isName 76 = .ok (.iload 4, 2) := by decide +kernel
theorem d_r_isName_78 : decode b_r_isName 78 = .ok (.bipush 46, 2) := by decide +kernel
theorem d_r_isName_80 : decode b_r_isName 80 = .ok (.if_icmp .eq 5, 3) := by decide +kernel
theorem d_r_isName_83 : decode b_r_isName 83 = .ok (.iconst 0, 1) := by decide +kernel
theorem d_r_isName_84 : decode b_r_isName 84 = .ok (.ireturn, 1) := by decide +kernel
theorem d_r_isName_85 : decode b_r_isName 85 = .ok (.iinc 3 1, 3) := by decide +kernel
theorem d_r_isName_88 : decode b_r_isName 88 = .ok (.goto (-60), 3) := by decide +kernel
theorem d_r_isName_91 : decode b_r_isName 91 = .ok (.iconst 1, 1) := by decide +kernel
theorem d_r_isName_92 : decode b_r_isName 92 = .ok (.ireturn, 1) := by decide +kernel
theorem d_r_follow_0 : decode b_r_follow 0 = .ok (.aload_n 0, 1) := by decide +kernel
theorem d_r_follow_1 : decode b_r_follow 1 = .ok (.getfield 45, 3) := by decide +kernel
theorem d_r_follow_4 : decode b_r_follow 4 = .ok (.iload_n 1, 1) := by decide +kernel
theorem d_r_follow_5 : decode b_r_follow 5 = .ok (.iaload, 1) := by decide +kernel
theorem d_r_follow_6 : decode b_r_follow 6 = .ok (.istore_n 2, 1) := by decide +kernel
theorem d_r_follow_7 : decode b_r_follow 7 = .ok (.aload_n 0, 1) := by decide +kernel
theorem d_r_follow_8 : decode b_r_follow 8 = .ok (.getfield 42, 3) := by decide +kernel
theorem d_r_follow_11 : decode b_r_follow 11 = .ok (.iload_n 1, 1) := by decide +kernel
theorem d_r_follow_12 : decode b_r_follow 12 = .ok (.iaload, 1) := by decide +kernel
theorem d_r_follow_13 : decode b_r_follow 13 = .ok (.istore_n 3, 1) := by decide +kernel
theorem d_r_follow_14 : decode b_r_follow 14 = .ok (.aload_n 0, 1) := by decide +kernel
theorem d_r_follow_15 : decode b_r_follow 15 = .ok (.iload_n 3, 1) := by decide +kernel
theorem d_r_follow_16 : decode b_r_follow 16 = .ok (.iload_n 2, 1) := by decide +kernel
theorem d_r_follow_17 : decode b_r_follow 17 = .ok (.if_icmp .ge 18, 3) := by decide +kernel
theorem d_r_follow_20 : decode b_r_follow 20 = .ok (.aload_n 0, 1) := by decide +kernel
theorem d_r_follow_21 : decode b_r_follow 21 = .ok (.getfield 48, 3) := by decide +kernel
theorem d_r_follow_24 : decode b_r_follow 24 = .ok (.iload_n 3, 1) := by decide +kernel
theorem d_r_follow_25 : decode b_r_follow 25 = .ok (.iaload, 1) := by decide +kernel
theorem d_r_follow_26 : decode b_r_follow 26 = .ok (.bipush 47, 2) := by decide +kernel
theorem d_r_follow_28 : decode b_r_follow 28 = .ok (.if_icmp .ne 7, 3) := by decide +kernel
theorem d_r_follow_31 : decode b_r_follow 31 = .ok (.iconst 0, 1) := by decide +kernel
theorem d_r_follow_32 : decode b_r_follow 32 = .ok (.goto 7, 3) := by decide +kernel
theorem d_r_follow_35 : decode b_r_follow 35 = .ok (.aload_n 0, 1) := by decide +kernel
theorem d_r_follow_36 : decode b_r_follow 36 = .ok (.getfield 162, 3) := by decide +kernel
theorem d_r_follow_39 : decode b_r_follow 39 = .ok (.putfield 225, 3) := by decide +kernel
theorem d_r_follow_42 : decode b_r_follow 42 = .ok (.aload_n 0, 1) := by decide +kernel
theorem d_r_follow_43 : decode b_r_follow 43 = .ok (.iconst (-1), 1) := by decide +kernel
theorem d_r_follow_44 : decode b_r_follow 44 = .ok (.putfield 228, 3) := by decide +kernel
theorem d_r_follow_47 : decode b_r_follow 47 = .ok (.iload_n 3, 1) := by decide +kernel
theorem d_r_follow_48 : decode b_r_follow 48 = .ok (.iload_n 2, 1) := by decide +kernel
theorem d_r_follow_49 : decode b_r_follow 49 = .ok (.if_icmp .ge 189, 3) := by decide +kernel
theorem d_r_follow_52 : decode b_r_follow 52 = .ok (.iload_n 3, 1) := by decide +kernel
theorem d_r_follow_53 : decode b_r_follow 53 = .ok (.istore 4, 2) := by decide +kernel
theorem d_r_follow_55 : decode b_r_follow 55 = .ok (.iload 4, 2) := by decide +kernel
theorem d_r_follow_57 : decode b_r_follow 57 = .ok (.iload_n 2, 1) := by decide +kernel
theorem d_r_follow_58 : decode b_r_follow 58 = .ok (.if_icmp .ge 21, 3) := by decide +kernel
theorem d_r_follow_61 : decode b_r_follow 61 = .ok (.aload_n 0, 1) := by decide +kernel
theorem d_r_follow_62 : decode b_r_follow 62 = .ok (.getfield 48, 3) := by decide +kernel
theorem d_r_follow_65 : decode b_r_follow 65 = .ok (.iload 4, 2) := by decide +kernel
theorem d_r_follow_67 : decode b_r_follow 67 = .ok (.iaload, 1) := by decide +kernel
theorem d_r_follow_68 : decode b_r_follow 68 = .ok (.bipush 47, 2) := by decide +kernel
theorem d_r_follow_70 : decode b_r_follow 70 = .ok (.if_icmp .eq 9, 3) := by decide +kernel
theorem d_r_follow_73 : decode b_r_follow 73 = .ok (.iinc 4 1, 3) := by decide +kernel
theorem d_r_follow_76 : decode b_r_follow 76 = .ok (.goto (-21), 3) := by decide +kernel
theorem d_r_follow_79 : decode b_r_follow 79 = .ok (.iload 4, 2) := by decide +kernel
theorem d_r_follow_81 : decode b_r_follow 81 = .ok (.iload_n 3, 1) := by decide +kernel
theorem d_r_follow_82 : decode b_r_follow 82 = .ok (.if_icmp .eq 22, 3) := by decide +kernel
theorem d_r_follow_85 : decode b_r_follow 85 = .ok (.iload 4, 2) := by decide +kernel
theorem d_r_follow_87 : decode b_r_follow 87 = .ok (.iload_n 3, 1) := by decide +kernel
theorem d_r_follow_88 : decode b_r_follow 88 = .ok (.isub, 1) := by decide +kernel
theorem d_r_follow_89 : decode b_r_follow 89 = .ok (.iconst 1, 1) := by decide +kernel
theorem d_r_follow_90 : decode b_r_follow 90 = .ok (.if_icmp .ne 18, 3) := by decide +kernel
theorem d_r_follow_93 : decode b_r_follow 93 = .ok (.aload_n 0, 1) := by decide +kernel
theorem d_r_follow_94 : decode b_r_follow 94 = .ok (.getfield 48, 3) := by decide +kernel
theorem d_r_follow_97 : decode b_r_follow 97 = .ok (.iload_n 3, 1) := by decide +kernel
theorem d_r_follow_98 : decode b_r_follow 98 = .ok (.iaload, 1) := by decide +kernel
theorem d_r_follow_99 : decode b_r_follow 99 = .ok (.bipush 46, 2) := by decide +kernel
theorem d_r_follow_101 : decode b_r_follow 101 = .ok (.if_icmp .ne 7, 3) := by decide +kernel
theorem d_r_follow_104 : decode b_r_follow 104 = .ok (.iconst 1, 1) := by decide +kernel
theorem d_r_follow_105 : decode b_r_follow 105 = .ok (.goto 4, 3) := by decide +kernel
theorem d_r_follow_108 : decode b_r_follow 108 = .ok (.iconst 0, 1) := by decide +kernel
theorem d_r_follow_109 : decode b_r_follow 109 = .ok (.istore 5, 2) := by decide +kernel
theorem d_r_follow_111 : decode b_r_follow 111 = .ok (.iload 5, 2) := by decide +kernel
theorem d_r_follow_113 : decode b_r_follow 113 = .ok (.ifCond .ne 117, 3) := by decide +kernel
theorem d_r_follow_116 : decode b_r_follow 116 = .ok (.aload_n 0, 1) := by decide +kernel
theorem d_r_follow_117 : decode b_r_follow 117 = .ok (.getfield 225, 3) := by decide +kernel
theorem d_r_follow_120 : decode b_r_follow 120 = .ok (.istore 6, 2) := by decide +kernel
theorem d_r_follow_122 : decode b_r_follow 122 = .ok (.iload 6, 2) := by decide +kernel
theorem d_r_follow_124 : decode b_r_follow 124 = .ok (.ifCond .lt 17, 3) := by decide +kernel
theorem d_r_follow_127 : decode b_r_follow 127 = .ok (.aload_n 0, 1) := by decide +kernel
theorem d_r_follow_128 : decode b_r_follow 128 = .ok (.getfield 13, 3) := by decide +kernel
theorem d_r_follow_131 : decode b_r_follow 131 = .ok (.iload 6, 2) := by decide +kernel
theorem d_r_follow_133 : decode b_r_follow 133 = .ok (.baload, 1) := by decide +kernel
theorem d_r_follow_134 : decode b_r_follow 134 = .ok (.ifCond .eq 7, 3) := by decide +kernel
theorem d_r_follow_137 : decode b_r_follow 137 = .ok (.iconst 1, 1) := by decide +kernel
theorem d_r_follow_138 : decode b_r_follow 138 = .ok (.goto 4, 3) := by decide +kernel
theorem d_r_follow_141 : decode b_r_follow 141 = .ok (.iconst 0, 1) := by decide +kernel
theorem d_r_follow_142 : decode b_r_follow 142 = .ok (.istore 7, 2) := by decide +kernel
theorem d_r_follow_144 : decode b_r_follow 144 = .ok (.aload_n 0, 1) := by decide +kernel
theorem d_r_follow_145 : decode b_r_follow 145 = .ok (.aload_n 0, 1) := by decide +kernel
theorem d_r_follow_146 : decode b_r_follow 146 = .ok (.iload_n 3, 1) := by decide +kernel
theorem d_r_follow_147 : decode b_r_follow 147 = .ok (.iload 4, 2) := by decide +kernel
theorem d_r_follow_149 : decode b_r_follow 149 = .ok (.invokevirtual 243, 3) := by decide +kernel
theorem d_r_follow_152 : decode b_r_follow 152 = .ok (.putfield 251, 3) := by decide +kernel
theorem d_r_follow_155 : decode b_r_follow 155 = .ok (.aload_n 0, 1) := by decide +kernel
theorem d_r_follow_156 : decode b_r_follow 156 = .ok (.iload 7, 2) := by decide +kernel
theorem d_r_follow_158 : decode b_r_follow 158 = .ok (.ifCond .ne 7, 3) := by decide +kernel
theorem d_r_follow_161 : decode b_r_follow 161 = .ok (.iconst (-1), 1) := by decide +kernel
theorem d_r_follow_162 : decode b_r_follow 162 = .ok (.goto 33, 3) := by decide +kernel
theorem d_r_follow_165 : decode b_r_follow 165 = .ok (.aload_n 0, 1) := by decide +kernel
theorem d_r_follow_166 : decode b_r_follow 166 = .ok (.iload_n 3, 1) := by decide +kernel
theorem d_r_follow_167 : decode b_r_follow 167 = .ok (.iload 4, 2) := by decide +kernel
theorem d_r_follow_169 : decode b_r_follow 169 = .ok (.invokevirtual 247, 3) := by decide +kernel
theorem d_r_follow_172 : decode b_r_follow 172 = .ok (.ifCond .eq 13, 3) := by decide +kernel
theorem d_r_follow_175 : decode b_r_follow 175 = .ok (.aload_n 0, 1) := by decide +kernel
theorem d_r_follow_176 : decode b_r_follow 176 = .ok (.getfield 16, 3) := by decide +kernel
theorem d_r_follow_179 : decode b_r_follow 179 = .ok (.iload 6, 2) := by decide +kernel
theorem d_r_follow_181 : decode b_r_follow 181 = .ok (.iaload, 1) := by decide +kernel
theorem d_r_follow_182 : decode b_r_follow 182 = .ok (.goto 13, 3) := by decide +kernel
theorem d_r_follow_185 : decode b_r_follow 185 = .ok (.aload_n 0, 1) := by decide +kernel
theorem d_r_follow_186 : decode b_r_follow 186 = .ok (.iload 6, 2) := by decide +kernel
theorem d_r_follow_188 : decode b_r_follow 188 = .ok (.aload_n 0, 1) := by decide +kernel
theorem d_r_follow_189 : decode b_r_follow 189 = .ok (.getfield 251, 3) := by decide +kernel
theorem d_r_follow_192 : decode b_r_follow 192 = .ok (.invokevirtual 255, 3) := by decide +kernel
theorem d_r_follow_195 : decode b_r_follow 195 = .ok (.putfield 225, 3) := by decide +kernel
theorem d_r_follow_198 : decode b_r_follow 198 = .ok (.aload_n 0, 1) := by decide +kernel
theorem d_r_follow_199 : decode b_r_follow 199 = .ok (.iload 7, 2) := by decide +kernel
theorem d_r_follow_201 : decode b_r_follow 201 = .ok (.ifCond .eq 25, 3) := by decide +kernel
theorem d_r_follow_204 : decode b_r_follow 204 = .ok (.aload_n 0, 1) := by decide +kernel
theorem d_r_follow_205 : decode b_r_follow 205 = .ok (.getfield 225, 3) := by decide +kernel
theorem d_r_follow_208 : decode b_r_follow 208 = .ok (.ifCond .ge 18, 3) := by decide +kernel
theorem d_r_follow_211 : decode b_r_follow 211 = .ok (.aload_n 0, 1) := by decide +kernel
theorem d_r_follow_212 : decode b_r_follow 212 = .ok (.iload_n 3, 1) := by decide +kernel
theorem d_r_follow_213 : decode b_r_follow 213 = .ok (.iload 4, 2) := by decide +kernel
theorem d_r_follow_215 : decode b_r_follow 215 = .ok (.invokevirtual 259, 3) := by decide +kernel
theorem d_r_follow_218 : decode b_r_follow 218 = .ok (.ifCond .eq 8, 3) := by decide +kernel
theorem d_r_follow_221 : decode b_r_follow 221 = .ok (.iload 6, 2) := by decide +kernel
theorem d_r_follow_223 : decode b_r_follow 223 = .ok (.goto 4, 3) := by decide +kernel
theorem d_r_follow_226 : decode b_r_follow 226 = .ok (.iconst (-1), 1) := by decide +kernel
theorem d_r_follow_227 : decode b_r_follow 227 = .ok (.putfield 228, 3) := by decide +kernel
theorem d_r_follow_230 : decode b_r_follow 230 = .ok (.iload 4, 2) := by decide +kernel
theorem d_r_follow_232 : decode b_r_follow 232 = .ok (.iconst 1, 1) := by decide +kernel
theorem d_r_follow_233 : decode b_r_follow 233 = .ok (.iadd, 1) := by decide +kernel
theorem d_r_follow_234 : decode b_r_follow 234 = .ok (.istore_n 3, 1) := by decide +kernel
theorem d_r_follow_235 : decode b_r_follow 235 = .ok (.goto (-188), 3) := by decide +kernel
theorem d_r_follow_238 : decode b_r_follow 238 = .ok (.return_, 1) := by decide +kernel
theorem d_r_made_0 : decode b_r_made 0 = .ok (.iconst 0, 1) := by decide +kernel
theorem d_r_made_1 : decode b_r_made 1 = .ok (.istore_n 2, 1) := by decide +kernel
theorem d_r_made_2 : decode b_r_made 2 = .ok (.iconst 0, 1) := by decide +kernel
theorem d_r_made_3 : decode b_r_made 3 = .ok (.istore_n 3, 1) := by decide +kernel
theorem d_r_made_4 : decode b_r_made 4 = .ok (.bipush 12, 2) := by decide +kernel
theorem d_r_made_6 : decode b_r_made 6 = .ok (.istore 4, 2) := by decide +kernel
theorem d_r_made_8 : decode b_r_made 8 = .ok (.iload 4, 2) := by decide +kernel
theorem d_r_made_10 : decode b_r_made 10 = .ok (.iconst 1, 1) := by decide +kernel
theorem d_r_made_11 : decode b_r_made 11 = .ok (.if_icmp .lt 44, 3) := by decide +kernel
theorem d_r_made_14 : decode b_r_made 14 = .ok (.aload_n 0, 1) := by decide +kernel
theorem d_r_made_15 : decode b_r_made 15 = .ok (.getfield 7, 3) := by decide +kernel
theorem d_r_made_18 : decode b_r_made 18 = .ok (.iload 4, 2) := by decide +kernel
theorem d_r_made_20 : decode b_r_made 20 = .ok (.baload, 1) := by decide +kernel
theorem d_r_made_21 : decode b_r_made 21 = .ok (.ifCond .eq 9, 3) := by decide +kernel
theorem d_r_made_24 : decode b_r_made 24 = .ok (.iload_n 2, 1) := by decide +kernel
theorem d_r_made_25 : decode b_r_made 25 = .ok (.iconst 1, 1) := by decide +kernel
theorem d_r_made_26 : decode b_r_made 26 = .ok (.iadd, 1) := by decide +kernel
theorem d_r_made_27 : decode b_r_made 27 = .ok (.goto 4, 3) := by decide +kernel
theorem d_r_made_30 : decode b_r_made 30 = .ok (.iload_n 2, 1) := by decide +kernel
theorem d_r_made_31 : decode b_r_made 31 = .ok (.istore_n 2, 1) := by decide +kernel
theorem d_r_made_32 : decode b_r_made 32 = .ok (.aload_n 0, 1) := by decide +kernel
theorem d_r_made_33 : decode b_r_made 33 = .ok (.getfield 7, 3) := by decide +kernel
theorem d_r_made_36 : decode b_r_made 36 = .ok (.iload 4, 2) := by decide +kernel
theorem d_r_made_38 : decode b_r_made 38 = .ok (.baload, 1) := by decide +kernel
theorem d_r_made_39 : decode b_r_made 39 = .ok (.ifCond .eq 7, 3) := by decide +kernel
theorem d_r_made_42 : decode b_r_made 42 = .ok (.iload_n 3, 1) := by decide +kernel
theorem d_r_made_43 : decode b_r_made 43 = .ok (.goto 5, 3) := by decide +kernel
theorem d_r_made_46 : decode b_r_made 46 = .ok (.iload 4, 2) := by decide +kernel
theorem d_r_made_48 : decode b_r_made 48 = .ok (.istore_n 3, 1) := by decide +kernel
theorem d_r_made_49 : decode b_r_made 49 = .ok (.iinc 4 (-1), 3) := by decide +kernel
theorem d_r_made_52 : decode b_r_made 52 = .ok (.goto (-44), 3) := by decide +kernel
theorem d_r_made_55 : decode b_r_made 55 = .ok (.iload_n 2, 1) := by decide +kernel
theorem d_r_made_56 : decode b_r_made 56 = .ok (.aload_n 0, 1) := by decide +kernel
theorem d_r_made_57 : decode b_r_made 57 = .ok (.getfield 99, 3) := by decide +kernel
theorem d_r_made_60 : decode b_r_made 60 = .ok (.if_icmp .lt 5, 3) := by decide +kernel
theorem d_r_made_63 : decode b_r_made 63 = .ok (.iconst (-1), 1) := by decide +kernel
theorem d_r_made_64 : decode b_r_made 64 = .ok (.ireturn, 1) := by decide +kernel
theorem d_r_made_65 : decode b_r_made 65 = .ok (.aload_n 0, 1) := by decide +kernel
theorem d_r_made_66 : decode b_r_made 66 = .ok (.getfield 7, 3) := by decide +kernel
theorem d_r_made_69 : decode b_r_made 69 = .ok (.iload_n 3, 1) := by decide +kernel
theorem d_r_made_70 : decode b_r_made 70 = .ok (.iconst 1, 1) := by decide +kernel
theorem d_r_made_71 : decode b_r_made 71 = .ok (.bastore, 1) := by decide +kernel
theorem d_r_made_72 : decode b_r_made 72 = .ok (.aload_n 0, 1) := by decide +kernel
theorem d_r_made_73 : decode b_r_made 73 = .ok (.getfield 13, 3) := by decide +kernel
theorem d_r_made_76 : decode b_r_made 76 = .ok (.iload_n 3, 1) := by decide +kernel
theorem d_r_made_77 : decode b_r_made 77 = .ok (.iload_n 1, 1) := by decide +kernel
theorem d_r_made_78 : decode b_r_made 78 = .ok (.bastore, 1) := by decide +kernel
theorem d_r_made_79 : decode b_r_made 79 = .ok (.aload_n 0, 1) := by decide +kernel
theorem d_r_made_80 : decode b_r_made 80 = .ok (.getfield 16, 3) := by decide +kernel
theorem d_r_made_83 : decode b_r_made 83 = .ok (.iload_n 3, 1) := by decide +kernel
theorem d_r_made_84 : decode b_r_made 84 = .ok (.aload_n 0, 1) := by decide +kernel
theorem d_r_made_85 : decode b_r_made 85 = .ok (.getfield 228, 3) := by decide +kernel
theorem d_r_made_88 : decode b_r_made 88 = .ok (.iastore, 1) := by decide +kernel
theorem d_r_made_89 : decode b_r_made 89 = .ok (.aload_n 0, 1) := by decide +kernel
theorem d_r_made_90 : decode b_r_made 90 = .ok (.getfield 20, 3) := by decide +kernel
theorem d_r_made_93 : decode b_r_made 93 = .ok (.iload_n 3, 1) := by decide +kernel
theorem d_r_made_94 : decode b_r_made 94 = .ok (.aload_n 0, 1) := by decide +kernel
theorem d_r_made_95 : decode b_r_made 95 = .ok (.getfield 251, 3) := by decide +kernel
theorem d_r_made_98 : decode b_r_made 98 = .ok (.lastore, 1) := by decide +kernel
theorem d_r_made_99 : decode b_r_made 99 = .ok (.aload_n 0, 1) := by decide +kernel
theorem d_r_made_100 : decode b_r_made 100 = .ok (.getfield 24, 3) := by decide +kernel
theorem d_r_made_103 : decode b_r_made 103 = .ok (.iload_n 3, 1) := by decide +kernel
theorem d_r_made_104 : decode b_r_made 104 = .ok (.iconst 0, 1) := by decide +kernel
theorem d_r_made_105 : decode b_r_made 105 = .ok (.iastore, 1) := by decide +kernel
theorem d_r_made_106 : decode b_r_made 106 = .ok (.iload_n 3, 1) := by decide +kernel
theorem d_r_made_107 : decode b_r_made 107 = .ok (.ireturn, 1) := by decide +kernel
theorem d_r_redirect_0 : decode b_r_redirect 0 = .ok (.aload_n 0, 1) := by decide +kernel
theorem d_r_redirect_1 : decode b_r_redirect 1 = .ok (.iconst 0, 1) := by decide +kernel
theorem d_r_redirect_2 : decode b_r_redirect 2 = .ok (.putfield 197, 3) := by decide +kernel
theorem d_r_redirect_5 : decode b_r_redirect 5 = .ok (.aload_n 0, 1) := by decide +kernel
theorem d_r_redirect_6 : decode b_r_redirect 6 = .ok (.iconst 0, 1) := by decide +kernel
theorem d_r_redirect_7 : decode b_r_redirect 7 = .ok (.putfield 200, 3) := by decide +kernel
theorem d_r_redirect_10 : decode b_r_redirect 10 = .ok (.aload_n 0, 1) := by decide +kernel
theorem d_r_redirect_11 : decode b_r_redirect 11 = .ok (.iload_n 2, 1) := by decide +kernel
theorem d_r_redirect_12 : decode b_r_redirect 12 = .ok (.invokevirtual 203, 3) := by decide +kernel
theorem d_r_redirect_15 : decode b_r_redirect 15 = .ok (.aload_n 0, 1) := by decide +kernel
theorem d_r_redirect_16 : decode b_r_redirect 16 = .ok (.iconst 0, 1) := by decide +kernel
theorem d_r_redirect_17 : decode b_r_redirect 17 = .ok (.invokevirtual 222, 3) := by decide +kernel
theorem d_r_redirect_20 : decode b_r_redirect 20 = .ok (.iload_n 1, 1) := by decide +kernel
theorem d_r_redirect_21 : decode b_r_redirect 21 = .ok (.iconst 5, 1) := by decide +kernel
theorem d_r_redirect_22 : decode b_r_redirect 22 = .ok (.if_icmp .ne 112, 3) := by decide +kernel
theorem d_r_redirect_25 : decode b_r_redirect 25 = .ok (.aload_n 0, 1) := by decide +kernel
theorem d_r_redirect_26 : decode b_r_redirect 26 = .ok (.getfield 225, 3) := by decide +kernel
theorem d_r_redirect_29 : decode b_r_redirect 29 = .ok (.ifCond .lt 15, 3) := by decide +kernel
theorem d_r_redirect_32 : decode b_r_redirect 32 = .ok (.aload_n 0, 1) := by decide +kernel
theorem d_r_redirect_33 : decode b_r_redirect 33 = .ok (.getfield 13, 3) := by decide +kernel
theorem d_r_redirect_36 : decode b_r_redirect 36 = .ok (.aload_n 0, 1) := by decide +kernel
theorem d_r_redirect_37 : decode b_r_redirect 37 = .ok (.getfield 225, 3) := by decide +kernel
theorem d_r_redirect_40 : decode b_r_redirect 40 = .ok (.baload, 1) := by decide +kernel
theorem d_r_redirect_41 : decode b_r_redirect 41 = .ok (.ifCond .eq 5, 3) := by decide +kernel
theorem d_r_redirect_44 : decode b_r_redirect 44 = .ok (.iconst 1, 1) := by decide +kernel
theorem d_r_redirect_45 : decode b_r_redirect 45 = .ok (.ireturn, 1) := by decide +kernel
theorem d_r_redirect_46 : decode b_r_redirect 46 = .ok (.iconst 2, 1) := by decide +kernel
theorem d_r_redirect_47 : decode b_r_redirect 47 = .ok (.aload_n 0, 1) := by decide +kernel
theorem d_r_redirect_48 : decode b_r_redirect 48 = .ok (.getfield 147, 3) := by decide +kernel
theorem d_r_redirect_51 : decode b_r_redirect 51 = .ok (.imul, 1) := by decide +kernel
theorem d_r_redirect_52 : decode b_r_redirect 52 = .ok (.iconst 1, 1) := by decide +kernel
theorem d_r_redirect_53 : decode b_r_redirect 53 = .ok (.iadd, 1) := by decide +kernel
theorem d_r_redirect_54 : decode b_r_redirect 54 = .ok (.istore_n 3, 1) := by decide +kernel
theorem d_r_redirect_55 : decode b_r_redirect 55 = .ok (.aload_n 0, 1) := by decide +kernel
theorem d_r_redirect_56 : decode b_r_redirect 56 = .ok (.getfield 81, 3) := by decide +kernel
theorem d_r_redirect_59 : decode b_r_redirect 59 = .ok (.iload_n 3, 1) := by decide +kernel
theorem d_r_redirect_60 : decode b_r_redirect 60 = .ok (.aload_n 0, 1) := by decide +kernel
theorem d_r_redirect_61 : decode b_r_redirect 61 = .ok (.getfield 24, 3) := by decide +kernel
theorem d_r_redirect_64 : decode b_r_redirect 64 = .ok (.aload_n 0, 1) := by decide +kernel
theorem d_r_redirect_65 : decode b_r_redirect 65 = .ok (.getfield 225, 3) := by decide +kernel
theorem d_r_redirect_68 : decode b_r_redirect 68 = .ok (.iaload, 1) := by decide +kernel
theorem d_r_redirect_69 : decode b_r_redirect 69 = .ok (.iastore, 1) := by decide +kernel
theorem d_r_redirect_70 : decode b_r_redirect 70 = .ok (.iconst 0, 1) := by decide +kernel
theorem d_r_redirect_71 : decode b_r_redirect 71 = .ok (.istore 4, 2) := by decide +kernel
theorem d_r_redirect_73 : decode b_r_redirect 73 = .ok (.iload 4, 2) := by decide +kernel
theorem d_r_redirect_75 : decode b_r_redirect 75 = .ok (.aload_n 0, 1) := by decide +kernel
theorem d_r_redirect_76 : decode b_r_redirect 76 = .ok (.getfield 24, 3) := by decide +kernel
theorem d_r_redirect_79 : decode b_r_redirect 79 = .ok (.aload_n 0, 1) := by decide +kernel
theorem d_r_redirect_80 : decode b_r_redirect 80 = .ok (.getfield 225, 3) := by decide +kernel
theorem d_r_redirect_83 : decode b_r_redirect 83 = .ok (.iaload, 1) := by decide +kernel
theorem d_r_redirect_84 : decode b_r_redirect 84 = .ok (.if_icmp .ge 38, 3) := by decide +kernel
theorem d_r_redirect_87 : decode b_r_redirect 87 = .ok (.aload_n 0, 1) := by decide +kernel
theorem d_r_redirect_88 : decode b_r_redirect 88 = .ok (.getfield 78, 3) := by decide +kernel
theorem d_r_redirect_91 : decode b_r_redirect 91 = .ok (.sipush 160, 3) := by decide +kernel
theorem d_r_redirect_94 : decode b_r_redirect 94 = .ok (.iload_n 3, 1) := by decide +kernel
theorem d_r_redirect_95 : decode b_r_redirect 95 = .ok (.imul, 1) := by decide +kernel
theorem d_r_redirect_96 : decode b_r_redirect 96 = .ok (.iload 4, 2) := by decide +kernel
theorem d_r_redirect_98 : decode b_r_redirect 98 = .ok (.iadd, 1) := by decide +kernel
theorem d_r_redirect_99 : decode b_r_redirect 99 = .ok (.aload_n 0, 1) := by decide +kernel
theorem d_r_redirect_100 : decode b_r_redirect 100 = .ok (.getfield 27, 3) := by decide +kernel
theorem d_r_redirect_103 : decode b_r_redirect 103 = .ok (.sipush 160, 3) := by decide +kernel
theorem d_r_redirect_106 : decode b_r_redirect 106 = .ok (.aload_n 0, 1) := by decide +kernel
theorem d_r_redirect_107 : decode b_r_redirect 107 = .ok (.getfield 225, 3) := by decide +kernel
theorem d_r_redirect_110 : decode b_r_redirect 110 = .ok (.imul, 1) := by decide +kernel
theorem d_r_redirect_111 : decode b_r_redirect 111 = .ok (.iload 4, 2) := by decide +kernel
theorem d_r_redirect_113 : decode b_r_redirect 113 = .ok (.iadd, 1) := by decide +kernel
theorem d_r_redirect_114 : decode b_r_redirect 114 = .ok (.iaload, 1) := by decide +kernel
theorem d_r_redirect_115 : decode b_r_redirect 115 = .ok (.iastore, 1) := by decide +kernel
theorem d_r_redirect_116 : decode b_r_redirect 116 = .ok (.iinc 4 1, 3) := by decide +kernel
theorem d_r_redirect_119 : decode b_r_redirect 119 = .ok (.goto (-46), 3) := by decide +kernel
theorem d_r_redirect_122 : decode b_r_redirect 122 = .ok (.aload_n 0, 1) := by decide +kernel
theorem d_r_redirect_123 : decode b_r_redirect 123 = .ok (.getfield 54, 3) := by decide +kernel
theorem d_r_redirect_126 : decode b_r_redirect 126 = .ok (.aload_n 0, 1) := by decide +kernel
theorem d_r_redirect_127 : decode b_r_redirect 127 = .ok (.getfield 147, 3) := by decide +kernel
theorem d_r_redirect_130 : decode b_r_redirect 130 = .ok (.iload_n 3, 1) := by decide +kernel
theorem d_r_redirect_131 : decode b_r_redirect 131 = .ok (.iastore, 1) := by decide +kernel
theorem d_r_redirect_132 : decode b_r_redirect 132 = .ok (.iconst 0, 1) := by decide +kernel
theorem d_r_redirect_133 : decode b_r_redirect 133 = .ok (.ireturn, 1) := by decide +kernel
theorem d_r_redirect_134 : decode b_r_redirect 134 = .ok (.aload_n 0, 1) := by decide +kernel
theorem d_r_redirect_135 : decode b_r_redirect 135 = .ok (.getfield 225, 3) := by decide +kernel
theorem d_r_redirect_138 : decode b_r_redirect 138 = .ok (.ifCond .lt 15, 3) := by decide +kernel
theorem d_r_redirect_141 : decode b_r_redirect 141 = .ok (.aload_n 0, 1) := by decide +kernel
theorem d_r_redirect_142 : decode b_r_redirect 142 = .ok (.getfield 13, 3) := by decide +kernel
theorem d_r_redirect_145 : decode b_r_redirect 145 = .ok (.aload_n 0, 1) := by decide +kernel
theorem d_r_redirect_146 : decode b_r_redirect 146 = .ok (.getfield 225, 3) := by decide +kernel
theorem d_r_redirect_149 : decode b_r_redirect 149 = .ok (.baload, 1) := by decide +kernel
theorem d_r_redirect_150 : decode b_r_redirect 150 = .ok (.ifCond .ne 17, 3) := by decide +kernel
theorem d_r_redirect_153 : decode b_r_redirect 153 = .ok (.aload_n 0, 1) := by decide +kernel
theorem d_r_redirect_154 : decode b_r_redirect 154 = .ok (.getfield 225, 3) := by decide +kernel
theorem d_r_redirect_157 : decode b_r_redirect 157 = .ok (.ifCond .ge 12, 3) := by decide +kernel
theorem d_r_redirect_160 : decode b_r_redirect 160 = .ok (.aload_n 0, 1) := by decide +kernel
theorem d_r_redirect_161 : decode b_r_redirect 161 = .ok (.getfield 228, 3) := by decide +kernel
theorem d_r_redirect_164 : decode b_r_redirect 164 = .ok (.ifCond .ge 5, 3) := by decide +kernel
theorem d_r_redirect_167 : decode b_r_redirect 167 = .ok (.iconst 1, 1) := by decide +kernel
theorem d_r_redirect_168 : decode b_r_redirect 168 = .ok (.ireturn, 1) := by decide +kernel
theorem d_r_redirect_169 : decode b_r_redirect 169 = .ok (.aload_n 0, 1) := by decide +kernel
theorem d_r_redirect_170 : decode b_r_redirect 170 = .ok (.getfield 225, 3) := by decide +kernel
theorem d_r_redirect_173 : decode b_r_redirect 173 = .ok (.ifCond .ge 11, 3) := by decide +kernel
theorem d_r_redirect_176 : decode b_r_redirect 176 = .ok (.aload_n 0, 1) := by decide +kernel
theorem d_r_redirect_177 : decode b_r_redirect 177 = .ok (.iconst 0, 1) := by decide +kernel
theorem d_r_redirect_178 : decode b_r_redirect 178 = .ok (.invokevirtual 231, 3) := by decide +kernel
theorem d_r_redirect_181 : decode b_r_redirect 181 = .ok (.goto 7, 3) := by decide +kernel
theorem d_r_redirect_184 : decode b_r_redirect 184 = .ok (.aload_n 0, 1) := by decide +kernel
theorem d_r_redirect_185 : decode b_r_redirect 185 = .ok (.getfield 225, 3) := by decide +kernel
theorem d_r_redirect_188 : decode b_r_redirect 188 = .ok (.istore_n 3, 1) := by decide +kernel
theorem d_r_redirect_189 : decode b_r_redirect 189 = .ok (.iload_n 3, 1) := by decide +kernel
theorem d_r_redirect_190 : decode b_r_redirect 190 = .ok (.ifCond .ge 6, 3) := by decide +kernel
theorem d_r_redirect_193 : decode b_r_redirect 193 = .ok (.bipush (-9), 2) := by decide +kernel
theorem d_r_redirect_195 : decode b_r_redirect 195 = .ok (.ireturn, 1) := by decide +kernel
theorem d_r_redirect_196 : decode b_r_redirect 196 = .ok (.aload_n 0, 1) := by decide +kernel
theorem d_r_redirect_197 : decode b_r_redirect 197 = .ok (.getfield 24, 3) := by decide +kernel
theorem d_r_redirect_200 : decode b_r_redirect 200 = .ok (.iload_n 3, 1) := by decide +kernel
theorem d_r_redirect_201 : decode b_r_redirect 201 = .ok (.iload_n 1, 1) := by decide +kernel
theorem d_r_redirect_202 : decode b_r_redirect 202 = .ok (.bipush 7, 2) := by decide +kernel
theorem d_r_redirect_204 : decode b_r_redirect 204 = .ok (.if_icmp .ne 7, 3) := by decide +kernel
theorem d_r_redirect_207 : decode b_r_redirect 207 = .ok (.iconst 0, 1) := by decide +kernel
theorem d_r_redirect_208 : decode b_r_redirect 208 = .ok (.goto 9, 3) := by decide +kernel
theorem d_r_redirect_211 : decode b_r_redirect 211 = .ok (.aload_n 0, 1) := by decide +kernel
theorem d_r_redirect_212 : decode b_r_redirect 212 = .ok (.getfield 24, 3) := by decide +kernel
theorem d_r_redirect_215 : decode b_r_redirect 215 = .ok (.iload_n 3, 1) := by decide +kernel
theorem d_r_redirect_216 : decode b_r_redirect 216 = .ok (.iaload, 1) := by decide +kernel
theorem d_r_redirect_217 : decode b_r_redirect 217 = .ok (.iastore, 1) := by decide +kernel
theorem d_r_redirect_218 : decode b_r_redirect 218 = .ok (.aload_n 0, 1) := by decide +kernel
theorem d_r_redirect_219 : decode b_r_redirect 219 = .ok (.getfield 60, 3) := by decide +kernel
theorem d_r_redirect_222 : decode b_r_redirect 222 = .ok (.aload_n 0, 1) := by decide +kernel
theorem d_r_redirect_223 : decode b_r_redirect 223 = .ok (.getfield 147, 3) := by decide +kernel
theorem d_r_redirect_226 : decode b_r_redirect 226 = .ok (.iload_n 3, 1) := by decide +kernel
theorem d_r_redirect_227 : decode b_r_redirect 227 = .ok (.iastore, 1) := by decide +kernel
theorem d_r_redirect_228 : decode b_r_redirect 228 = .ok (.iconst 0, 1) := by decide +kernel
theorem d_r_redirect_229 : decode b_r_redirect 229 = .ok (.ireturn, 1) := by decide +kernel
theorem d_r_wordAs_0 : decode b_r_wordAs 0 = .ok (.aload_n 0, 1) := by decide +kernel
theorem d_r_wordAs_1 : decode b_r_wordAs 1 = .ok (.aload_n 0, 1) := by decide +kernel
theorem d_r_wordAs_2 : decode b_r_wordAs 2 = .ok (.getfield 42, 3) := by decide +kernel
theorem d_r_wordAs_5 : decode b_r_wordAs 5 = .ok (.iload_n 1, 1) := by decide +kernel
theorem d_r_wordAs_6 : decode b_r_wordAs 6 = .ok (.iaload, 1) := by decide +kernel
theorem d_r_wordAs_7 : decode b_r_wordAs 7 = .ok (.aload_n 0, 1) := by decide +kernel
theorem d_r_wordAs_8 : decode b_r_wordAs 8 = .ok (.getfield 45, 3) := by decide +kernel
theorem d_r_wordAs_11 : decode b_r_wordAs 11 = .ok (.iload_n 1, 1) := by decide +kernel
theorem d_r_wordAs_12 : decode b_r_wordAs 12 = .ok (.iaload, 1) := by decide +kernel
theorem d_r_wordAs_13 : decode b_r_wordAs 13 = .ok (.invokevirtual 243, 3) := by decide +kernel
theorem d_r_wordAs_16 : decode b_r_wordAs 16 = .ok (.lreturn, 1) := by decide +kernel
theorem d_r_emit_0 : decode b_r_emit 0 = .ok (.aload_n 0, 1) := by decide +kernel
theorem d_r_emit_1 : decode b_r_emit 1 = .ok (.getfield 186, 3) := by decide +kernel
theorem d_r_emit_4 : decode b_r_emit 4 = .ok (.aload_n 0, 1) := by decide +kernel
theorem d_r_emit_5 : decode b_r_emit 5 = .ok (.getfield 106, 3) := by decide +kernel
theorem d_r_emit_8 : decode b_r_emit 8 = .ok (.if_icmp .lt 11, 3) := by decide +kernel
theorem d_r_emit_11 : decode b_r_emit 11 = .ok (.aload_n 0, 1) := by decide +kernel
theorem d_r_emit_12 : decode b_r_emit 12 = .ok (.iconst 1, 1) := by decide +kernel
theorem d_r_emit_13 : decode b_r_emit 13 = .ok (.putfield 189, 3) := by decide +kernel
theorem d_r_emit_16 : decode b_r_emit 16 = .ok (.goto 23, 3) := by decide +kernel
theorem d_r_emit_19 : decode b_r_emit 19 = .ok (.aload_n 0, 1) := by decide +kernel
theorem d_r_emit_20 : decode b_r_emit 20 = .ok (.getfield 84, 3) := by decide +kernel
theorem d_r_emit_23 : decode b_r_emit 23 = .ok (.aload_n 0, 1) := by decide +kernel
theorem d_r_emit_24 : decode b_r_emit 24 = .ok (.getfield 186, 3) := by decide +kernel
theorem d_r_emit_27 : decode b_r_emit 27 = .ok (.iload_n 1, 1) := by decide +kernel
theorem d_r_emit_28 : decode b_r_emit 28 = .ok (.iastore, 1) := by decide +kernel
theorem d_r_emit_29 : decode b_r_emit 29 = .ok (.aload_n 0, 1) := by decide +kernel
theorem d_r_emit_30 : decode b_r_emit 30 = .ok (.dup, 1) := by decide +kernel
theorem d_r_emit_31 : decode b_r_emit 31 = .ok (.getfield 186, 3) := by decide +kernel
theorem d_r_emit_34 : decode b_r_emit 34 = .ok (.iconst 1, 1) := by decide +kernel
theorem d_r_emit_35 : decode b_r_emit 35 = .ok (.iadd, 1) := by decide +kernel
theorem d_r_emit_36 : decode b_r_emit 36 = .ok (.putfield 186, 3) := by decide +kernel
theorem d_r_emit_39 : decode b_r_emit 39 = .ok (.return_, 1) := by decide +kernel
theorem d_r_echo_0 : decode b_r_echo 0 = .ok (.aload_n 0, 1) := by decide +kernel
theorem d_r_echo_1 : decode b_r_echo 1 = .ok (.getfield 197, 3) := by decide +kernel
theorem d_r_echo_4 : decode b_r_echo 4 = .ok (.iconst 1, 1) := by decide +kernel
theorem d_r_echo_5 : decode b_r_echo 5 = .ok (.if_icmp .le 19, 3) := by decide +kernel
theorem d_r_echo_8 : decode b_r_echo 8 = .ok (.aload_n 0, 1) := by decide +kernel
theorem d_r_echo_9 : decode b_r_echo 9 = .ok (.iconst 1, 1) := by decide +kernel
theorem d_r_echo_10 : decode b_r_echo 10 = .ok (.invokevirtual 271, 3) := by decide +kernel
theorem d_r_echo_13 : decode b_r_echo 13 = .ok (.ldc2_w 310, 3) := by decide +kernel
theorem d_r_echo_16 : decode b_r_echo 16 = .ok (.lcmp, 1) := by decide +kernel
theorem d_r_echo_17 : decode b_r_echo 17 = .ok (.ifCond .ne 7, 3) := by decide +kernel
theorem d_r_echo_20 : decode b_r_echo 20 = .ok (.iconst 1, 1) := by decide +kernel
theorem d_r_echo_21 : decode b_r_echo 21 = .ok (.goto 4, 3) := by decide +kernel
theorem d_r_echo_24 : decode b_r_echo 24 = .ok (.iconst 0, 1) := by decide +kernel
theorem d_r_echo_25 : decode b_r_echo 25 = .ok (.istore_n 1, 1) := by decide +kernel
theorem d_r_echo_26 : decode b_r_echo 26 = .ok (.iload_n 1, 1) := by decide +kernel
theorem d_r_echo_27 : decode b_r_echo 27 = .ok (.ifCond .eq 7, 3) := by decide +kernel
theorem d_r_echo_30 : decode b_r_echo 30 = .ok (.iconst 2, 1) := by decide +kernel
theorem d_r_echo_31 : decode b_r_echo 31 = .ok (.goto 4, 3) := by decide +kernel
theorem d_r_echo_34 : decode b_r_echo 34 = .ok (.iconst 1, 1) := by decide +kernel
theorem d_r_echo_35 : decode b_r_echo 35 = .ok (.istore_n 2, 1) := by decide +kernel
theorem d_r_echo_36 : decode b_r_echo 36 = .ok (.iload_n 2, 1) := by decide +kernel
theorem d_r_echo_37 : decode b_r_echo 37 = .ok (.istore_n 3, 1) := by decide +kernel
theorem d_r_echo_38 : decode b_r_echo 38 = .ok (.iload_n 3, 1) := by decide +kernel
theorem d_r_echo_39 : decode b_r_echo 39 = .ok (.aload_n 0, 1) := by decide +kernel
theorem d_r_echo_40 : decode b_r_echo 40 = .ok (.getfield 197, 3) := by decide +kernel
theorem d_r_echo_43 : decode b_r_echo 43 = .ok (.if_icmp .ge 56, 3) := by decide +kernel
theorem d_r_echo_46 : decode b_r_echo 46 = .ok (.iload_n 3, 1) := by decide +kernel
theorem d_r_echo_47 : decode b_r_echo 47 = .ok (.iload_n 2, 1) := by decide +kernel
theorem d_r_echo_48 : decode b_r_echo 48 = .ok (.if_icmp .le 9, 3) := by decide +kernel
theorem d_r_echo_51 : decode b_r_echo 51 = .ok (.aload_n 0, 1) := by decide +kernel
theorem d_r_echo_52 : decode b_r_echo 52 = .ok (.bipush 32, 2) := by decide +kernel
theorem d_r_echo_54 : decode b_r_echo 54 = .ok (.invokevirtual 262, 3) := by decide +kernel
theorem d_r_echo_57 : decode b_r_echo 57 = .ok (.aload_n 0, 1) := by decide +kernel
theorem d_r_echo_58 : decode b_r_echo 58 = .ok (.getfield 42, 3) := by decide +kernel
theorem d_r_echo_61 : decode b_r_echo 61 = .ok (.iload_n 3, 1) := by decide +kernel
theorem d_r_echo_62 : decode b_r_echo 62 = .ok (.iaload, 1) := by decide +kernel
theorem d_r_echo_63 : decode b_r_echo 63 = .ok (.istore 4, 2) := by decide +kernel
theorem d_r_echo_65 : decode b_r_echo 65 = .ok (.iload 4, 2) := by decide +kernel
theorem d_r_echo_67 : decode b_r_echo 67 = .ok (.aload_n 0, 1) := by decide +kernel
theorem d_r_echo_68 : decode b_r_echo 68 = .ok (.getfield 45, 3) := by decide +kernel
theorem d_r_echo_71 : decode b_r_echo 71 = .ok (.iload_n 3, 1) := by decide +kernel
theorem d_r_echo_72 : decode b_r_echo 72 = .ok (.iaload, 1) := by decide +kernel
theorem d_r_echo_73 : decode b_r_echo 73 = .ok (.if_icmp .ge 20, 3) := by decide +kernel
theorem d_r_echo_76 : decode b_r_echo 76 = .ok (.aload_n 0, 1) := by decide +kernel
theorem d_r_echo_77 : decode b_r_echo 77 = .ok (.aload_n 0, 1) := by decide +kernel
theorem d_r_echo_78 : decode b_r_echo 78 = .ok (.getfield 48, 3) := by decide +kernel
theorem d_r_echo_81 : decode b_r_echo 81 = .ok (.iload 4, 2) := by decide +kernel
theorem d_r_echo_83 : decode b_r_echo 83 = .ok (.iaload, 1) := by decide +kernel
theorem d_r_echo_84 : decode b_r_echo 84 = .ok (.invokevirtual 262, 3) := by decide +kernel
theorem d_r_echo_87 : decode b_r_echo 87 = .ok (.iinc 4 1, 3) := by decide +kernel
theorem d_r_echo_90 : decode b_r_echo 90 = .ok (.goto (-25), 3) := by decide +kernel
theorem d_r_echo_93 : decode b_r_echo 93 = .ok (.iinc 3 1, 3) := by decide +kernel
theorem d_r_echo_96 : decode b_r_echo 96 = .ok (.goto (-58), 3) := by decide +kernel
theorem d_r_echo_99 : decode b_r_echo 99 = .ok (.iload_n 1, 1) := by decide +kernel
theorem d_r_echo_100 : decode b_r_echo 100 = .ok (.ifCond .ne 9, 3) := by decide +kernel
theorem d_r_echo_103 : decode b_r_echo 103 = .ok (.aload_n 0, 1) := by decide +kernel
theorem d_r_echo_104 : decode b_r_echo 104 = .ok (.bipush 10, 2) := by decide +kernel
theorem d_r_echo_106 : decode b_r_echo 106 = .ok (.invokevirtual 262, 3) := by decide +kernel
theorem d_r_echo_109 : decode b_r_echo 109 = .ok (.iconst 0, 1) := by decide +kernel
theorem d_r_echo_110 : decode b_r_echo 110 = .ok (.ireturn, 1) := by decide +kernel
theorem d_r_reads_0 : decode b_r_reads 0 = .ok (.aload_n 0, 1) := by decide +kernel
theorem d_r_reads_1 : decode b_r_reads 1 = .ok (.iconst 0, 1) := by decide +kernel
theorem d_r_reads_2 : decode b_r_reads 2 = .ok (.putfield 265, 3) := by decide +kernel
theorem d_r_reads_5 : decode b_r_reads 5 = .ok (.iload_n 1, 1) := by decide +kernel
theorem d_r_reads_6 : decode b_r_reads 6 = .ok (.aload_n 0, 1) := by decide +kernel
theorem d_r_reads_7 : decode b_r_reads 7 = .ok (.getfield 197, 3) := by decide +kernel
theorem d_r_reads_10 : decode b_r_reads 10 = .ok (.if_icmp .ge 82, 3) := by decide +kernel
theorem d_r_reads_13 : decode b_r_reads 13 = .ok (.aload_n 0, 1) := by decide +kernel
theorem d_r_reads_14 : decode b_r_reads 14 = .ok (.iload_n 1, 1) := by decide +kernel
theorem d_r_reads_15 : decode b_r_reads 15 = .ok (.invokevirtual 222, 3) := by decide +kernel
theorem d_r_reads_18 : decode b_r_reads 18 = .ok (.aload_n 0, 1) := by decide +kernel
theorem d_r_reads_19 : decode b_r_reads 19 = .ok (.getfield 225, 3) := by decide +kernel
theorem d_r_reads_22 : decode b_r_reads 22 = .ok (.ifCond .lt 15, 3) := by decide +kernel
theorem d_r_reads_25 : decode b_r_reads 25 = .ok (.aload_n 0, 1) := by decide +kernel
theorem d_r_reads_26 : decode b_r_reads 26 = .ok (.getfield 13, 3) := by decide +kernel
theorem d_r_reads_29 : decode b_r_reads 29 = .ok (.aload_n 0, 1) := by decide +kernel
theorem d_r_reads_30 : decode b_r_reads 30 = .ok (.getfield 225, 3) := by decide +kernel
theorem d_r_reads_33 : decode b_r_reads 33 = .ok (.baload, 1) := by decide +kernel
theorem d_r_reads_34 : decode b_r_reads 34 = .ok (.ifCond .eq 5, 3) := by decide +kernel
theorem d_r_reads_37 : decode b_r_reads 37 = .ok (.iconst 0, 1) := by decide +kernel
theorem d_r_reads_38 : decode b_r_reads 38 = .ok (.ireturn, 1) := by decide +kernel
theorem d_r_reads_39 : decode b_r_reads 39 = .ok (.aload_n 0, 1) := by decide +kernel
theorem d_r_reads_40 : decode b_r_reads 40 = .ok (.aload_n 0, 1) := by decide +kernel
theorem d_r_reads_41 : decode b_r_reads 41 = .ok (.getfield 24, 3) := by decide +kernel
theorem d_r_reads_44 : decode b_r_reads 44 = .ok (.aload_n 0, 1) := by decide +kernel
theorem d_r_reads_45 : decode b_r_reads 45 = .ok (.getfield 225, 3) := by decide +kernel
theorem d_r_reads_48 : decode b_r_reads 48 = .ok (.iaload, 1) := by decide +kernel
theorem d_r_reads_49 : decode b_r_reads 49 = .ok (.putfield 265, 3) := by decide +kernel
theorem d_r_reads_52 : decode b_r_reads 52 = .ok (.iconst 0, 1) := by decide +kernel
theorem d_r_reads_53 : decode b_r_reads 53 = .ok (.istore_n 2, 1) := by decide +kernel
theorem d_r_reads_54 : decode b_r_reads 54 = .ok (.iload_n 2, 1) := by decide +kernel
theorem d_r_reads_55 : decode b_r_reads 55 = .ok (.aload_n 0, 1) := by decide +kernel
theorem d_r_reads_56 : decode b_r_reads 56 = .ok (.getfield 265, 3) := by decide +kernel
theorem d_r_reads_59 : decode b_r_reads 59 = .ok (.if_icmp .ge 30, 3) := by decide +kernel
theorem d_r_reads_62 : decode b_r_reads 62 = .ok (.aload_n 0, 1) := by decide +kernel
theorem d_r_reads_63 : decode b_r_reads 63 = .ok (.getfield 87, 3) := by decide +kernel
theorem d_r_reads_66 : decode b_r_reads 66 = .ok (.iload_n 2, 1) := by decide +kernel
theorem d_r_reads_67 : decode b_r_reads 67 = .ok (.aload_n 0, 1) := by decide +kernel
theorem d_r_reads_68 : decode b_r_reads 68 = .ok (.getfield 27, 3) := by decide +kernel
theorem d_r_reads_71 : decode b_r_reads 71 = .ok (.sipush 160, 3) := by decide +kernel
theorem d_r_reads_74 : decode b_r_reads 74 = .ok (.aload_n 0, 1) := by decide +kernel
theorem d_r_reads_75 : decode b_r_reads 75 = .ok (.getfield 225, 3) := by decide +kernel
theorem d_r_reads_78 : decode b_r_reads 78 = .ok (.imul, 1) := by decide +kernel
theorem d_r_reads_79 : decode b_r_reads 79 = .ok (.iload_n 2, 1) := by decide +kernel
theorem d_r_reads_80 : decode b_r_reads 80 = .ok (.iadd, 1) := by decide +kernel
theorem d_r_reads_81 : decode b_r_reads 81 = .ok (.iaload, 1) := by decide +kernel
theorem d_r_reads_82 : decode b_r_reads 82 = .ok (.iastore, 1) := by decide +kernel
theorem d_r_reads_83 : decode b_r_reads 83 = .ok (.iinc 2 1, 3) := by decide +kernel
theorem d_r_reads_86 : decode b_r_reads 86 = .ok (.goto (-32), 3) := by decide +kernel
theorem d_r_reads_89 : decode b_r_reads 89 = .ok (.goto 76, 3) := by decide +kernel
theorem d_r_reads_92 : decode b_r_reads 92 = .ok (.aload_n 0, 1) := by decide +kernel
theorem d_r_reads_93 : decode b_r_reads 93 = .ok (.getfield 54, 3) := by decide +kernel
theorem d_r_reads_96 : decode b_r_reads 96 = .ok (.aload_n 0, 1) := by decide +kernel
theorem d_r_reads_97 : decode b_r_reads 97 = .ok (.getfield 147, 3) := by decide +kernel
theorem d_r_reads_100 : decode b_r_reads 100 = .ok (.iaload, 1) := by decide +kernel
theorem d_r_reads_101 : decode b_r_reads 101 = .ok (.ifCond .lt 64, 3) := by decide +kernel
theorem d_r_reads_104 : decode b_r_reads 104 = .ok (.aload_n 0, 1) := by decide +kernel
theorem d_r_reads_105 : decode b_r_reads 105 = .ok (.getfield 54, 3) := by decide +kernel
theorem d_r_reads_108 : decode b_r_reads 108 = .ok (.aload_n 0, 1) := by decide +kernel
theorem d_r_reads_109 : decode b_r_reads 109 = .ok (.getfield 147, 3) := by decide +kernel
theorem d_r_reads_112 : decode b_r_reads 112 = .ok (.iaload, 1) := by decide +kernel
theorem d_r_reads_113 : decode b_r_reads 113 = .ok (.istore_n 2, 1) := by decide +kernel
theorem d_r_reads_114 : decode b_r_reads 114 = .ok (.aload_n 0, 1) := by decide +kernel
theorem d_r_reads_115 : decode b_r_reads 115 = .ok (.aload_n 0, 1) := by decide +kernel
theorem d_r_reads_116 : decode b_r_reads 116 = .ok (.getfield 81, 3) := by decide +kernel
theorem d_r_reads_119 : decode b_r_reads 119 = .ok (.iload_n 2, 1) := by decide +kernel
theorem d_r_reads_120 : decode b_r_reads 120 = .ok (.iaload, 1) := by decide +kernel
theorem d_r_reads_121 : decode b_r_reads 121 = .ok (.putfield 265, 3) := by decide +kernel
theorem d_r_reads_124 : decode b_r_reads 124 = .ok (.iconst 0, 1) := by decide +kernel
theorem d_r_reads_125 : decode b_r_reads 125 = .ok (.istore_n 3, 1) := by decide +kernel
theorem d_r_reads_126 : decode b_r_reads 126 = .ok (.iload_n 3, 1) := by decide +kernel
theorem d_r_reads_127 : decode b_r_reads 127 = .ok (.aload_n 0, 1) := by decide +kernel
theorem d_r_reads_128 : decode b_r_reads 128 = .ok (.getfield 265, 3) := by decide +kernel
theorem d_r_reads_131 : decode b_r_reads 131 = .ok (.if_icmp .ge 27, 3) := by decide +kernel
theorem d_r_reads_134 : decode b_r_reads 134 = .ok (.aload_n 0, 1) := by decide +kernel
theorem d_r_reads_135 : decode b_r_reads 135 = .ok (.getfield 87, 3) := by decide +kernel
theorem d_r_reads_138 : decode b_r_reads 138 = .ok (.iload_n 3, 1) := by decide +kernel
theorem d_r_reads_139 : decode b_r_reads 139 = .ok (.aload_n 0, 1) := by decide +kernel
theorem d_r_reads_140 : decode b_r_reads 140 = .ok (.getfield 78, 3) := by decide +kernel
theorem d_r_reads_143 : decode b_r_reads 143 = .ok (.sipush 160, 3) := by decide +kernel
theorem d_r_reads_146 : decode b_r_reads 146 = .ok (.iload_n 2, 1) := by decide +kernel
theorem d_r_reads_147 : decode b_r_reads 147 = .ok (.imul, 1) := by decide +kernel
theorem d_r_reads_148 : decode b_r_reads 148 = .ok (.iload_n 3, 1) := by decide +kernel
theorem d_r_reads_149 : decode b_r_reads 149 = .ok (.iadd, 1) := by decide +kernel
theorem d_r_reads_150 : decode b_r_reads 150 = .ok (.iaload, 1) := by decide +kernel
theorem d_r_reads_151 : decode b_r_reads 151 = .ok (.iastore, 1) := by decide +kernel
theorem d_r_reads_152 : decode b_r_reads 152 = .ok (.iinc 3 1, 3) := by decide +kernel
theorem d_r_reads_155 : decode b_r_reads 155 = .ok (.goto (-29), 3) := by decide +kernel
theorem d_r_reads_158 : decode b_r_reads 158 = .ok (.aload_n 0, 1) := by decide +kernel
theorem d_r_reads_159 : decode b_r_reads 159 = .ok (.getfield 81, 3) := by decide +kernel
theorem d_r_reads_162 : decode b_r_reads 162 = .ok (.iload_n 2, 1) := by decide +kernel
theorem d_r_reads_163 : decode b_r_reads 163 = .ok (.iconst 0, 1) := by decide +kernel
theorem d_r_reads_164 : decode b_r_reads 164 = .ok (.iastore, 1) := by decide +kernel
theorem d_r_reads_165 : decode b_r_reads 165 = .ok (.aload_n 0, 1) := by decide +kernel
theorem d_r_reads_166 : decode b_r_reads 166 = .ok (.iconst 0, 1) := by decide +kernel
theorem d_r_reads_167 : decode b_r_reads 167 = .ok (.putfield 268, 3) := by decide +kernel
theorem d_r_reads_170 : decode b_r_reads 170 = .ok (.iconst 0, 1) := by decide +kernel
theorem d_r_reads_171 : decode b_r_reads 171 = .ok (.istore_n 2, 1) := by decide +kernel
theorem d_r_reads_172 : decode b_r_reads 172 = .ok (.iconst 0, 1) := by decide +kernel
theorem d_r_reads_173 : decode b_r_reads 173 = .ok (.istore_n 3, 1) := by decide +kernel
theorem d_r_reads_174 : decode b_r_reads 174 = .ok (.iload_n 3, 1) := by decide +kernel
theorem d_r_reads_175 : decode b_r_reads 175 = .ok (.aload_n 0, 1) := by decide +kernel
theorem d_r_reads_176 : decode b_r_reads 176 = .ok (.getfield 265, 3) := by decide +kernel
theorem d_r_reads_179 : decode b_r_reads 179 = .ok (.if_icmp .gt 87, 3) := by decide +kernel
theorem d_r_reads_182 : decode b_r_reads 182 = .ok (.iload_n 3, 1) := by decide +kernel
theorem d_r_reads_183 : decode b_r_reads 183 = .ok (.aload_n 0, 1) := by decide +kernel
theorem d_r_reads_184 : decode b_r_reads 184 = .ok (.getfield 265, 3) := by decide +kernel
theorem d_r_reads_187 : decode b_r_reads 187 = .ok (.if_icmp .ge 22, 3) := by decide +kernel
theorem d_r_reads_190 : decode b_r_reads 190 = .ok (.aload_n 0, 1) := by decide +kernel
theorem d_r_reads_191 : decode b_r_reads 191 = .ok (.getfield 87, 3) := by decide +kernel
theorem d_r_reads_194 : decode b_r_reads 194 = .ok (.iload_n 3, 1) := by decide +kernel
theorem d_r_reads_195 : decode b_r_reads 195 = .ok (.iaload, 1) := by decide +kernel
theorem d_r_reads_196 : decode b_r_reads 196 = .ok (.bipush 10, 2) := by decide +kernel
theorem d_r_reads_198 : decode b_r_reads 198 = .ok (.if_icmp .ne 7, 3) := by decide +kernel
theorem d_r_reads_201 : decode b_r_reads 201 = .ok (.iconst 1, 1) := by decide +kernel
theorem d_r_reads_202 : decode b_r_reads 202 = .ok (.goto 17, 3) := by decide +kernel
theorem d_r_reads_205 : decode b_r_reads 205 = .ok (.iconst 0, 1) := by decide +kernel
theorem d_r_reads_206 : decode b_r_reads 206 = .ok (.goto 13, 3) := by decide +kernel
theorem d_r_reads_209 : decode b_r_reads 209 = .ok (.iload_n 2, 1) := by decide +kernel
theorem d_r_reads_210 : decode b_r_reads 210 = .ok (.iload_n 3, 1) := by decide +kernel
theorem d_r_reads_211 : decode b_r_reads 211 = .ok (.if_icmp .ge 7, 3) := by decide +kernel
theorem d_r_reads_214 : decode b_r_reads 214 = .ok (.iconst 1, 1) := by decide +kernel
theorem d_r_reads_215 : decode b_r_reads 215 = .ok (.goto 4, 3) := by decide +kernel
theorem d_r_reads_218 : decode b_r_reads 218 = .ok (.iconst 0, 1) := by decide +kernel
theorem d_r_reads_219 : decode b_r_reads 219 = .ok (.istore 4, 2) := by decide +kernel
theorem d_r_reads_221 : decode b_r_reads 221 = .ok (.iload 4, 2) := by decide +kernel
theorem d_r_reads_223 : decode b_r_reads 223 = .ok (.ifCond .eq 37, 3) := by decide +kernel
theorem d_r_reads_226 : decode b_r_reads 226 = .ok (.aload_n 0, 1) := by decide +kernel
theorem d_r_reads_227 : decode b_r_reads 227 = .ok (.getfield 90, 3) := by decide +kernel
theorem d_r_reads_230 : decode b_r_reads 230 = .ok (.aload_n 0, 1) := by decide +kernel
theorem d_r_reads_231 : decode b_r_reads 231 = .ok (.getfield 268, 3) := by decide +kernel
theorem d_r_reads_234 : decode b_r_reads 234 = .ok (.iload_n 2, 1) := by decide +kernel
theorem d_r_reads_235 : decode b_r_reads 235 = .ok (.iastore, 1) := by decide +kernel
theorem d_r_reads_236 : decode b_r_reads 236 = .ok (.aload_n 0, 1) := by decide +kernel
theorem d_r_reads_237 : decode b_r_reads 237 = .ok (.getfield 93, 3) := by decide +kernel
theorem d_r_reads_240 : decode b_r_reads 240 = .ok (.aload_n 0, 1) := by decide +kernel
theorem d_r_reads_241 : decode b_r_reads 241 = .ok (.getfield 268, 3) := by decide +kernel
theorem d_r_reads_244 : decode b_r_reads 244 = .ok (.iload_n 3, 1) := by decide +kernel
theorem d_r_reads_245 : decode b_r_reads 245 = .ok (.iastore, 1) := by decide +kernel
theorem d_r_reads_246 : decode b_r_reads 246 = .ok (.aload_n 0, 1) := by decide +kernel
theorem d_r_reads_247 : decode b_r_reads 247 = .ok (.dup, 1) := by decide +kernel
theorem d_r_reads_248 : decode b_r_reads 248 = .ok (.getfield 268, 3) := by decide +kernel
theorem d_r_reads_251 : decode b_r_reads 251 = .ok (.iconst 1, 1) := by decide +kernel
theorem d_r_reads_252 : decode b_r_reads 252 = .ok (.iadd, 1) := by decide +kernel
theorem d_r_reads_253 : decode b_r_reads 253 = .ok (.putfield 268, 3) := by decide +kernel
theorem d_r_reads_256 : decode b_r_reads 256 = .ok (.iload_n 3, 1) := by decide +kernel
theorem d_r_reads_257 : decode b_r_reads 257 = .ok (.iconst 1, 1) := by decide +kernel
theorem d_r_reads_258 : decode b_r_reads 258 = .ok (.iadd, 1) := by decide +kernel
theorem d_r_reads_259 : decode b_r_reads 259 = .ok (.istore_n 2, 1) := by decide +kernel
theorem d_r_reads_260 : decode b_r_reads 260 = .ok (.iinc 3 1, 3) := by decide +kernel
theorem d_r_reads_263 : decode b_r_reads 263 = .ok (.goto (-89), 3) := by decide +kernel
theorem d_r_reads_266 : decode b_r_reads 266 = .ok (.iconst 1, 1) := by decide +kernel
theorem d_r_reads_267 : decode b_r_reads 267 = .ok (.ireturn, 1) := by decide +kernel
theorem d_r_cat_0 : decode b_r_cat 0 = .ok (.iconst 1, 1) := by decide +kernel
theorem d_r_cat_1 : decode b_r_cat 1 = .ok (.istore_n 1, 1) := by decide +kernel
theorem d_r_cat_2 : decode b_r_cat 2 = .ok (.iload_n 1, 1) := by decide +kernel
theorem d_r_cat_3 : decode b_r_cat 3 = .ok (.aload_n 0, 1) := by decide +kernel
theorem d_r_cat_4 : decode b_r_cat 4 = .ok (.getfield 197, 3) := by decide +kernel
theorem d_r_cat_7 : decode b_r_cat 7 = .ok (.if_icmp .ge 35, 3) := by decide +kernel
theorem d_r_cat_10 : decode b_r_cat 10 = .ok (.aload_n 0, 1) := by decide +kernel
theorem d_r_cat_11 : decode b_r_cat 11 = .ok (.iload_n 1, 1) := by decide +kernel
theorem d_r_cat_12 : decode b_r_cat 12 = .ok (.invokevirtual 222, 3) := by decide +kernel
theorem d_r_cat_15 : decode b_r_cat 15 = .ok (.aload_n 0, 1) := by decide +kernel
theorem d_r_cat_16 : decode b_r_cat 16 = .ok (.getfield 225, 3) := by decide +kernel
theorem d_r_cat_19 : decode b_r_cat 19 = .ok (.ifCond .lt 15, 3) := by decide +kernel
theorem d_r_cat_22 : decode b_r_cat 22 = .ok (.aload_n 0, 1) := by decide +kernel
theorem d_r_cat_23 : decode b_r_cat 23 = .ok (.getfield 13, 3) := by decide +kernel
theorem d_r_cat_26 : decode b_r_cat 26 = .ok (.aload_n 0, 1) := by decide +kernel
theorem d_r_cat_27 : decode b_r_cat 27 = .ok (.getfield 225, 3) := by decide +kernel
theorem d_r_cat_30 : decode b_r_cat 30 = .ok (.baload, 1) := by decide +kernel
theorem d_r_cat_31 : decode b_r_cat 31 = .ok (.ifCond .eq 5, 3) := by decide +kernel
theorem d_r_cat_34 : decode b_r_cat 34 = .ok (.iconst 1, 1) := by decide +kernel
theorem d_r_cat_35 : decode b_r_cat 35 = .ok (.ireturn, 1) := by decide +kernel
theorem d_r_cat_36 : decode b_r_cat 36 = .ok (.iinc 1 1, 3) := by decide +kernel
theorem d_r_cat_39 : decode b_r_cat 39 = .ok (.goto (-37), 3) := by decide +kernel
theorem d_r_cat_42 : decode b_r_cat 42 = .ok (.aload_n 0, 1) := by decide +kernel
theorem d_r_cat_43 : decode b_r_cat 43 = .ok (.getfield 197, 3) := by decide +kernel
theorem d_r_cat_46 : decode b_r_cat 46 = .ok (.iconst 1, 1) := by decide +kernel
theorem d_r_cat_47 : decode b_r_cat 47 = .ok (.if_icmp .ne 7, 3) := by decide +kernel
theorem d_r_cat_50 : decode b_r_cat 50 = .ok (.iconst 2, 1) := by decide +kernel
theorem d_r_cat_51 : decode b_r_cat 51 = .ok (.goto 7, 3) := by decide +kernel
theorem d_r_cat_54 : decode b_r_cat 54 = .ok (.aload_n 0, 1) := by decide +kernel
theorem d_r_cat_55 : decode b_r_cat 55 = .ok (.getfield 197, 3) := by decide +kernel
theorem d_r_cat_58 : decode b_r_cat 58 = .ok (.istore_n 1, 1) := by decide +kernel
theorem d_r_cat_59 : decode b_r_cat 59 = .ok (.iconst 1, 1) := by decide +kernel
theorem d_r_cat_60 : decode b_r_cat 60 = .ok (.istore_n 2, 1) := by decide +kernel
theorem d_r_cat_61 : decode b_r_cat 61 = .ok (.iload_n 2, 1) := by decide +kernel
theorem d_r_cat_62 : decode b_r_cat 62 = .ok (.iload_n 1, 1) := by decide +kernel
theorem d_r_cat_63 : decode b_r_cat 63 = .ok (.if_icmp .ge 48, 3) := by decide +kernel
theorem d_r_cat_66 : decode b_r_cat 66 = .ok (.aload_n 0, 1) := by decide +kernel
theorem d_r_cat_67 : decode b_r_cat 67 = .ok (.iload_n 2, 1) := by decide +kernel
theorem d_r_cat_68 : decode b_r_cat 68 = .ok (.invokevirtual 312, 3) := by decide +kernel
theorem d_r_cat_71 : decode b_r_cat 71 = .ok (.istore_n 3, 1) := by decide +kernel
theorem d_r_cat_72 : decode b_r_cat 72 = .ok (.iconst 0, 1) := by decide +kernel
theorem d_r_cat_73 : decode b_r_cat 73 = .ok (.istore 4, 2) := by decide +kernel
theorem d_r_cat_75 : decode b_r_cat 75 = .ok (.iload 4, 2) := by decide +kernel
theorem d_r_cat_77 : decode b_r_cat 77 = .ok (.aload_n 0, 1) := by decide +kernel
theorem d_r_cat_78 : decode b_r_cat 78 = .ok (.getfield 265, 3) := by decide +kernel
theorem d_r_cat_81 : decode b_r_cat 81 = .ok (.if_icmp .ge 24, 3) := by decide +kernel
theorem d_r_cat_84 : decode b_r_cat 84 = .ok (.iload_n 3, 1) := by decide +kernel
theorem d_r_cat_85 : decode b_r_cat 85 = .ok (.ifCond .eq 20, 3) := by decide +kernel
theorem d_r_cat_88 : decode b_r_cat 88 = .ok (.aload_n 0, 1) := by decide +kernel
theorem d_r_cat_89 : decode b_r_cat 89 = .ok (.aload_n 0, 1) := by decide +kernel
theorem d_r_cat_90 : decode b_r_cat 90 = .ok (.getfield 87, 3) := by decide +kernel
theorem d_r_cat_93 : decode b_r_cat 93 = .ok (.iload 4, 2) := by decide +kernel
theorem d_r_cat_95 : decode b_r_cat 95 = .ok (.iaload, 1) := by decide +kernel
theorem d_r_cat_96 : decode b_r_cat 96 = .ok (.invokevirtual 262, 3) := by decide +kernel
theorem d_r_cat_99 : decode b_r_cat 99 = .ok (.iinc 4 1, 3) := by decide +kernel
theorem d_r_cat_102 : decode b_r_cat 102 = .ok (.goto (-27), 3) := by decide +kernel
theorem d_r_cat_105 : decode b_r_cat 105 = .ok (.iinc 2 1, 3) := by decide +kernel
theorem d_r_cat_108 : decode b_r_cat 108 = .ok (.goto (-47), 3) := by decide +kernel
theorem d_r_cat_111 : decode b_r_cat 111 = .ok (.iconst 0, 1) := by decide +kernel
theorem d_r_cat_112 : decode b_r_cat 112 = .ok (.ireturn, 1) := by decide +kernel
theorem d_r_emitNumber_0 : decode b_r_emitNumber 0 = .ok (.iload_n 1, 1) := by decide +kernel
theorem d_r_emitNumber_1 : decode b_r_emitNumber 1 = .ok (.invokestatic 238, 3) := by decide +kernel
theorem d_r_emitNumber_4 : decode b_r_emitNumber 4 = .ok (.istore_n 2, 1) := by decide +kernel
theorem d_r_emitNumber_5 : decode b_r_emitNumber 5 = .ok (.iload_n 2, 1) := by decide +kernel
theorem d_r_emitNumber_6 : decode b_r_emitNumber 6 = .ok (.ifCond .le 24, 3) := by decide +kernel
theorem d_r_emitNumber_9 : decode b_r_emitNumber 9 = .ok (.aload_n 0, 1) := by decide +kernel
theorem d_r_emitNumber_10 : decode b_r_emitNumber 10 = .ok (.bipush 48, 2) := by decide +kernel
theorem d_r_emitNumber_12 : decode b_r_emitNumber 12 = .ok (.iload_n 1, 1) := by decide +kernel
theorem d_r_emitNumber_13 : decode b_r_emitNumber 13 = .ok (.iload_n 2, 1) := by decide +kernel
theorem d_r_emitNumber_14 : decode b_r_emitNumber 14 = .ok (.idiv, 1) := by decide +kernel
theorem d_r_emitNumber_15 : decode b_r_emitNumber 15 = .ok (.bipush 10, 2) := by decide +kernel
theorem d_r_emitNumber_17 : decode b_r_emitNumber 17 = .ok (.irem, 1) := by decide +kernel
theorem d_r_emitNumber_18 : decode b_r_emitNumber 18 = .ok (.iadd, 1) := by decide +kernel
theorem d_r_emitNumber_19 : decode b_r_emitNumber 19 = .ok (.invokevirtual 262, 3) := by decide +kernel
theorem d_r_emitNumber_22 : decode b_r_emitNumber 22 = .ok (.iload_n 2, 1) := by decide +kernel
theorem d_r_emitNumber_23 : decode b_r_emitNumber 23 = .ok (.bipush 10, 2) := by decide +kernel
theorem d_r_emitNumber_25 : decode b_r_emitNumber 25 = .ok (.idiv, 1) := by decide +kernel
theorem d_r_emitNumber_26 : decode b_r_emitNumber 26 = .ok (.istore_n 2, 1) := by decide +kernel
theorem d_r_emitNumber_27 : decode b_r_emitNumber 27 = .ok (.goto (-22), 3) := by decide +kernel
theorem d_r_emitNumber_30 : decode b_r_emitNumber 30 = .ok (.return_, 1) := by decide +kernel
theorem d_r_wc_0 : decode b_r_wc 0 = .ok (.aload_n 0, 1) := by decide +kernel
theorem d_r_wc_1 : decode b_r_wc 1 = .ok (.getfield 197, 3) := by decide +kernel
theorem d_r_wc_4 : decode b_r_wc 4 = .ok (.iconst 2, 1) := by decide +kernel
theorem d_r_wc_5 : decode b_r_wc 5 = .ok (.if_icmp .le 5, 3) := by decide +kernel
theorem d_r_wc_8 : decode b_r_wc 8 = .ok (.iconst 2, 1) := by decide +kernel
theorem d_r_wc_9 : decode b_r_wc 9 = .ok (.ireturn, 1) := by decide +kernel
theorem d_r_wc_10 : decode b_r_wc 10 = .ok (.aload_n 0, 1) := by decide +kernel
theorem d_r_wc_11 : decode b_r_wc 11 = .ok (.iconst 1, 1) := by decide +kernel
theorem d_r_wc_12 : decode b_r_wc 12 = .ok (.invokevirtual 312, 3) := by decide +kernel
theorem d_r_wc_15 : decode b_r_wc 15 = .ok (.ifCond .ne 5, 3) := by decide +kernel
theorem d_r_wc_18 : decode b_r_wc 18 = .ok (.iconst 1, 1) := by decide +kernel
theorem d_r_wc_19 : decode b_r_wc 19 = .ok (.ireturn, 1) := by decide +kernel
theorem d_r_wc_20 : decode b_r_wc 20 = .ok (.iconst 0, 1) := by decide +kernel
theorem d_r_wc_21 : decode b_r_wc 21 = .ok (.istore_n 1, 1) := by decide +kernel
theorem d_r_wc_22 : decode b_r_wc 22 = .ok (.iconst 0, 1) := by decide +kernel
theorem d_r_wc_23 : decode b_r_wc 23 = .ok (.istore_n 2, 1) := by decide +kernel
theorem d_r_wc_24 : decode b_r_wc 24 = .ok (.iconst 0, 1) := by decide +kernel
theorem d_r_wc_25 : decode b_r_wc 25 = .ok (.istore_n 3, 1) := by decide +kernel
theorem d_r_wc_26 : decode b_r_wc 26 = .ok (.iload_n 3, 1) := by decide +kernel
theorem d_r_wc_27 : decode b_r_wc 27 = .ok (.aload_n 0, 1) := by decide +kernel
theorem d_r_wc_28 : decode b_r_wc 28 = .ok (.getfield 265, 3) := by decide +kernel
theorem d_r_wc_31 : decode b_r_wc 31 = .ok (.if_icmp .ge 100, 3) := by decide +kernel
theorem d_r_wc_34 : decode b_r_wc 34 = .ok (.aload_n 0, 1) := by decide +kernel
theorem d_r_wc_35 : decode b_r_wc 35 = .ok (.getfield 87, 3) := by decide +kernel
theorem d_r_wc_38 : decode b_r_wc 38 = .ok (.iload_n 3, 1) := by decide +kernel
theorem d_r_wc_39 : decode b_r_wc 39 = .ok (.iaload, 1) := by decide +kernel
theorem d_r_wc_40 : decode b_r_wc 40 = .ok (.bipush 10, 2) := by decide +kernel
theorem d_r_wc_42 : decode b_r_wc 42 = .ok (.if_icmp .ne 9, 3) := by decide +kernel
theorem d_r_wc_45 : decode b_r_wc 45 = .ok (.iload_n 1, 1) := by decide +kernel
theorem d_r_wc_46 : decode b_r_wc 46 = .ok (.iconst 1, 1) := by decide +kernel
theorem d_r_wc_47 : decode b_r_wc 47 = .ok (.iadd, 1) := by decide +kernel
theorem d_r_wc_48 : decode b_r_wc 48 = .ok (.goto 4, 3) := by decide +kernel
theorem d_r_wc_51 : decode b_r_wc 51 = .ok (.iload_n 1, 1) := by decide +kernel
theorem d_r_wc_52 : decode b_r_wc 52 = .ok (.istore_n 1, 1) := by decide +kernel
theorem d_r_wc_53 : decode b_r_wc 53 = .ok (.iload_n 3, 1) := by decide +kernel
theorem d_r_wc_54 : decode b_r_wc 54 = .ok (.ifCond .eq 29, 3) := by decide +kernel
theorem d_r_wc_57 : decode b_r_wc 57 = .ok (.aload_n 0, 1) := by decide +kernel
theorem d_r_wc_58 : decode b_r_wc 58 = .ok (.getfield 87, 3) := by decide +kernel
theorem d_r_wc_61 : decode b_r_wc 61 = .ok (.iload_n 3, 1) := by decide +kernel
theorem d_r_wc_62 : decode b_r_wc 62 = .ok (.iconst 1, 1) := by decide +kernel
theorem d_r_wc_63 : decode b_r_wc 63 = .ok (.isub, 1) := by decide +kernel
theorem d_r_wc_64 : decode b_r_wc 64 = .ok (.iaload, 1) := by decide +kernel
theorem d_r_wc_65 : decode b_r_wc 65 = .ok (.bipush 10, 2) := by decide +kernel
theorem d_r_wc_67 : decode b_r_wc 67 = .ok (.if_icmp .eq 16, 3) := by decide +kernel
theorem d_r_wc_70 : decode b_r_wc 70 = .ok (.aload_n 0, 1) := by decide +kernel
theorem d_r_wc_71 : decode b_r_wc 71 = .ok (.getfield 87, 3) := by decide +kernel
theorem d_r_wc_74 : decode b_r_wc 74 = .ok (.iload_n 3, 1) := by decide +kernel
theorem d_r_wc_75 : decode b_r_wc 75 = .ok (.iconst 1, 1) := by decide +kernel
theorem d_r_wc_76 : decode b_r_wc 76 = .ok (.isub, 1) := by decide +kernel
theorem d_r_wc_77 : decode b_r_wc 77 = .ok (.iaload, 1) := by decide +kernel
theorem d_r_wc_78 : decode b_r_wc 78 = .ok (.bipush 32, 2) := by decide +kernel
theorem d_r_wc_80 : decode b_r_wc 80 = .ok (.if_icmp .ne 7, 3) := by decide +kernel
theorem d_r_wc_83 : decode b_r_wc 83 = .ok (.iconst 1, 1) := by decide +kernel
theorem d_r_wc_84 : decode b_r_wc 84 = .ok (.goto 4, 3) := by decide +kernel
theorem d_r_wc_87 : decode b_r_wc 87 = .ok (.iconst 0, 1) := by decide +kernel
theorem d_r_wc_88 : decode b_r_wc 88 = .ok (.istore 4, 2) := by decide +kernel
theorem d_r_wc_90 : decode b_r_wc 90 = .ok (.iload 4, 2) := by decide +kernel
theorem d_r_wc_92 : decode b_r_wc 92 = .ok (.ifCond .eq 31, 3) := by decide +kernel
theorem d_r_wc_95 : decode b_r_wc 95 = .ok (.aload_n 0, 1) := by decide +kernel
theorem d_r_wc_96 : decode b_r_wc 96 = .ok (.getfield 87, 3) := by decide +kernel
theorem d_r_wc_99 : decode b_r_wc 99 = .ok (.iload_n 3, 1) := by decide +kernel
theorem d_r_wc_100 : decode b_r_wc 100 = .ok (.iaload, 1) := by decide +kernel
theorem d_r_wc_101 : decode b_r_wc 101 = .ok (.bipush 10, 2) := by decide +kernel
theorem d_r_wc_103 : decode b_r_wc 103 = .ok (.if_icmp .eq 20, 3) := by decide +kernel
theorem d_r_wc_106 : decode b_r_wc 106 = .ok (.aload_n 0, 1) := by decide +kernel
theorem d_r_wc_107 : decode b_r_wc 107 = .ok (.getfield 87, 3) := by decide +kernel
theorem d_r_wc_110 : decode b_r_wc 110 = .ok (.iload_n 3, 1) := by decide +kernel
theorem d_r_wc_111 : decode b_r_wc 111 = .ok (.iaload, 1) := by decide +kernel
theorem d_r_wc_112 : decode b_r_wc 112 = .ok (.bipush 32, 2) := by decide +kernel
theorem d_r_wc_114 : decode b_r_wc 114 = .ok (.if_icmp .eq 9, 3) := by decide +kernel
theorem d_r_wc_117 : decode b_r_wc 117 = .ok (.iload_n 2, 1) := by decide +kernel
theorem d_r_wc_118 : decode b_r_wc 118 = .ok (.iconst 1, 1) := by decide +kernel
theorem d_r_wc_119 : decode b_r_wc 119 = .ok (.iadd, 1) := by decide +kernel
theorem d_r_wc_120 : decode b_r_wc 120 = .ok (.goto 4, 3) := by decide +kernel
theorem d_r_wc_123 : decode b_r_wc 123 = .ok (.iload_n 2, 1) := by decide +kernel
theorem d_r_wc_124 : decode b_r_wc 124 = .ok (.istore_n 2, 1) := by decide +kernel
theorem d_r_wc_125 : decode b_r_wc 125 = .ok (.iinc 3 1, 3) := by decide +kernel
theorem d_r_wc_128 : decode b_r_wc 128 = .ok (.goto (-102), 3) := by decide +kernel
theorem d_r_wc_131 : decode b_r_wc 131 = .ok (.aload_n 0, 1) := by decide +kernel
theorem d_r_wc_132 : decode b_r_wc 132 = .ok (.iload_n 1, 1) := by decide +kernel
theorem d_r_wc_133 : decode b_r_wc 133 = .ok (.invokevirtual 315, 3) := by decide +kernel
theorem d_r_wc_136 : decode b_r_wc 136 = .ok (.aload_n 0, 1) := by decide +kernel
theorem d_r_wc_137 : decode b_r_wc 137 = .ok (.bipush 32, 2) := by decide +kernel
theorem d_r_wc_139 : decode b_r_wc 139 = .ok (.invokevirtual 262, 3) := by decide +kernel
theorem d_r_wc_142 : decode b_r_wc 142 = .ok (.aload_n 0, 1) := by decide +kernel
theorem d_r_wc_143 : decode b_r_wc 143 = .ok (.iload_n 2, 1) := by decide +kernel
theorem d_r_wc_144 : decode b_r_wc 144 = .ok (.invokevirtual 315, 3) := by decide +kernel
theorem d_r_wc_147 : decode b_r_wc 147 = .ok (.aload_n 0, 1) := by decide +kernel
theorem d_r_wc_148 : decode b_r_wc 148 = .ok (.bipush 32, 2) := by decide +kernel
theorem d_r_wc_150 : decode b_r_wc 150 = .ok (.invokevirtual 262, 3) := by decide +kernel
theorem d_r_wc_153 : decode b_r_wc 153 = .ok (.aload_n 0, 1) := by decide +kernel
theorem d_r_wc_154 : decode b_r_wc 154 = .ok (.aload_n 0, 1) := by decide +kernel
theorem d_r_wc_155 : decode b_r_wc 155 = .ok (.getfield 265, 3) := by decide +kernel
theorem d_r_wc_158 : decode b_r_wc 158 = .ok (.invokevirtual 315, 3) := by decide +kernel
theorem d_r_wc_161 : decode b_r_wc 161 = .ok (.aload_n 0, 1) := by decide +kernel
theorem d_r_wc_162 : decode b_r_wc 162 = .ok (.bipush 10, 2) := by decide +kernel
theorem d_r_wc_164 : decode b_r_wc 164 = .ok (.invokevirtual 262, 3) := by decide +kernel
