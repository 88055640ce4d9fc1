theorem d_r_wc_167 : decode b_r_wc 167 = .ok (.iconst 0, 1) := by decide +kernel
theorem d_r_wc_168 : decode b_r_wc 168 = .ok (.ireturn, 1) := by decide +kernel
theorem d_r_stands_0 : decode b_r_stands 0 = .ok (.iload_n 1, 1) := by decide +kernel
theorem d_r_stands_1 : decode b_r_stands 1 = .ok (.istore 4, 2) := by decide +kernel
theorem d_r_stands_3 : decode b_r_stands 3 = .ok (.iload 4, 2) := by decide +kernel
theorem d_r_stands_5 : decode b_r_stands 5 = .ok (.iload_n 2, 1) := by decide +kernel
theorem d_r_stands_6 : decode b_r_stands 6 = .ok (.if_icmp .ge 44, 3) := by decide +kernel
theorem d_r_stands_9 : decode b_r_stands 9 = .ok (.aload_n 0, 1) := by decide +kernel
theorem d_r_stands_10 : decode b_r_stands 10 = .ok (.getfield 48, 3) := by decide +kernel
theorem d_r_stands_13 : decode b_r_stands 13 = .ok (.iload 4, 2) := by decide +kernel
theorem d_r_stands_15 : decode b_r_stands 15 = .ok (.iaload, 1) := by decide +kernel
theorem d_r_stands_16 : decode b_r_stands 16 = .ok (.bipush 46, 2) := by decide +kernel
theorem d_r_stands_18 : decode b_r_stands 18 = .ok (.if_icmp .eq 26, 3) := by decide +kernel
theorem d_r_stands_21 : decode b_r_stands 21 = .ok (.aload_n 0, 1) := by decide +kernel
theorem d_r_stands_22 : decode b_r_stands 22 = .ok (.getfield 48, 3) := by decide +kernel
theorem d_r_stands_25 : decode b_r_stands 25 = .ok (.iload 4, 2) := by decide +kernel
theorem d_r_stands_27 : decode b_r_stands 27 = .ok (.iaload, 1) := by decide +kernel
theorem d_r_stands_28 : decode b_r_stands 28 = .ok (.aload_n 0, 1) := by decide +kernel
theorem d_r_stands_29 : decode b_r_stands 29 = .ok (.getfield 87, 3) := by decide +kernel
theorem d_r_stands_32 : decode b_r_stands 32 = .ok (.iload_n 3, 1) := by decide +kernel
theorem d_r_stands_33 : decode b_r_stands 33 = .ok (.iload 4, 2) := by decide +kernel
theorem d_r_stands_35 : decode b_r_stands 35 = .ok (.iadd, 1) := by decide +kernel
theorem d_r_stands_36 : decode b_r_stands 36 = .ok (.iload_n 1, 1) := by decide +kernel
theorem d_r_stands_37 : decode b_r_stands 37 = .ok (.isub, 1) := by decide +kernel
theorem d_r_stands_38 : decode b_r_stands 38 = .ok (.iaload, 1) := by decide +kernel
theorem d_r_stands_39 : decode b_r_stands 39 = .ok (.if_icmp .eq 5, 3) := by decide +kernel
theorem d_r_stands_42 : decode b_r_stands 42 = .ok (.iconst 0, 1) := by decide +kernel
theorem d_r_stands_43 : decode b_r_stands 43 = .ok (.ireturn, 1) := by decide +kernel
theorem d_r_stands_44 : decode b_r_stands 44 = .ok (.iinc 4 1, 3) := by decide +kernel
theorem d_r_stands_47 : decode b_r_stands 47 = .ok (.goto (-44), 3) := by decide +kernel
theorem d_r_stands_50 : decode b_r_stands 50 = .ok (.iconst 1, 1) := by decide +kernel
theorem d_r_stands_51 : decode b_r_stands 51 = .ok (.ireturn, 1) := by decide +kernel
theorem d_r_emitLine_0 : decode b_r_emitLine 0 = .ok (.aload_n 0, 1) := by decide +kernel
theorem d_r_emitLine_1 : decode b_r_emitLine 1 = .ok (.getfield 90, 3) := by decide +kernel
theorem d_r_emitLine_4 : decode b_r_emitLine 4 = .ok (.iload_n 1, 1) := by decide +kernel
theorem d_r_emitLine_5 : decode b_r_emitLine 5 = .ok (.iaload, 1) := by decide +kernel
theorem d_r_emitLine_6 : decode b_r_emitLine 6 = .ok (.istore_n 2, 1) := by decide +kernel
theorem d_r_emitLine_7 : decode b_r_emitLine 7 = .ok (.iload_n 2, 1) := by decide +kernel
theorem d_r_emitLine_8 : decode b_r_emitLine 8 = .ok (.aload_n 0, 1) := by decide +kernel
theorem d_r_emitLine_9 : decode b_r_emitLine 9 = .ok (.getfield 93, 3) := by decide +kernel
theorem d_r_emitLine_12 : decode b_r_emitLine 12 = .ok (.iload_n 1, 1) := by decide +kernel
theorem d_r_emitLine_13 : decode b_r_emitLine 13 = .ok (.iaload, 1) := by decide +kernel
theorem d_r_emitLine_14 : decode b_r_emitLine 14 = .ok (.if_icmp .ge 19, 3) := by decide +kernel
theorem d_r_emitLine_17 : decode b_r_emitLine 17 = .ok (.aload_n 0, 1) := by decide +kernel
theorem d_r_emitLine_18 : decode b_r_emitLine 18 = .ok (.aload_n 0, 1) := by decide +kernel
theorem d_r_emitLine_19 : decode b_r_emitLine 19 = .ok (.getfield 87, 3) := by decide +kernel
theorem d_r_emitLine_22 : decode b_r_emitLine 22 = .ok (.iload_n 2, 1) := by decide +kernel
theorem d_r_emitLine_23 : decode b_r_emitLine 23 = .ok (.iaload, 1) := by decide +kernel
theorem d_r_emitLine_24 : decode b_r_emitLine 24 = .ok (.invokevirtual 262, 3) := by decide +kernel
theorem d_r_emitLine_27 : decode b_r_emitLine 27 = .ok (.iinc 2 1, 3) := by decide +kernel
theorem d_r_emitLine_30 : decode b_r_emitLine 30 = .ok (.goto (-23), 3) := by decide +kernel
theorem d_r_emitLine_33 : decode b_r_emitLine 33 = .ok (.aload_n 0, 1) := by decide +kernel
theorem d_r_emitLine_34 : decode b_r_emitLine 34 = .ok (.bipush 10, 2) := by decide +kernel
theorem d_r_emitLine_36 : decode b_r_emitLine 36 = .ok (.invokevirtual 262, 3) := by decide +kernel
theorem d_r_emitLine_39 : decode b_r_emitLine 39 = .ok (.return_, 1) := by decide +kernel
theorem d_r_grep_0 : decode b_r_grep 0 = .ok (.aload_n 0, 1) := by decide +kernel
theorem d_r_grep_1 : decode b_r_grep 1 = .ok (.getfield 197, 3) := by decide +kernel
theorem d_r_grep_4 : decode b_r_grep 4 = .ok (.iconst 1, 1) := by decide +kernel
theorem d_r_grep_5 : decode b_r_grep 5 = .ok (.if_icmp .le 19, 3) := by decide +kernel
theorem d_r_grep_8 : decode b_r_grep 8 = .ok (.aload_n 0, 1) := by decide +kernel
theorem d_r_grep_9 : decode b_r_grep 9 = .ok (.iconst 1, 1) := by decide +kernel
theorem d_r_grep_10 : decode b_r_grep 10 = .ok (.invokevirtual 271, 3) := by decide +kernel
theorem d_r_grep_13 : decode b_r_grep 13 = .ok (.ldc2_w 318, 3) := by decide +kernel
theorem d_r_grep_16 : decode b_r_grep 16 = .ok (.lcmp, 1) := by decide +kernel
theorem d_r_grep_17 : decode b_r_grep 17 = .ok (.ifCond .ne 7, 3) := by decide +kernel
theorem d_r_grep_20 : decode b_r_grep 20 = .ok (.iconst 1, 1) := by decide +kernel
theorem d_r_grep_21 : decode b_r_grep 21 = .ok (.goto 4, 3) := by decide +kernel
theorem d_r_grep_24 : decode b_r_grep 24 = .ok (.iconst 0, 1) := by decide +kernel
theorem d_r_grep_25 : decode b_r_grep 25 = .ok (.istore_n 1, 1) := by decide +kernel
theorem d_r_grep_26 : decode b_r_grep 26 = .ok (.iload_n 1, 1) := by decide +kernel
theorem d_r_grep_27 : decode b_r_grep 27 = .ok (.ifCond .eq 7, 3) := by decide +kernel
theorem d_r_grep_30 : decode b_r_grep 30 = .ok (.iconst 2, 1) := by decide +kernel
theorem d_r_grep_31 : decode b_r_grep 31 = .ok (.goto 4, 3) := by decide +kernel
theorem d_r_grep_34 : decode b_r_grep 34 = .ok (.iconst 1, 1) := by decide +kernel
theorem d_r_grep_35 : decode b_r_grep 35 = .ok (.istore_n 2, 1) := by decide +kernel
theorem d_r_grep_36 : decode b_r_grep 36 = .ok (.aload_n 0, 1) := by decide +kernel
theorem d_r_grep_37 : decode b_r_grep 37 = .ok (.getfield 197, 3) := by decide +kernel
theorem d_r_grep_40 : decode b_r_grep 40 = .ok (.iload_n 2, 1) := by decide +kernel
theorem d_r_grep_41 : decode b_r_grep 41 = .ok (.if_icmp .le 13, 3) := by decide +kernel
theorem d_r_grep_44 : decode b_r_grep 44 = .ok (.aload_n 0, 1) := by decide +kernel
theorem d_r_grep_45 : decode b_r_grep 45 = .ok (.getfield 197, 3) := by decide +kernel
theorem d_r_grep_48 : decode b_r_grep 48 = .ok (.iload_n 2, 1) := by decide +kernel
theorem d_r_grep_49 : decode b_r_grep 49 = .ok (.iconst 2, 1) := by decide +kernel
theorem d_r_grep_50 : decode b_r_grep 50 = .ok (.iadd, 1) := by decide +kernel
theorem d_r_grep_51 : decode b_r_grep 51 = .ok (.if_icmp .le 5, 3) := by decide +kernel
theorem d_r_grep_54 : decode b_r_grep 54 = .ok (.iconst 2, 1) := by decide +kernel
theorem d_r_grep_55 : decode b_r_grep 55 = .ok (.ireturn, 1) := by decide +kernel
theorem d_r_grep_56 : decode b_r_grep 56 = .ok (.aload_n 0, 1) := by decide +kernel
theorem d_r_grep_57 : decode b_r_grep 57 = .ok (.iload_n 2, 1) := by decide +kernel
theorem d_r_grep_58 : decode b_r_grep 58 = .ok (.iconst 1, 1) := by decide +kernel
theorem d_r_grep_59 : decode b_r_grep 59 = .ok (.iadd, 1) := by decide +kernel
theorem d_r_grep_60 : decode b_r_grep 60 = .ok (.invokevirtual 312, 3) := by decide +kernel
theorem d_r_grep_63 : decode b_r_grep 63 = .ok (.ifCond .ne 5, 3) := by decide +kernel
theorem d_r_grep_66 : decode b_r_grep 66 = .ok (.iconst 1, 1) := by decide +kernel
theorem d_r_grep_67 : decode b_r_grep 67 = .ok (.ireturn, 1) := by decide +kernel
theorem d_r_grep_68 : decode b_r_grep 68 = .ok (.aload_n 0, 1) := by decide +kernel
theorem d_r_grep_69 : decode b_r_grep 69 = .ok (.getfield 42, 3) := by decide +kernel
theorem d_r_grep_72 : decode b_r_grep 72 = .ok (.iload_n 2, 1) := by decide +kernel
theorem d_r_grep_73 : decode b_r_grep 73 = .ok (.iaload, 1) := by decide +kernel
theorem d_r_grep_74 : decode b_r_grep 74 = .ok (.istore_n 3, 1) := by decide +kernel
theorem d_r_grep_75 : decode b_r_grep 75 = .ok (.aload_n 0, 1) := by decide +kernel
theorem d_r_grep_76 : decode b_r_grep 76 = .ok (.getfield 45, 3) := by decide +kernel
theorem d_r_grep_79 : decode b_r_grep 79 = .ok (.iload_n 2, 1) := by decide +kernel
theorem d_r_grep_80 : decode b_r_grep 80 = .ok (.iaload, 1) := by decide +kernel
theorem d_r_grep_81 : decode b_r_grep 81 = .ok (.istore 4, 2) := by decide +kernel
theorem d_r_grep_83 : decode b_r_grep 83 = .ok (.iload_n 3, 1) := by decide +kernel
theorem d_r_grep_84 : decode b_r_grep 84 = .ok (.iload 4, 2) := by decide +kernel
theorem d_r_grep_86 : decode b_r_grep 86 = .ok (.if_icmp .ge 18, 3) := by decide +kernel
theorem d_r_grep_89 : decode b_r_grep 89 = .ok (.aload_n 0, 1) := by decide +kernel
theorem d_r_grep_90 : decode b_r_grep 90 = .ok (.getfield 48, 3) := by decide +kernel
theorem d_r_grep_93 : decode b_r_grep 93 = .ok (.iload_n 3, 1) := by decide +kernel
theorem d_r_grep_94 : decode b_r_grep 94 = .ok (.iaload, 1) := by decide +kernel
theorem d_r_grep_95 : decode b_r_grep 95 = .ok (.bipush 94, 2) := by decide +kernel
theorem d_r_grep_97 : decode b_r_grep 97 = .ok (.if_icmp .ne 7, 3) := by decide +kernel
theorem d_r_grep_100 : decode b_r_grep 100 = .ok (.iconst 1, 1) := by decide +kernel
theorem d_r_grep_101 : decode b_r_grep 101 = .ok (.goto 4, 3) := by decide +kernel
theorem d_r_grep_104 : decode b_r_grep 104 = .ok (.iconst 0, 1) := by decide +kernel
theorem d_r_grep_105 : decode b_r_grep 105 = .ok (.istore 5, 2) := by decide +kernel
theorem d_r_grep_107 : decode b_r_grep 107 = .ok (.iload 5, 2) := by decide +kernel
theorem d_r_grep_109 : decode b_r_grep 109 = .ok (.ifCond .eq 9, 3) := by decide +kernel
theorem d_r_grep_112 : decode b_r_grep 112 = .ok (.iload_n 3, 1) := by decide +kernel
theorem d_r_grep_113 : decode b_r_grep 113 = .ok (.iconst 1, 1) := by decide +kernel
theorem d_r_grep_114 : decode b_r_grep 114 = .ok (.iadd, 1) := by decide +kernel
theorem d_r_grep_115 : decode b_r_grep 115 = .ok (.goto 4, 3) := by decide +kernel
theorem d_r_grep_118 : decode b_r_grep 118 = .ok (.iload_n 3, 1) := by decide +kernel
theorem d_r_grep_119 : decode b_r_grep 119 = .ok (.istore_n 3, 1) := by decide +kernel
theorem d_r_grep_120 : decode b_r_grep 120 = .ok (.iload_n 3, 1) := by decide +kernel
theorem d_r_grep_121 : decode b_r_grep 121 = .ok (.iload 4, 2) := by decide +kernel
theorem d_r_grep_123 : decode b_r_grep 123 = .ok (.if_icmp .ge 21, 3) := by decide +kernel
theorem d_r_grep_126 : decode b_r_grep 126 = .ok (.aload_n 0, 1) := by decide +kernel
theorem d_r_grep_127 : decode b_r_grep 127 = .ok (.getfield 48, 3) := by decide +kernel
theorem d_r_grep_130 : decode b_r_grep 130 = .ok (.iload 4, 2) := by decide +kernel
theorem d_r_grep_132 : decode b_r_grep 132 = .ok (.iconst 1, 1) := by decide +kernel
theorem d_r_grep_133 : decode b_r_grep 133 = .ok (.isub, 1) := by decide +kernel
theorem d_r_grep_134 : decode b_r_grep 134 = .ok (.iaload, 1) := by decide +kernel
theorem d_r_grep_135 : decode b_r_grep 135 = .ok (.bipush 36, 2) := by decide +kernel
theorem d_r_grep_137 : decode b_r_grep 137 = .ok (.if_icmp .ne 7, 3) := by decide +kernel
theorem d_r_grep_140 : decode b_r_grep 140 = .ok (.iconst 1, 1) := by decide +kernel
theorem d_r_grep_141 : decode b_r_grep 141 = .ok (.goto 4, 3) := by decide +kernel
theorem d_r_grep_144 : decode b_r_grep 144 = .ok (.iconst 0, 1) := by decide +kernel
theorem d_r_grep_145 : decode b_r_grep 145 = .ok (.istore 6, 2) := by decide +kernel
theorem d_r_grep_147 : decode b_r_grep 147 = .ok (.iload 6, 2) := by decide +kernel
theorem d_r_grep_149 : decode b_r_grep 149 = .ok (.ifCond .eq 10, 3) := by decide +kernel
theorem d_r_grep_152 : decode b_r_grep 152 = .ok (.iload 4, 2) := by decide +kernel
theorem d_r_grep_154 : decode b_r_grep 154 = .ok (.iconst 1, 1) := by decide +kernel
theorem d_r_grep_155 : decode b_r_grep 155 = .ok (.isub, 1) := by decide +kernel
theorem d_r_grep_156 : decode b_r_grep 156 = .ok (.goto 5, 3) := by decide +kernel
theorem d_r_grep_159 : decode b_r_grep 159 = .ok (.iload 4, 2) := by decide +kernel
theorem d_r_grep_161 : decode b_r_grep 161 = .ok (.istore 4, 2) := by decide +kernel
theorem d_r_grep_163 : decode b_r_grep 163 = .ok (.iconst 0, 1) := by decide +kernel
theorem d_r_grep_164 : decode b_r_grep 164 = .ok (.istore 7, 2) := by decide +kernel
theorem d_r_grep_166 : decode b_r_grep 166 = .ok (.iconst 0, 1) := by decide +kernel
theorem d_r_grep_167 : decode b_r_grep 167 = .ok (.istore 8, 2) := by decide +kernel
theorem d_r_grep_169 : decode b_r_grep 169 = .ok (.iload 8, 2) := by decide +kernel
theorem d_r_grep_171 : decode b_r_grep 171 = .ok (.aload_n 0, 1) := by decide +kernel
theorem d_r_grep_172 : decode b_r_grep 172 = .ok (.getfield 268, 3) := by decide +kernel
theorem d_r_grep_175 : decode b_r_grep 175 = .ok (.if_icmp .ge 128, 3) := by decide +kernel
theorem d_r_grep_178 : decode b_r_grep 178 = .ok (.iconst 0, 1) := by decide +kernel
theorem d_r_grep_179 : decode b_r_grep 179 = .ok (.istore 9, 2) := by decide +kernel
theorem d_r_grep_181 : decode b_r_grep 181 = .ok (.aload_n 0, 1) := by decide +kernel
theorem d_r_grep_182 : decode b_r_grep 182 = .ok (.getfield 93, 3) := by decide +kernel
theorem d_r_grep_185 : decode b_r_grep 185 = .ok (.iload 8, 2) := by decide +kernel
theorem d_r_grep_187 : decode b_r_grep 187 = .ok (.iaload, 1) := by decide +kernel
theorem d_r_grep_188 : decode b_r_grep 188 = .ok (.iload 4, 2) := by decide +kernel
theorem d_r_grep_190 : decode b_r_grep 190 = .ok (.iload_n 3, 1) := by decide +kernel
theorem d_r_grep_191 : decode b_r_grep 191 = .ok (.isub, 1) := by decide +kernel
theorem d_r_grep_192 : decode b_r_grep 192 = .ok (.isub, 1) := by decide +kernel
theorem d_r_grep_193 : decode b_r_grep 193 = .ok (.istore 10, 2) := by decide +kernel
theorem d_r_grep_195 : decode b_r_grep 195 = .ok (.aload_n 0, 1) := by decide +kernel
theorem d_r_grep_196 : decode b_r_grep 196 = .ok (.getfield 90, 3) := by decide +kernel
theorem d_r_grep_199 : decode b_r_grep 199 = .ok (.iload 8, 2) := by decide +kernel
theorem d_r_grep_201 : decode b_r_grep 201 = .ok (.iaload, 1) := by decide +kernel
theorem d_r_grep_202 : decode b_r_grep 202 = .ok (.istore 11, 2) := by decide +kernel
theorem d_r_grep_204 : decode b_r_grep 204 = .ok (.iload 11, 2) := by decide +kernel
theorem d_r_grep_206 : decode b_r_grep 206 = .ok (.iload 10, 2) := by decide +kernel
theorem d_r_grep_208 : decode b_r_grep 208 = .ok (.if_icmp .gt 74, 3) := by decide +kernel
theorem d_r_grep_211 : decode b_r_grep 211 = .ok (.iload 5, 2) := by decide +kernel
theorem d_r_grep_213 : decode b_r_grep 213 = .ok (.ifCond .eq 15, 3) := by decide +kernel
theorem d_r_grep_216 : decode b_r_grep 216 = .ok (.iload 11, 2) := by decide +kernel
theorem d_r_grep_218 : decode b_r_grep 218 = .ok (.aload_n 0, 1) := by decide +kernel
theorem d_r_grep_219 : decode b_r_grep 219 = .ok (.getfield 90, 3) := by decide +kernel
theorem d_r_grep_222 : decode b_r_grep 222 = .ok (.iload 8, 2) := by decide +kernel
theorem d_r_grep_224 : decode b_r_grep 224 = .ok (.iaload, 1) := by decide +kernel
theorem d_r_grep_225 : decode b_r_grep 225 = .ok (.if_icmp .ne 19, 3) := by decide +kernel
theorem d_r_grep_228 : decode b_r_grep 228 = .ok (.iload 6, 2) := by decide +kernel
theorem d_r_grep_230 : decode b_r_grep 230 = .ok (.ifCond .eq 10, 3) := by decide +kernel
theorem d_r_grep_233 : decode b_r_grep 233 = .ok (.iload 11, 2) := by decide +kernel
theorem d_r_grep_235 : decode b_r_grep 235 = .ok (.iload 10, 2) := by decide +kernel
theorem d_r_grep_237 : decode b_r_grep 237 = .ok (.if_icmp .ne 7, 3) := by decide +kernel
theorem d_r_grep_240 : decode b_r_grep 240 = .ok (.iconst 1, 1) := by decide +kernel
theorem d_r_grep_241 : decode b_r_grep 241 = .ok (.goto 4, 3) := by decide +kernel
theorem d_r_grep_244 : decode b_r_grep 244 = .ok (.iconst 0, 1) := by decide +kernel
theorem d_r_grep_245 : decode b_r_grep 245 = .ok (.istore 12, 2) := by decide +kernel
theorem d_r_grep_247 : decode b_r_grep 247 = .ok (.iload 9, 2) := by decide +kernel
theorem d_r_grep_249 : decode b_r_grep 249 = .ok (.ifCond .ne 20, 3) := by decide +kernel
theorem d_r_grep_252 : decode b_r_grep 252 = .ok (.iload 12, 2) := by decide +kernel
theorem d_r_grep_254 : decode b_r_grep 254 = .ok (.ifCond .eq 19, 3) := by decide +kernel
theorem d_r_grep_257 : decode b_r_grep 257 = .ok (.aload_n 0, 1) := by decide +kernel
theorem d_r_grep_258 : decode b_r_grep 258 = .ok (.iload_n 3, 1) := by decide +kernel
theorem d_r_grep_259 : decode b_r_grep 259 = .ok (.iload 4, 2) := by decide +kernel
theorem d_r_grep_261 : decode b_r_grep 261 = .ok (.iload 11, 2) := by decide +kernel
theorem d_r_grep_263 : decode b_r_grep 263 = .ok (.invokevirtual 320, 3) := by decide +kernel
theorem d_r_grep_266 : decode b_r_grep 266 = .ok (.ifCond .eq 7, 3) := by decide +kernel
theorem d_r_grep_269 : decode b_r_grep 269 = .ok (.iconst 1, 1) := by decide +kernel
theorem d_r_grep_270 : decode b_r_grep 270 = .ok (.goto 4, 3) := by decide +kernel
theorem d_r_grep_273 : decode b_r_grep 273 = .ok (.iconst 0, 1) := by decide +kernel
theorem d_r_grep_274 : decode b_r_grep 274 = .ok (.istore 9, 2) := by decide +kernel
theorem d_r_grep_276 : decode b_r_grep 276 = .ok (.iinc 11 1, 3) := by decide +kernel
theorem d_r_grep_279 : decode b_r_grep 279 = .ok (.goto (-75), 3) := by decide +kernel
theorem d_r_grep_282 : decode b_r_grep 282 = .ok (.iload 9, 2) := by decide +kernel
theorem d_r_grep_284 : decode b_r_grep 284 = .ok (.iload_n 1, 1) := by decide +kernel
theorem d_r_grep_285 : decode b_r_grep 285 = .ok (.if_icmp .eq 12, 3) := by decide +kernel
theorem d_r_grep_288 : decode b_r_grep 288 = .ok (.aload_n 0, 1) := by decide +kernel
theorem d_r_grep_289 : decode b_r_grep 289 = .ok (.iload 8, 2) := by decide +kernel
theorem d_r_grep_291 : decode b_r_grep 291 = .ok (.invokevirtual 324, 3) := by decide +kernel
theorem d_r_grep_294 : decode b_r_grep 294 = .ok (.iinc 7 1, 3) := by decide +kernel
theorem d_r_grep_297 : decode b_r_grep 297 = .ok (.iinc 8 1, 3) := by decide +kernel
theorem d_r_grep_300 : decode b_r_grep 300 = .ok (.goto (-131), 3) := by decide +kernel
theorem d_r_grep_303 : decode b_r_grep 303 = .ok (.iload 7, 2) := by decide +kernel
theorem d_r_grep_305 : decode b_r_grep 305 = .ok (.ifCond .le 7, 3) := by decide +kernel
theorem d_r_grep_308 : decode b_r_grep 308 = .ok (.iconst 0, 1) := by decide +kernel
theorem d_r_grep_309 : decode b_r_grep 309 = .ok (.goto 4, 3) := by decide +kernel
theorem d_r_grep_312 : decode b_r_grep 312 = .ok (.iconst 1, 1) := by decide +kernel
theorem d_r_grep_313 : decode b_r_grep 313 = .ok (.ireturn, 1) := by decide +kernel
theorem d_r_emitName_0 : decode b_r_emitName 0 = .ok (.bipush 6, 2) := by decide +kernel
theorem d_r_emitName_2 : decode b_r_emitName 2 = .ok (.istore_n 3, 1) := by decide +kernel
theorem d_r_emitName_3 : decode b_r_emitName 3 = .ok (.iload_n 3, 1) := by decide +kernel
theorem d_r_emitName_4 : decode b_r_emitName 4 = .ok (.ifCond .lt 33, 3) := by decide +kernel
theorem d_r_emitName_7 : decode b_r_emitName 7 = .ok (.lload_n 1, 1) := by decide +kernel
theorem d_r_emitName_8 : decode b_r_emitName 8 = .ok (.bipush 8, 2) := by decide +kernel
theorem d_r_emitName_10 : decode b_r_emitName 10 = .ok (.iload_n 3, 1) := by decide +kernel
theorem d_r_emitName_11 : decode b_r_emitName 11 = .ok (.imul, 1) := by decide +kernel
theorem d_r_emitName_12 : decode b_r_emitName 12 = .ok (.lshr, 1) := by decide +kernel
theorem d_r_emitName_13 : decode b_r_emitName 13 = .ok (.l2i, 1) := by decide +kernel
theorem d_r_emitName_14 : decode b_r_emitName 14 = .ok (.sipush 255, 3) := by decide +kernel
theorem d_r_emitName_17 : decode b_r_emitName 17 = .ok (.iand, 1) := by decide +kernel
theorem d_r_emitName_18 : decode b_r_emitName 18 = .ok (.istore 4, 2) := by decide +kernel
theorem d_r_emitName_20 : decode b_r_emitName 20 = .ok (.iload 4, 2) := by decide +kernel
theorem d_r_emitName_22 : decode b_r_emitName 22 = .ok (.ifCond .eq 9, 3) := by decide +kernel
theorem d_r_emitName_25 : decode b_r_emitName 25 = .ok (.aload_n 0, 1) := by decide +kernel
theorem d_r_emitName_26 : decode b_r_emitName 26 = .ok (.iload 4, 2) := by decide +kernel
theorem d_r_emitName_28 : decode b_r_emitName 28 = .ok (.invokevirtual 262, 3) := by decide +kernel
theorem d_r_emitName_31 : decode b_r_emitName 31 = .ok (.iinc 3 (-1), 3) := by decide +kernel
theorem d_r_emitName_34 : decode b_r_emitName 34 = .ok (.goto (-31), 3) := by decide +kernel
theorem d_r_emitName_37 : decode b_r_emitName 37 = .ok (.return_, 1) := by decide +kernel
theorem d_r_ls_0 : decode b_r_ls 0 = .ok (.aload_n 0, 1) := by decide +kernel
theorem d_r_ls_1 : decode b_r_ls 1 = .ok (.getfield 197, 3) := by decide +kernel
theorem d_r_ls_4 : decode b_r_ls 4 = .ok (.iconst 2, 1) := by decide +kernel
theorem d_r_ls_5 : decode b_r_ls 5 = .ok (.if_icmp .le 5, 3) := by decide +kernel
theorem d_r_ls_8 : decode b_r_ls 8 = .ok (.iconst 2, 1) := by decide +kernel
theorem d_r_ls_9 : decode b_r_ls 9 = .ok (.ireturn, 1) := by decide +kernel
theorem d_r_ls_10 : decode b_r_ls 10 = .ok (.aload_n 0, 1) := by decide +kernel
theorem d_r_ls_11 : decode b_r_ls 11 = .ok (.aload_n 0, 1) := by decide +kernel
theorem d_r_ls_12 : decode b_r_ls 12 = .ok (.getfield 162, 3) := by decide +kernel
theorem d_r_ls_15 : decode b_r_ls 15 = .ok (.putfield 225, 3) := by decide +kernel
theorem d_r_ls_18 : decode b_r_ls 18 = .ok (.aload_n 0, 1) := by decide +kernel
theorem d_r_ls_19 : decode b_r_ls 19 = .ok (.getfield 197, 3) := by decide +kernel
theorem d_r_ls_22 : decode b_r_ls 22 = .ok (.iconst 2, 1) := by decide +kernel
theorem d_r_ls_23 : decode b_r_ls 23 = .ok (.if_icmp .ne 8, 3) := by decide +kernel
theorem d_r_ls_26 : decode b_r_ls 26 = .ok (.aload_n 0, 1) := by decide +kernel
theorem d_r_ls_27 : decode b_r_ls 27 = .ok (.iconst 1, 1) := by decide +kernel
theorem d_r_ls_28 : decode b_r_ls 28 = .ok (.invokevirtual 222, 3) := by decide +kernel
theorem d_r_ls_31 : decode b_r_ls 31 = .ok (.aload_n 0, 1) := by decide +kernel
theorem d_r_ls_32 : decode b_r_ls 32 = .ok (.getfield 225, 3) := by decide +kernel
theorem d_r_ls_35 : decode b_r_ls 35 = .ok (.ifCond .ge 5, 3) := by decide +kernel
theorem d_r_ls_38 : decode b_r_ls 38 = .ok (.iconst 1, 1) := by decide +kernel
theorem d_r_ls_39 : decode b_r_ls 39 = .ok (.ireturn, 1) := by decide +kernel
theorem d_r_ls_40 : decode b_r_ls 40 = .ok (.aload_n 0, 1) := by decide +kernel
theorem d_r_ls_41 : decode b_r_ls 41 = .ok (.getfield 13, 3) := by decide +kernel
theorem d_r_ls_44 : decode b_r_ls 44 = .ok (.aload_n 0, 1) := by decide +kernel
theorem d_r_ls_45 : decode b_r_ls 45 = .ok (.getfield 225, 3) := by decide +kernel
theorem d_r_ls_48 : decode b_r_ls 48 = .ok (.baload, 1) := by decide +kernel
theorem d_r_ls_49 : decode b_r_ls 49 = .ok (.ifCond .ne 24, 3) := by decide +kernel
theorem d_r_ls_52 : decode b_r_ls 52 = .ok (.aload_n 0, 1) := by decide +kernel
theorem d_r_ls_53 : decode b_r_ls 53 = .ok (.aload_n 0, 1) := by decide +kernel
theorem d_r_ls_54 : decode b_r_ls 54 = .ok (.getfield 20, 3) := by decide +kernel
theorem d_r_ls_57 : decode b_r_ls 57 = .ok (.aload_n 0, 1) := by decide +kernel
theorem d_r_ls_58 : decode b_r_ls 58 = .ok (.getfield 225, 3) := by decide +kernel
theorem d_r_ls_61 : decode b_r_ls 61 = .ok (.laload, 1) := by decide +kernel
theorem d_r_ls_62 : decode b_r_ls 62 = .ok (.invokevirtual 327, 3) := by decide +kernel
theorem d_r_ls_65 : decode b_r_ls 65 = .ok (.aload_n 0, 1) := by decide +kernel
theorem d_r_ls_66 : decode b_r_ls 66 = .ok (.bipush 10, 2) := by decide +kernel
theorem d_r_ls_68 : decode b_r_ls 68 = .ok (.invokevirtual 262, 3) := by decide +kernel
theorem d_r_ls_71 : decode b_r_ls 71 = .ok (.iconst 0, 1) := by decide +kernel
theorem d_r_ls_72 : decode b_r_ls 72 = .ok (.ireturn, 1) := by decide +kernel
theorem d_r_ls_73 : decode b_r_ls 73 = .ok (.lconst 0, 1) := by decide +kernel
theorem d_r_ls_74 : decode b_r_ls 74 = .ok (.lstore_n 1, 1) := by decide +kernel
theorem d_r_ls_75 : decode b_r_ls 75 = .ok (.iconst 0, 1) := by decide +kernel
theorem d_r_ls_76 : decode b_r_ls 76 = .ok (.istore_n 3, 1) := by decide +kernel
theorem d_r_ls_77 : decode b_r_ls 77 = .ok (.iload_n 3, 1) := by decide +kernel
theorem d_r_ls_78 : decode b_r_ls 78 = .ok (.bipush 12, 2) := by decide +kernel
theorem d_r_ls_80 : decode b_r_ls 80 = .ok (.if_icmp .ge 148, 3) := by decide +kernel
theorem d_r_ls_83 : decode b_r_ls 83 = .ok (.iconst (-1), 1) := by decide +kernel
theorem d_r_ls_84 : decode b_r_ls 84 = .ok (.istore 4, 2) := by decide +kernel
theorem d_r_ls_86 : decode b_r_ls 86 = .ok (.iconst 1, 1) := by decide +kernel
theorem d_r_ls_87 : decode b_r_ls 87 = .ok (.istore 5, 2) := by decide +kernel
theorem d_r_ls_89 : decode b_r_ls 89 = .ok (.iload 5, 2) := by decide +kernel
theorem d_r_ls_91 : decode b_r_ls 91 = .ok (.bipush 13, 2) := by decide +kernel
theorem d_r_ls_93 : decode b_r_ls 93 = .ok (.if_icmp .ge 89, 3) := by decide +kernel
theorem d_r_ls_96 : decode b_r_ls 96 = .ok (.aload_n 0, 1) := by decide +kernel
theorem d_r_ls_97 : decode b_r_ls 97 = .ok (.getfield 7, 3) := by decide +kernel
theorem d_r_ls_100 : decode b_r_ls 100 = .ok (.iload 5, 2) := by decide +kernel
theorem d_r_ls_102 : decode b_r_ls 102 = .ok (.baload, 1) := by decide +kernel
theorem d_r_ls_103 : decode b_r_ls 103 = .ok (.ifCond .eq 33, 3) := by decide +kernel
theorem d_r_ls_106 : decode b_r_ls 106 = .ok (.aload_n 0, 1) := by decide +kernel
theorem d_r_ls_107 : decode b_r_ls 107 = .ok (.getfield 16, 3) := by decide +kernel
theorem d_r_ls_110 : decode b_r_ls 110 = .ok (.iload 5, 2) := by decide +kernel
theorem d_r_ls_112 : decode b_r_ls 112 = .ok (.iaload, 1) := by decide +kernel
theorem d_r_ls_113 : decode b_r_ls 113 = .ok (.aload_n 0, 1) := by decide +kernel
theorem d_r_ls_114 : decode b_r_ls 114 = .ok (.getfield 225, 3) := by decide +kernel
theorem d_r_ls_117 : decode b_r_ls 117 = .ok (.if_icmp .ne 19, 3) := by decide +kernel
theorem d_r_ls_120 : decode b_r_ls 120 = .ok (.aload_n 0, 1) := by decide +kernel
theorem d_r_ls_121 : decode b_r_ls 121 = .ok (.getfield 20, 3) := by decide +kernel
theorem d_r_ls_124 : decode b_r_ls 124 = .ok (.iload 5, 2) := by decide +kernel
theorem d_r_ls_126 : decode b_r_ls 126 = .ok (.laload, 1) := by decide +kernel
theorem d_r_ls_127 : decode b_r_ls 127 = .ok (.lload_n 1, 1) := by decide +kernel
theorem d_r_ls_128 : decode b_r_ls 128 = .ok (.lcmp, 1) := by decide +kernel
theorem d_r_ls_129 : decode b_r_ls 129 = .ok (.ifCond .le 7, 3) := by decide +kernel
theorem d_r_ls_132 : decode b_r_ls 132 = .ok (.iconst 1, 1) := by decide +kernel
theorem d_r_ls_133 : decode b_r_ls 133 = .ok (.goto 4, 3) := by decide +kernel
theorem d_r_ls_136 : decode b_r_ls 136 = .ok (.iconst 0, 1) := by decide +kernel
theorem d_r_ls_137 : decode b_r_ls 137 = .ok (.istore 6, 2) := by decide +kernel
theorem d_r_ls_139 : decode b_r_ls 139 = .ok (.iload 6, 2) := by decide +kernel
theorem d_r_ls_141 : decode b_r_ls 141 = .ok (.ifCond .eq 31, 3) := by decide +kernel
theorem d_r_ls_144 : decode b_r_ls 144 = .ok (.iload 4, 2) := by decide +kernel
theorem d_r_ls_146 : decode b_r_ls 146 = .ok (.ifCond .lt 21, 3) := by decide +kernel
theorem d_r_ls_149 : decode b_r_ls 149 = .ok (.aload_n 0, 1) := by decide +kernel
theorem d_r_ls_150 : decode b_r_ls 150 = .ok (.getfield 20, 3) := by decide +kernel
theorem d_r_ls_153 : decode b_r_ls 153 = .ok (.iload 5, 2) := by decide +kernel
theorem d_r_ls_155 : decode b_r_ls 155 = .ok (.laload, 1) := by decide +kernel
theorem d_r_ls_156 : decode b_r_ls 156 = .ok (.aload_n 0, 1) := by decide +kernel
theorem d_r_ls_157 : decode b_r_ls 157 = .ok (.getfield 20, 3) := by decide +kernel
theorem d_r_ls_160 : decode b_r_ls 160 = .ok (.iload 4, 2) := by decide +kernel
theorem d_r_ls_162 : decode b_r_ls 162 = .ok (.laload, 1) := by decide +kernel
theorem d_r_ls_163 : decode b_r_ls 163 = .ok (.lcmp, 1) := by decide +kernel
theorem d_r_ls_164 : decode b_r_ls 164 = .ok (.ifCond .ge 8, 3) := by decide +kernel
theorem d_r_ls_167 : decode b_r_ls 167 = .ok (.iload 5, 2) := by decide +kernel
theorem d_r_ls_169 : decode b_r_ls 169 = .ok (.goto 5, 3) := by decide +kernel
theorem d_r_ls_172 : decode b_r_ls 172 = .ok (.iload 4, 2) := by decide +kernel
theorem d_r_ls_174 : decode b_r_ls 174 = .ok (.istore 4, 2) := by decide +kernel
theorem d_r_ls_176 : decode b_r_ls 176 = .ok (.iinc 5 1, 3) := by decide +kernel
theorem d_r_ls_179 : decode b_r_ls 179 = .ok (.goto (-90), 3) := by decide +kernel
theorem d_r_ls_182 : decode b_r_ls 182 = .ok (.iload 4, 2) := by decide +kernel
theorem d_r_ls_184 : decode b_r_ls 184 = .ok (.ifCond .lt 38, 3) := by decide +kernel
theorem d_r_ls_187 : decode b_r_ls 187 = .ok (.aload_n 0, 1) := by decide +kernel
theorem d_r_ls_188 : decode b_r_ls 188 = .ok (.getfield 20, 3) := by decide +kernel
theorem d_r_ls_191 : decode b_r_ls 191 = .ok (.iload 4, 2) := by decide +kernel
theorem d_r_ls_193 : decode b_r_ls 193 = .ok (.laload, 1) := by decide +kernel
theorem d_r_ls_194 : decode b_r_ls 194 = .ok (.lstore_n 1, 1) := by decide +kernel
theorem d_r_ls_195 : decode b_r_ls 195 = .ok (.aload_n 0, 1) := by decide +kernel
theorem d_r_ls_196 : decode b_r_ls 196 = .ok (.lload_n 1, 1) := by decide +kernel
theorem d_r_ls_197 : decode b_r_ls 197 = .ok (.invokevirtual 327, 3) := by decide +kernel
theorem d_r_ls_200 : decode b_r_ls 200 = .ok (.aload_n 0, 1) := by decide +kernel
theorem d_r_ls_201 : decode b_r_ls 201 = .ok (.getfield 13, 3) := by decide +kernel
theorem d_r_ls_204 : decode b_r_ls 204 = .ok (.iload 4, 2) := by decide +kernel
theorem d_r_ls_206 : decode b_r_ls 206 = .ok (.baload, 1) := by decide +kernel
theorem d_r_ls_207 : decode b_r_ls 207 = .ok (.ifCond .eq 9, 3) := by decide +kernel
theorem d_r_ls_210 : decode b_r_ls 210 = .ok (.aload_n 0, 1) := by decide +kernel
theorem d_r_ls_211 : decode b_r_ls 211 = .ok (.bipush 47, 2) := by decide +kernel
theorem d_r_ls_213 : decode b_r_ls 213 = .ok (.invokevirtual 262, 3) := by decide +kernel
theorem d_r_ls_216 : decode b_r_ls 216 = .ok (.aload_n 0, 1) := by decide +kernel
theorem d_r_ls_217 : decode b_r_ls 217 = .ok (.bipush 10, 2) := by decide +kernel
theorem d_r_ls_219 : decode b_r_ls 219 = .ok (.invokevirtual 262, 3) := by decide +kernel
theorem d_r_ls_222 : decode b_r_ls 222 = .ok (.iinc 3 1, 3) := by decide +kernel
theorem d_r_ls_225 : decode b_r_ls 225 = .ok (.goto (-148), 3) := by decide +kernel
theorem d_r_ls_228 : decode b_r_ls 228 = .ok (.iconst 0, 1) := by decide +kernel
theorem d_r_ls_229 : decode b_r_ls 229 = .ok (.ireturn, 1) := by decide +kernel
theorem d_r_mkdir_0 : decode b_r_mkdir 0 = .ok (.aload_n 0, 1) := by decide +kernel
theorem d_r_mkdir_1 : decode b_r_mkdir 1 = .ok (.getfield 197, 3) := by decide +kernel
theorem d_r_mkdir_4 : decode b_r_mkdir 4 = .ok (.iconst 2, 1) := by decide +kernel
theorem d_r_mkdir_5 : decode b_r_mkdir 5 = .ok (.if_icmp .eq 5, 3) := by decide +kernel
theorem d_r_mkdir_8 : decode b_r_mkdir 8 = .ok (.iconst 2, 1) := by decide +kernel
theorem d_r_mkdir_9 : decode b_r_mkdir 9 = .ok (.ireturn, 1) := by decide +kernel
theorem d_r_mkdir_10 : decode b_r_mkdir 10 = .ok (.aload_n 0, 1) := by decide +kernel
theorem d_r_mkdir_11 : decode b_r_mkdir 11 = .ok (.iconst 1, 1) := by decide +kernel
theorem d_r_mkdir_12 : decode b_r_mkdir 12 = .ok (.invokevirtual 222, 3) := by decide +kernel
theorem d_r_mkdir_15 : decode b_r_mkdir 15 = .ok (.aload_n 0, 1) := by decide +kernel
theorem d_r_mkdir_16 : decode b_r_mkdir 16 = .ok (.getfield 228, 3) := by decide +kernel
theorem d_r_mkdir_19 : decode b_r_mkdir 19 = .ok (.ifCond .ge 5, 3) := by decide +kernel
theorem d_r_mkdir_22 : decode b_r_mkdir 22 = .ok (.iconst 1, 1) := by decide +kernel
theorem d_r_mkdir_23 : decode b_r_mkdir 23 = .ok (.ireturn, 1) := by decide +kernel
theorem d_r_mkdir_24 : decode b_r_mkdir 24 = .ok (.aload_n 0, 1) := by decide +kernel
theorem d_r_mkdir_25 : decode b_r_mkdir 25 = .ok (.iconst 1, 1) := by decide +kernel
theorem d_r_mkdir_26 : decode b_r_mkdir 26 = .ok (.invokevirtual 231, 3) := by decide +kernel
theorem d_r_mkdir_29 : decode b_r_mkdir 29 = .ok (.ifCond .ge 8, 3) := by decide +kernel
theorem d_r_mkdir_32 : decode b_r_mkdir 32 = .ok (.bipush (-9), 2) := by decide +kernel
theorem d_r_mkdir_34 : decode b_r_mkdir 34 = .ok (.goto 4, 3) := by decide +kernel
theorem d_r_mkdir_37 : decode b_r_mkdir 37 = .ok (.iconst 0, 1) := by decide +kernel
theorem d_r_mkdir_38 : decode b_r_mkdir 38 = .ok (.ireturn, 1) := by decide +kernel
theorem d_r_cd_0 : decode b_r_cd 0 = .ok (.aload_n 0, 1) := by decide +kernel
theorem d_r_cd_1 : decode b_r_cd 1 = .ok (.getfield 197, 3) := by decide +kernel
theorem d_r_cd_4 : decode b_r_cd 4 = .ok (.iconst 2, 1) := by decide +kernel
theorem d_r_cd_5 : decode b_r_cd 5 = .ok (.if_icmp .le 5, 3) := by decide +kernel
theorem d_r_cd_8 : decode b_r_cd 8 = .ok (.iconst 2, 1) := by decide +kernel
theorem d_r_cd_9 : decode b_r_cd 9 = .ok (.ireturn, 1) := by decide +kernel
theorem d_r_cd_10 : decode b_r_cd 10 = .ok (.aload_n 0, 1) := by decide +kernel
theorem d_r_cd_11 : decode b_r_cd 11 = .ok (.iconst 0, 1) := by decide +kernel
theorem d_r_cd_12 : decode b_r_cd 12 = .ok (.putfield 225, 3) := by decide +kernel
theorem d_r_cd_15 : decode b_r_cd 15 = .ok (.aload_n 0, 1) := by decide +kernel
theorem d_r_cd_16 : decode b_r_cd 16 = .ok (.getfield 197, 3) := by decide +kernel
theorem d_r_cd_19 : decode b_r_cd 19 = .ok (.iconst 2, 1) := by decide +kernel
theorem d_r_cd_20 : decode b_r_cd 20 = .ok (.if_icmp .ne 8, 3) := by decide +kernel
theorem d_r_cd_23 : decode b_r_cd 23 = .ok (.aload_n 0, 1) := by decide +kernel
theorem d_r_cd_24 : decode b_r_cd 24 = .ok (.iconst 1, 1) := by decide +kernel
theorem d_r_cd_25 : decode b_r_cd 25 = .ok (.invokevirtual 222, 3) := by decide +kernel
theorem d_r_cd_28 : decode b_r_cd 28 = .ok (.aload_n 0, 1) := by decide +kernel
theorem d_r_cd_29 : decode b_r_cd 29 = .ok (.getfield 225, 3) := by decide +kernel
theorem d_r_cd_32 : decode b_r_cd 32 = .ok (.ifCond .lt 15, 3) := by decide +kernel
theorem d_r_cd_35 : decode b_r_cd 35 = .ok (.aload_n 0, 1) := by decide +kernel
theorem d_r_cd_36 : decode b_r_cd 36 = .ok (.getfield 13, 3) := by decide +kernel
theorem d_r_cd_39 : decode b_r_cd 39 = .ok (.aload_n 0, 1) := by decide +kernel
theorem d_r_cd_40 : decode b_r_cd 40 = .ok (.getfield 225, 3) := by decide +kernel
theorem d_r_cd_43 : decode b_r_cd 43 = .ok (.baload, 1) := by decide +kernel
theorem d_r_cd_44 : decode b_r_cd 44 = .ok (.ifCond .ne 5, 3) := by decide +kernel
theorem d_r_cd_47 : decode b_r_cd 47 = .ok (.iconst 1, 1) := by decide +kernel
theorem d_r_cd_48 : decode b_r_cd 48 = .ok (.ireturn, 1) := by decide +kernel
theorem d_r_cd_49 : decode b_r_cd 49 = .ok (.aload_n 0, 1) := by decide +kernel
theorem d_r_cd_50 : decode b_r_cd 50 = .ok (.aload_n 0, 1) := by decide +kernel
theorem d_r_cd_51 : decode b_r_cd 51 = .ok (.getfield 225, 3) := by decide +kernel
theorem d_r_cd_54 : decode b_r_cd 54 = .ok (.putfield 162, 3) := by decide +kernel
theorem d_r_cd_57 : decode b_r_cd 57 = .ok (.iconst 0, 1) := by decide +kernel
theorem d_r_cd_58 : decode b_r_cd 58 = .ok (.ireturn, 1) := by decide +kernel
theorem d_r_tool_0 : decode b_r_tool 0 = .ok (.aload_n 0, 1) := by decide +kernel
theorem d_r_tool_1 : decode b_r_tool 1 = .ok (.iconst 0, 1) := by decide +kernel
theorem d_r_tool_2 : decode b_r_tool 2 = .ok (.invokevirtual 271, 3) := by decide +kernel
theorem d_r_tool_5 : decode b_r_tool 5 = .ok (.lstore_n 1, 1) := by decide +kernel
theorem d_r_tool_6 : decode b_r_tool 6 = .ok (.lload_n 1, 1) := by decide +kernel
theorem d_r_tool_7 : decode b_r_tool 7 = .ok (.ldc2_w 275, 3) := by decide +kernel
theorem d_r_tool_10 : decode b_r_tool 10 = .ok (.lcmp, 1) := by decide +kernel
theorem d_r_tool_11 : decode b_r_tool 11 = .ok (.ifCond .ne 10, 3) := by decide +kernel
theorem d_r_tool_14 : decode b_r_tool 14 = .ok (.aload_n 0, 1) := by decide +kernel
theorem d_r_tool_15 : decode b_r_tool 15 = .ok (.invokevirtual 277, 3) := by decide +kernel
theorem d_r_tool_18 : decode b_r_tool 18 = .ok (.goto 95, 3) := by decide +kernel
theorem d_r_tool_21 : decode b_r_tool 21 = .ok (.lload_n 1, 1) := by decide +kernel
theorem d_r_tool_22 : decode b_r_tool 22 = .ok (.ldc2_w 280, 3) := by decide +kernel
theorem d_r_tool_25 : decode b_r_tool 25 = .ok (.lcmp, 1) := by decide +kernel
theorem d_r_tool_26 : decode b_r_tool 26 = .ok (.ifCond .ne 10, 3) := by decide +kernel
theorem d_r_tool_29 : decode b_r_tool 29 = .ok (.aload_n 0, 1) := by decide +kernel
theorem d_r_tool_30 : decode b_r_tool 30 = .ok (.invokevirtual 282, 3) := by decide +kernel
theorem d_r_tool_33 : decode b_r_tool 33 = .ok (.goto 80, 3) := by decide +kernel
theorem d_r_tool_36 : decode b_r_tool 36 = .ok (.lload_n 1, 1) := by decide +kernel
theorem d_r_tool_37 : decode b_r_tool 37 = .ok (.ldc2_w 285, 3) := by decide +kernel
theorem d_r_tool_40 : decode b_r_tool 40 = .ok (.lcmp, 1) := by decide +kernel
theorem d_r_tool_41 : decode b_r_tool 41 = .ok (.ifCond .ne 10, 3) := by decide +kernel
theorem d_r_tool_44 : decode b_r_tool 44 = .ok (.aload_n 0, 1) := by decide +kernel
theorem d_r_tool_45 : decode b_r_tool 45 = .ok (.invokevirtual 287, 3) := by decide +kernel
theorem d_r_tool_48 : decode b_r_tool 48 = .ok (.goto 65, 3) := by decide +kernel
theorem d_r_tool_51 : decode b_r_tool 51 = .ok (.lload_n 1, 1) := by decide +kernel
theorem d_r_tool_52 : decode b_r_tool 52 = .ok (.ldc2_w 290, 3) := by decide +kernel
theorem d_r_tool_55 : decode b_r_tool 55 = .ok (.lcmp, 1) := by decide +kernel
theorem d_r_tool_56 : decode b_r_tool 56 = .ok (.ifCond .ne 10, 3) := by decide +kernel
theorem d_r_tool_59 : decode b_r_tool 59 = .ok (.aload_n 0, 1) := by decide +kernel
theorem d_r_tool_60 : decode b_r_tool 60 = .ok (.invokevirtual 292, 3) := by decide +kernel
theorem d_r_tool_63 : decode b_r_tool 63 = .ok (.goto 50, 3) := by decide +kernel
theorem d_r_tool_66 : decode b_r_tool 66 = .ok (.lload_n 1, 1) := by decide +kernel
theorem d_r_tool_67 : decode b_r_tool 67 = .ok (.ldc2_w 295, 3) := by decide +kernel
theorem d_r_tool_70 : decode b_r_tool 70 = .ok (.lcmp, 1) := by decide +kernel
theorem d_r_tool_71 : decode b_r_tool 71 = .ok (.ifCond .ne 10, 3) := by decide +kernel
theorem d_r_tool_74 : decode b_r_tool 74 = .ok (.aload_n 0, 1) := by decide +kernel
theorem d_r_tool_75 : decode b_r_tool 75 = .ok (.invokevirtual 297, 3) := by decide +kernel
theorem d_r_tool_78 : decode b_r_tool 78 = .ok (.goto 35, 3) := by decide +kernel
theorem d_r_tool_81 : decode b_r_tool 81 = .ok (.lload_n 1, 1) := by decide +kernel
theorem d_r_tool_82 : decode b_r_tool 82 = .ok (.ldc2_w 300, 3) := by decide +kernel
theorem d_r_tool_85 : decode b_r_tool 85 = .ok (.lcmp, 1) := by decide +kernel
theorem d_r_tool_86 : decode b_r_tool 86 = .ok (.ifCond .ne 10, 3) := by decide +kernel
theorem d_r_tool_89 : decode b_r_tool 89 = .ok (.aload_n 0, 1) := by decide +kernel
theorem d_r_tool_90 : decode b_r_tool 90 = .ok (.invokevirtual 302, 3) := by decide +kernel
theorem d_r_tool_93 : decode b_r_tool 93 = .ok (.goto 20, 3) := by decide +kernel
theorem d_r_tool_96 : decode b_r_tool 96 = .ok (.lload_n 1, 1) := by decide +kernel
theorem d_r_tool_97 : decode b_r_tool 97 = .ok (.ldc2_w 305, 3) := by decide +kernel
theorem d_r_tool_100 : decode b_r_tool 100 = .ok (.lcmp, 1) := by decide +kernel
theorem d_r_tool_101 : decode b_r_tool 101 = .ok (.ifCond .ne 10, 3) := by decide +kernel
theorem d_r_tool_104 : decode b_r_tool 104 = .ok (.aload_n 0, 1) := by decide +kernel
theorem d_r_tool_105 : decode b_r_tool 105 = .ok (.invokevirtual 307, 3) := by decide +kernel
theorem d_r_tool_108 : decode b_r_tool 108 = .ok (.goto 5, 3) := by decide +kernel
theorem d_r_tool_111 : decode b_r_tool 111 = .ok (.bipush 127, 2) := by decide +kernel
theorem d_r_tool_113 : decode b_r_tool 113 = .ok (.ireturn, 1) := by decide +kernel
theorem d_r_startCommand_0 : decode b_r_startCommand 0 = .ok (.aload_n 0, 1) := by decide +kernel
theorem d_r_startCommand_1 : decode b_r_startCommand 1 = .ok (.getfield 63, 3) := by decide +kernel
theorem d_r_startCommand_4 : decode b_r_startCommand 4 = .ok (.aload_n 0, 1) := by decide +kernel
theorem d_r_startCommand_5 : decode b_r_startCommand 5 = .ok (.getfield 147, 3) := by decide +kernel
theorem d_r_startCommand_8 : decode b_r_startCommand 8 = .ok (.aload_n 0, 1) := by decide +kernel
theorem d_r_startCommand_9 : decode b_r_startCommand 9 = .ok (.getfield 162, 3) := by decide +kernel
theorem d_r_startCommand_12 : decode b_r_startCommand 12 = .ok (.iastore, 1) := by decide +kernel
theorem d_r_startCommand_13 : decode b_r_startCommand 13 = .ok (.aload_n 0, 1) := by decide +kernel
theorem d_r_startCommand_14 : decode b_r_startCommand 14 = .ok (.getfield 54, 3) := by decide +kernel
theorem d_r_startCommand_17 : decode b_r_startCommand 17 = .ok (.aload_n 0, 1) := by decide +kernel
theorem d_r_startCommand_18 : decode b_r_startCommand 18 = .ok (.getfield 147, 3) := by decide +kernel
theorem d_r_startCommand_21 : decode b_r_startCommand 21 = .ok (.aload_n 0, 1) := by decide +kernel
theorem d_r_startCommand_22 : decode b_r_startCommand 22 = .ok (.getfield 57, 3) := by decide +kernel
theorem d_r_startCommand_25 : decode b_r_startCommand 25 = .ok (.aload_n 0, 1) := by decide +kernel
theorem d_r_startCommand_26 : decode b_r_startCommand 26 = .ok (.getfield 147, 3) := by decide +kernel
theorem d_r_startCommand_29 : decode b_r_startCommand 29 = .ok (.iaload, 1) := by decide +kernel
theorem d_r_startCommand_30 : decode b_r_startCommand 30 = .ok (.iastore, 1) := by decide +kernel
theorem d_r_startCommand_31 : decode b_r_startCommand 31 = .ok (.aload_n 0, 1) := by decide +kernel
theorem d_r_startCommand_32 : decode b_r_startCommand 32 = .ok (.getfield 60, 3) := by decide +kernel
theorem d_r_startCommand_35 : decode b_r_startCommand 35 = .ok (.aload_n 0, 1) := by decide +kernel
theorem d_r_startCommand_36 : decode b_r_startCommand 36 = .ok (.getfield 147, 3) := by decide +kernel
theorem d_r_startCommand_39 : decode b_r_startCommand 39 = .ok (.iconst (-1), 1) := by decide +kernel
theorem d_r_startCommand_40 : decode b_r_startCommand 40 = .ok (.iastore, 1) := by decide +kernel
theorem d_r_startCommand_41 : decode b_r_startCommand 41 = .ok (.aload_n 0, 1) := by decide +kernel
theorem d_r_startCommand_42 : decode b_r_startCommand 42 = .ok (.iconst 0, 1) := by decide +kernel
theorem d_r_startCommand_43 : decode b_r_startCommand 43 = .ok (.putfield 186, 3) := by decide +kernel
theorem d_r_startCommand_46 : decode b_r_startCommand 46 = .ok (.aload_n 0, 1) := by decide +kernel
theorem d_r_startCommand_47 : decode b_r_startCommand 47 = .ok (.iconst 0, 1) := by decide +kernel
theorem d_r_startCommand_48 : decode b_r_startCommand 48 = .ok (.putfield 189, 3) := by decide +kernel
theorem d_r_startCommand_51 : decode b_r_startCommand 51 = .ok (.aload_n 0, 1) := by decide +kernel
theorem d_r_startCommand_52 : decode b_r_startCommand 52 = .ok (.getfield 33, 3) := by decide +kernel
theorem d_r_startCommand_55 : decode b_r_startCommand 55 = .ok (.aload_n 0, 1) := by decide +kernel
theorem d_r_startCommand_56 : decode b_r_startCommand 56 = .ok (.getfield 150, 3) := by decide +kernel
theorem d_r_startCommand_59 : decode b_r_startCommand 59 = .ok (.iaload, 1) := by decide +kernel
theorem d_r_startCommand_60 : decode b_r_startCommand 60 = .ok (.bipush 8, 2) := by decide +kernel
theorem d_r_startCommand_62 : decode b_r_startCommand 62 = .ok (.if_icmp .ne 7, 3) := by decide +kernel
theorem d_r_startCommand_65 : decode b_r_startCommand 65 = .ok (.iconst 1, 1) := by decide +kernel
theorem d_r_startCommand_66 : decode b_r_startCommand 66 = .ok (.goto 4, 3) := by decide +kernel
theorem d_r_startCommand_69 : decode b_r_startCommand 69 = .ok (.iconst 0, 1) := by decide +kernel
theorem d_r_startCommand_70 : decode b_r_startCommand 70 = .ok (.istore_n 1, 1) := by decide +kernel
theorem d_r_startCommand_71 : decode b_r_startCommand 71 = .ok (.aload_n 0, 1) := by decide +kernel
theorem d_r_startCommand_72 : decode b_r_startCommand 72 = .ok (.aload_n 0, 1) := by decide +kernel
theorem d_r_startCommand_73 : decode b_r_startCommand 73 = .ok (.getfield 150, 3) := by decide +kernel
theorem d_r_startCommand_76 : decode b_r_startCommand 76 = .ok (.iconst 1, 1) := by decide +kernel
theorem d_r_startCommand_77 : decode b_r_startCommand 77 = .ok (.invokevirtual 182, 3) := by decide +kernel
theorem d_r_startCommand_80 : decode b_r_startCommand 80 = .ok (.istore_n 2, 1) := by decide +kernel
theorem d_r_startCommand_81 : decode b_r_startCommand 81 = .ok (.iconst 0, 1) := by decide +kernel
theorem d_r_startCommand_82 : decode b_r_startCommand 82 = .ok (.istore_n 3, 1) := by decide +kernel
theorem d_r_startCommand_83 : decode b_r_startCommand 83 = .ok (.aload_n 0, 1) := by decide +kernel
theorem d_r_startCommand_84 : decode b_r_startCommand 84 = .ok (.getfield 150, 3) := by decide +kernel
theorem d_r_startCommand_87 : decode b_r_startCommand 87 = .ok (.istore 4, 2) := by decide +kernel
theorem d_r_startCommand_89 : decode b_r_startCommand 89 = .ok (.iload 4, 2) := by decide +kernel
theorem d_r_startCommand_91 : decode b_r_startCommand 91 = .ok (.iload_n 2, 1) := by decide +kernel
theorem d_r_startCommand_92 : decode b_r_startCommand 92 = .ok (.if_icmp .ge 106, 3) := by decide +kernel
theorem d_r_startCommand_95 : decode b_r_startCommand 95 = .ok (.aload_n 0, 1) := by decide +kernel
theorem d_r_startCommand_96 : decode b_r_startCommand 96 = .ok (.getfield 33, 3) := by decide +kernel
theorem d_r_startCommand_99 : decode b_r_startCommand 99 = .ok (.iload 4, 2) := by decide +kernel
theorem d_r_startCommand_101 : decode b_r_startCommand 101 = .ok (.iaload, 1) := by decide +kernel
theorem d_r_startCommand_102 : decode b_r_startCommand 102 = .ok (.bipush 8, 2) := by decide +kernel
theorem d_r_startCommand_104 : decode b_r_startCommand 104 = .ok (.if_icmp .ne 9, 3) := by decide +kernel
theorem d_r_startCommand_107 : decode b_r_startCommand 107 = .ok (.iload_n 3, 1) := by decide +kernel
theorem d_r_startCommand_108 : decode b_r_startCommand 108 = .ok (.iconst 1, 1) := by decide +kernel
theorem d_r_startCommand_109 : decode b_r_startCommand 109 = .ok (.iadd, 1) := by decide +kernel
theorem d_r_startCommand_110 : decode b_r_startCommand 110 = .ok (.goto 22, 3) := by decide +kernel
theorem d_r_startCommand_113 : decode b_r_startCommand 113 = .ok (.aload_n 0, 1) := by decide +kernel
theorem d_r_startCommand_114 : decode b_r_startCommand 114 = .ok (.getfield 33, 3) := by decide +kernel
theorem d_r_startCommand_117 : decode b_r_startCommand 117 = .ok (.iload 4, 2) := by decide +kernel
theorem d_r_startCommand_119 : decode b_r_startCommand 119 = .ok (.iaload, 1) := by decide +kernel
theorem d_r_startCommand_120 : decode b_r_startCommand 120 = .ok (.bipush 9, 2) := by decide +kernel
theorem d_r_startCommand_122 : decode b_r_startCommand 122 = .ok (.if_icmp .ne 9, 3) := by decide +kernel
theorem d_r_startCommand_125 : decode b_r_startCommand 125 = .ok (.iload_n 3, 1) := by decide +kernel
theorem d_r_startCommand_126 : decode b_r_startCommand 126 = .ok (.iconst 1, 1) := by decide +kernel
theorem d_r_startCommand_127 : decode b_r_startCommand 127 = .ok (.isub, 1) := by decide +kernel
theorem d_r_startCommand_128 : decode b_r_startCommand 128 = .ok (.goto 4, 3) := by decide +kernel
theorem d_r_startCommand_131 : decode b_r_startCommand 131 = .ok (.iload_n 3, 1) := by decide +kernel
theorem d_r_startCommand_132 : decode b_r_startCommand 132 = .ok (.istore_n 3, 1) := by decide +kernel
theorem d_r_startCommand_133 : decode b_r_startCommand 133 = .ok (.iload_n 3, 1) := by decide +kernel
theorem d_r_startCommand_134 : decode b_r_startCommand 134 = .ok (.ifCond .ne 58, 3) := by decide +kernel
theorem d_r_startCommand_137 : decode b_r_startCommand 137 = .ok (.aload_n 0, 1) := by decide +kernel
theorem d_r_startCommand_138 : decode b_r_startCommand 138 = .ok (.getfield 33, 3) := by decide +kernel
theorem d_r_startCommand_141 : decode b_r_startCommand 141 = .ok (.iload 4, 2) := by decide +kernel
theorem d_r_startCommand_143 : decode b_r_startCommand 143 = .ok (.iaload, 1) := by decide +kernel
theorem d_r_startCommand_144 : decode b_r_startCommand 144 = .ok (.invokestatic 126, 3) := by decide +kernel
theorem d_r_startCommand_147 : decode b_r_startCommand 147 = .ok (.ifCond .eq 45, 3) := by decide +kernel
theorem d_r_startCommand_150 : decode b_r_startCommand 150 = .ok (.aload_n 0, 1) := by decide +kernel
theorem d_r_startCommand_151 : decode b_r_startCommand 151 = .ok (.aload_n 0, 1) := by decide +kernel
theorem d_r_startCommand_152 : decode b_r_startCommand 152 = .ok (.getfield 33, 3) := by decide +kernel
theorem d_r_startCommand_155 : decode b_r_startCommand 155 = .ok (.iload 4, 2) := by decide +kernel
theorem d_r_startCommand_157 : decode b_r_startCommand 157 = .ok (.iaload, 1) := by decide +kernel
theorem d_r_startCommand_158 : decode b_r_startCommand 158 = .ok (.iload 4, 2) := by decide +kernel
theorem d_r_startCommand_160 : decode b_r_startCommand 160 = .ok (.iconst 1, 1) := by decide +kernel
theorem d_r_startCommand_161 : decode b_r_startCommand 161 = .ok (.iadd, 1) := by decide +kernel
theorem d_r_startCommand_162 : decode b_r_startCommand 162 = .ok (.invokevirtual 193, 3) := by decide +kernel
theorem d_r_startCommand_165 : decode b_r_startCommand 165 = .ok (.istore 5, 2) := by decide +kernel
theorem d_r_startCommand_167 : decode b_r_startCommand 167 = .ok (.iload 5, 2) := by decide +kernel
theorem d_r_startCommand_169 : decode b_r_startCommand 169 = .ok (.ifCond .eq 23, 3) := by decide +kernel
theorem d_r_startCommand_172 : decode b_r_startCommand 172 = .ok (.aload_n 0, 1) := by decide +kernel
theorem d_r_startCommand_173 : decode b_r_startCommand 173 = .ok (.iload 5, 2) := by decide +kernel
theorem d_r_startCommand_175 : decode b_r_startCommand 175 = .ok (.ifCond .le 7, 3) := by decide +kernel
theorem d_r_startCommand_178 : decode b_r_startCommand 178 = .ok (.iload_n 2, 1) := by decide +kernel
theorem d_r_startCommand_179 : decode b_r_startCommand 179 = .ok (.goto 7, 3) := by decide +kernel
theorem d_r_startCommand_182 : decode b_r_startCommand 182 = .ok (.aload_n 0, 1) := by decide +kernel
theorem d_r_startCommand_183 : decode b_r_startCommand 183 = .ok (.getfield 150, 3) := by decide +kernel
theorem d_r_startCommand_186 : decode b_r_startCommand 186 = .ok (.putfield 150, 3) := by decide +kernel
theorem d_r_startCommand_189 : decode b_r_startCommand 189 = .ok (.iload 5, 2) := by decide +kernel
theorem d_r_startCommand_191 : decode b_r_startCommand 191 = .ok (.ireturn, 1) := by decide +kernel
theorem d_r_startCommand_192 : decode b_r_startCommand 192 = .ok (.iinc 4 1, 3) := by decide +kernel
theorem d_r_startCommand_195 : decode b_r_startCommand 195 = .ok (.goto (-106), 3) := by decide +kernel
theorem d_r_startCommand_198 : decode b_r_startCommand 198 = .ok (.iload_n 1, 1) := by decide +kernel
theorem d_r_startCommand_199 : decode b_r_startCommand 199 = .ok (.ifCond .eq 59, 3) := by decide +kernel
theorem d_r_startCommand_202 : decode b_r_startCommand 202 = .ok (.aload_n 0, 1) := by decide +kernel
theorem d_r_startCommand_203 : decode b_r_startCommand 203 = .ok (.aload_n 0, 1) := by decide +kernel
theorem d_r_startCommand_204 : decode b_r_startCommand 204 = .ok (.getfield 150, 3) := by decide +kernel
theorem d_r_startCommand_207 : decode b_r_startCommand 207 = .ok (.iconst 1, 1) := by decide +kernel
theorem d_r_startCommand_208 : decode b_r_startCommand 208 = .ok (.iadd, 1) := by decide +kernel
theorem d_r_startCommand_209 : decode b_r_startCommand 209 = .ok (.putfield 150, 3) := by decide +kernel
theorem d_r_startCommand_212 : decode b_r_startCommand 212 = .ok (.aload_n 0, 1) := by decide +kernel
theorem d_r_startCommand_213 : decode b_r_startCommand 213 = .ok (.aload_n 0, 1) := by decide +kernel
theorem d_r_startCommand_214 : decode b_r_startCommand 214 = .ok (.getfield 147, 3) := by decide +kernel
theorem d_r_startCommand_217 : decode b_r_startCommand 217 = .ok (.iconst 1, 1) := by decide +kernel
theorem d_r_startCommand_218 : decode b_r_startCommand 218 = .ok (.iadd, 1) := by decide +kernel
theorem d_r_startCommand_219 : decode b_r_startCommand 219 = .ok (.putfield 147, 3) := by decide +kernel
theorem d_r_startCommand_222 : decode b_r_startCommand 222 = .ok (.aload_n 0, 1) := by decide +kernel
theorem d_r_startCommand_223 : decode b_r_startCommand 223 = .ok (.getfield 51, 3) := by decide +kernel
theorem d_r_startCommand_226 : decode b_r_startCommand 226 = .ok (.aload_n 0, 1) := by decide +kernel
theorem d_r_startCommand_227 : decode b_r_startCommand 227 = .ok (.getfield 147, 3) := by decide +kernel
theorem d_r_startCommand_230 : decode b_r_startCommand 230 = .ok (.aload_n 0, 1) := by decide +kernel
theorem d_r_startCommand_231 : decode b_r_startCommand 231 = .ok (.getfield 54, 3) := by decide +kernel
theorem d_r_startCommand_234 : decode b_r_startCommand 234 = .ok (.aload_n 0, 1) := by decide +kernel
theorem d_r_startCommand_235 : decode b_r_startCommand 235 = .ok (.getfield 147, 3) := by decide +kernel
theorem d_r_startCommand_238 : decode b_r_startCommand 238 = .ok (.iconst 1, 1) := by decide +kernel
theorem d_r_startCommand_239 : decode b_r_startCommand 239 = .ok (.isub, 1) := by decide +kernel
theorem d_r_startCommand_240 : decode b_r_startCommand 240 = .ok (.iaload, 1) := by decide +kernel
theorem d_r_startCommand_241 : decode b_r_startCommand 241 = .ok (.iastore, 1) := by decide +kernel
theorem d_r_startCommand_242 : decode b_r_startCommand 242 = .ok (.aload_n 0, 1) := by decide +kernel
theorem d_r_startCommand_243 : decode b_r_startCommand 243 = .ok (.getfield 75, 3) := by decide +kernel
theorem d_r_startCommand_246 : decode b_r_startCommand 246 = .ok (.aload_n 0, 1) := by decide +kernel
theorem d_r_startCommand_247 : decode b_r_startCommand 247 = .ok (.getfield 147, 3) := by decide +kernel
theorem d_r_startCommand_250 : decode b_r_startCommand 250 = .ok (.iconst 0, 1) := by decide +kernel
theorem d_r_startCommand_251 : decode b_r_startCommand 251 = .ok (.iastore, 1) := by decide +kernel
theorem d_r_startCommand_252 : decode b_r_startCommand 252 = .ok (.aload_n 0, 1) := by decide +kernel
theorem d_r_startCommand_253 : decode b_r_startCommand 253 = .ok (.invokevirtual 165, 3) := by decide +kernel
theorem d_r_startCommand_256 : decode b_r_startCommand 256 = .ok (.iconst (-1), 1) := by decide +kernel
theorem d_r_startCommand_257 : decode b_r_startCommand 257 = .ok (.ireturn, 1) := by decide +kernel
theorem d_r_startCommand_258 : decode b_r_startCommand 258 = .ok (.aload_n 0, 1) := by decide +kernel
theorem d_r_startCommand_259 : decode b_r_startCommand 259 = .ok (.iconst 0, 1) := by decide +kernel
theorem d_r_startCommand_260 : decode b_r_startCommand 260 = .ok (.putfield 197, 3) := by decide +kernel
theorem d_r_startCommand_263 : decode b_r_startCommand 263 = .ok (.aload_n 0, 1) := by decide +kernel
theorem d_r_startCommand_264 : decode b_r_startCommand 264 = .ok (.iconst 0, 1) := by decide +kernel
theorem d_r_startCommand_265 : decode b_r_startCommand 265 = .ok (.putfield 200, 3) := by decide +kernel
theorem d_r_startCommand_268 : decode b_r_startCommand 268 = .ok (.aload_n 0, 1) := by decide +kernel
theorem d_r_startCommand_269 : decode b_r_startCommand 269 = .ok (.getfield 150, 3) := by decide +kernel
theorem d_r_startCommand_272 : decode b_r_startCommand 272 = .ok (.istore 4, 2) := by decide +kernel
theorem d_r_startCommand_274 : decode b_r_startCommand 274 = .ok (.iload 4, 2) := by decide +kernel
theorem d_r_startCommand_276 : decode b_r_startCommand 276 = .ok (.iload_n 2, 1) := by decide +kernel
theorem d_r_startCommand_277 : decode b_r_startCommand 277 = .ok (.if_icmp .ge 49, 3) := by decide +kernel
theorem d_r_startCommand_280 : decode b_r_startCommand 280 = .ok (.aload_n 0, 1) := by decide +kernel
theorem d_r_startCommand_281 : decode b_r_startCommand 281 = .ok (.getfield 33, 3) := by decide +kernel
theorem d_r_startCommand_284 : decode b_r_startCommand 284 = .ok (.iload 4, 2) := by decide +kernel
theorem d_r_startCommand_286 : decode b_r_startCommand 286 = .ok (.iaload, 1) := by decide +kernel
theorem d_r_startCommand_287 : decode b_r_startCommand 287 = .ok (.ifCond .ne 33, 3) := by decide +kernel
theorem d_r_startCommand_290 : decode b_r_startCommand 290 = .ok (.iload 4, 2) := by decide +kernel
theorem d_r_startCommand_292 : decode b_r_startCommand 292 = .ok (.aload_n 0, 1) := by decide +kernel
theorem d_r_startCommand_293 : decode b_r_startCommand 293 = .ok (.getfield 150, 3) := by decide +kernel
theorem d_r_startCommand_296 : decode b_r_startCommand 296 = .ok (.if_icmp .eq 18, 3) := by decide +kernel
theorem d_r_startCommand_299 : decode b_r_startCommand 299 = .ok (.aload_n 0, 1) := by decide +kernel
theorem d_r_startCommand_300 : decode b_r_startCommand 300 = .ok (.getfield 33, 3) := by decide +kernel
theorem d_r_startCommand_303 : decode b_r_startCommand 303 = .ok (.iload 4, 2) := by decide +kernel
theorem d_r_startCommand_305 : decode b_r_startCommand 305 = .ok (.iconst 1, 1) := by decide +kernel
theorem d_r_startCommand_306 : decode b_r_startCommand 306 = .ok (.isub, 1) := by decide +kernel
theorem d_r_startCommand_307 : decode b_r_startCommand 307 = .ok (.iaload, 1) := by decide +kernel
theorem d_r_startCommand_308 : decode b_r_startCommand 308 = .ok (.invokestatic 126, 3) := by decide +kernel
theorem d_r_startCommand_311 : decode b_r_startCommand 311 = .ok (.ifCond .ne 9, 3) := by decide +kernel
theorem d_r_startCommand_314 : decode b_r_startCommand 314 = .ok (.aload_n 0, 1) := by decide +kernel
theorem d_r_startCommand_315 : decode b_r_startCommand 315 = .ok (.iload 4, 2) := by decide +kernel
theorem d_r_startCommand_317 : decode b_r_startCommand 317 = .ok (.invokevirtual 203, 3) := by decide +kernel
theorem d_r_startCommand_320 : decode b_r_startCommand 320 = .ok (.iinc 4 1, 3) := by decide +kernel
theorem d_r_startCommand_323 : decode b_r_startCommand 323 = .ok (.goto (-49), 3) := by decide +kernel
theorem d_r_startCommand_326 : decode b_r_startCommand 326 = .ok (.aload_n 0, 1) := by decide +kernel
theorem d_r_startCommand_327 : decode b_r_startCommand 327 = .ok (.iload_n 2, 1) := by decide +kernel
theorem d_r_startCommand_328 : decode b_r_startCommand 328 = .ok (.putfield 150, 3) := by decide +kernel
theorem d_r_startCommand_331 : decode b_r_startCommand 331 = .ok (.aload_n 0, 1) := by decide +kernel
theorem d_r_startCommand_332 : decode b_r_startCommand 332 = .ok (.dup, 1) := by decide +kernel
theorem d_r_startCommand_333 : decode b_r_startCommand 333 = .ok (.getfield 144, 3) := by decide +kernel
theorem d_r_startCommand_336 : decode b_r_startCommand 336 = .ok (.iconst 1, 1) := by decide +kernel
theorem d_r_startCommand_337 : decode b_r_startCommand 337 = .ok (.iadd, 1) := by decide +kernel
theorem d_r_startCommand_338 : decode b_r_startCommand 338 = .ok (.putfield 144, 3) := by decide +kernel
theorem d_r_startCommand_341 : decode b_r_startCommand 341 = .ok (.aload_n 0, 1) := by decide +kernel
theorem d_r_startCommand_342 : decode b_r_startCommand 342 = .ok (.invokevirtual 207, 3) := by decide +kernel
theorem d_r_startCommand_345 : decode b_r_startCommand 345 = .ok (.istore 4, 2) := by decide +kernel
theorem d_r_startCommand_347 : decode b_r_startCommand 347 = .ok (.iload 4, 2) := by decide +kernel
theorem d_r_startCommand_349 : decode b_r_startCommand 349 = .ok (.ifCond .le 13, 3) := by decide +kernel
theorem d_r_startCommand_352 : decode b_r_startCommand 352 = .ok (.aload_n 0, 1) := by decide +kernel
theorem d_r_startCommand_353 : decode b_r_startCommand 353 = .ok (.iconst 0, 1) := by decide +kernel
theorem d_r_startCommand_354 : decode b_r_startCommand 354 = .ok (.putfield 186, 3) := by decide +kernel
theorem d_r_startCommand_357 : decode b_r_startCommand 357 = .ok (.aload_n 0, 1) := by decide +kernel
theorem d_r_startCommand_358 : decode b_r_startCommand 358 = .ok (.iconst 0, 1) := by decide +kernel
theorem d_r_startCommand_359 : decode b_r_startCommand 359 = .ok (.putfield 189, 3) := by decide +kernel
theorem d_r_startCommand_362 : decode b_r_startCommand 362 = .ok (.aload_n 0, 1) := by decide +kernel
theorem d_r_startCommand_363 : decode b_r_startCommand 363 = .ok (.getfield 189, 3) := by decide +kernel
theorem d_r_startCommand_366 : decode b_r_startCommand 366 = .ok (.ifCond .eq 8, 3) := by decide +kernel
theorem d_r_startCommand_369 : decode b_r_startCommand 369 = .ok (.bipush (-9), 2) := by decide +kernel
theorem d_r_startCommand_371 : decode b_r_startCommand 371 = .ok (.goto 5, 3) := by decide +kernel
theorem d_r_startCommand_374 : decode b_r_startCommand 374 = .ok (.iload 4, 2) := by decide +kernel
theorem d_r_startCommand_376 : decode b_r_startCommand 376 = .ok (.ireturn, 1) := by decide +kernel
theorem d_r_chars_0 : decode b_r_chars 0 = .ok (.iconst 0, 1) := by decide +kernel
theorem d_r_chars_1 : decode b_r_chars 1 = .ok (.istore_n 1, 1) := by decide +kernel
theorem d_r_chars_2 : decode b_r_chars 2 = .ok (.iconst 0, 1) := by decide +kernel
theorem d_r_chars_3 : decode b_r_chars 3 = .ok (.istore_n 2, 1) := by decide +kernel
theorem d_r_chars_4 : decode b_r_chars 4 = .ok (.iload_n 2, 1) := by decide +kernel
theorem d_r_chars_5 : decode b_r_chars 5 = .ok (.bipush 13, 2) := by decide +kernel
theorem d_r_chars_7 : decode b_r_chars 7 = .ok (.if_icmp .ge 31, 3) := by decide +kernel
theorem d_r_chars_10 : decode b_r_chars 10 = .ok (.aload_n 0, 1) := by decide +kernel
theorem d_r_chars_11 : decode b_r_chars 11 = .ok (.getfield 7, 3) := by decide +kernel
theorem d_r_chars_14 : decode b_r_chars 14 = .ok (.iload_n 2, 1) := by decide +kernel
theorem d_r_chars_15 : decode b_r_chars 15 = .ok (.baload, 1) := by decide +kernel
theorem d_r_chars_16 : decode b_r_chars 16 = .ok (.ifCond .eq 14, 3) := by decide +kernel
theorem d_r_chars_19 : decode b_r_chars 19 = .ok (.iload_n 1, 1) := by decide +kernel
theorem d_r_chars_20 : decode b_r_chars 20 = .ok (.aload_n 0, 1) := by decide +kernel
theorem d_r_chars_21 : decode b_r_chars 21 = .ok (.getfield 24, 3) := by decide +kernel
theorem d_r_chars_24 : decode b_r_chars 24 = .ok (.iload_n 2, 1) := by decide +kernel
theorem d_r_chars_25 : decode b_r_chars 25 = .ok (.iaload, 1) := by decide +kernel
theorem d_r_chars_26 : decode b_r_chars 26 = .ok (.iadd, 1) := by decide +kernel
theorem d_r_chars_27 : decode b_r_chars 27 = .ok (.goto 4, 3) := by decide +kernel
theorem d_r_chars_30 : decode b_r_chars 30 = .ok (.iload_n 1, 1) := by decide +kernel
theorem d_r_chars_31 : decode b_r_chars 31 = .ok (.istore_n 1, 1) := by decide +kernel
theorem d_r_chars_32 : decode b_r_chars 32 = .ok (.iinc 2 1, 3) := by decide +kernel
theorem d_r_chars_35 : decode b_r_chars 35 = .ok (.goto (-31), 3) := by decide +kernel
theorem d_r_chars_38 : decode b_r_chars 38 = .ok (.iload_n 1, 1) := by decide +kernel
theorem d_r_chars_39 : decode b_r_chars 39 = .ok (.ireturn, 1) := by decide +kernel
theorem d_r_addTo_0 : decode b_r_addTo 0 = .ok (.aload_n 0, 1) := by decide +kernel
theorem d_r_addTo_1 : decode b_r_addTo 1 = .ok (.invokevirtual 219, 3) := by decide +kernel
theorem d_r_addTo_4 : decode b_r_addTo 4 = .ok (.istore_n 2, 1) := by decide +kernel
theorem d_r_addTo_5 : decode b_r_addTo 5 = .ok (.iload_n 2, 1) := by decide +kernel
theorem d_r_addTo_6 : decode b_r_addTo 6 = .ok (.aload_n 0, 1) := by decide +kernel
theorem d_r_addTo_7 : decode b_r_addTo 7 = .ok (.getfield 186, 3) := by decide +kernel
theorem d_r_addTo_10 : decode b_r_addTo 10 = .ok (.iadd, 1) := by decide +kernel
theorem d_r_addTo_11 : decode b_r_addTo 11 = .ok (.aload_n 0, 1) := by decide +kernel
theorem d_r_addTo_12 : decode b_r_addTo 12 = .ok (.getfield 103, 3) := by decide +kernel
theorem d_r_addTo_15 : decode b_r_addTo 15 = .ok (.if_icmp .le 5, 3) := by decide +kernel
theorem d_r_addTo_18 : decode b_r_addTo 18 = .ok (.iconst 0, 1) := by decide +kernel
theorem d_r_addTo_19 : decode b_r_addTo 19 = .ok (.ireturn, 1) := by decide +kernel
theorem d_r_addTo_20 : decode b_r_addTo 20 = .ok (.iconst 0, 1) := by decide +kernel
theorem d_r_addTo_21 : decode b_r_addTo 21 = .ok (.istore_n 3, 1) := by decide +kernel
theorem d_r_addTo_22 : decode b_r_addTo 22 = .ok (.iload_n 3, 1) := by decide +kernel
theorem d_r_addTo_23 : decode b_r_addTo 23 = .ok (.aload_n 0, 1) := by decide +kernel
theorem d_r_addTo_24 : decode b_r_addTo 24 = .ok (.getfield 186, 3) := by decide +kernel
theorem d_r_addTo_27 : decode b_r_addTo 27 = .ok (.if_icmp .ge 34, 3) := by decide +kernel
theorem d_r_addTo_30 : decode b_r_addTo 30 = .ok (.aload_n 0, 1) := by decide +kernel
theorem d_r_addTo_31 : decode b_r_addTo 31 = .ok (.getfield 27, 3) := by decide +kernel
theorem d_r_addTo_34 : decode b_r_addTo 34 = .ok (.sipush 160, 3) := by decide +kernel
theorem d_r_addTo_37 : decode b_r_addTo 37 = .ok (.iload_n 1, 1) := by decide +kernel
theorem d_r_addTo_38 : decode b_r_addTo 38 = .ok (.imul, 1) := by decide +kernel
theorem d_r_addTo_39 : decode b_r_addTo 39 = .ok (.aload_n 0, 1) := by decide +kernel
theorem d_r_addTo_40 : decode b_r_addTo 40 = .ok (.getfield 24, 3) := by decide +kernel
theorem d_r_addTo_43 : decode b_r_addTo 43 = .ok (.iload_n 1, 1) := by decide +kernel
theorem d_r_addTo_44 : decode b_r_addTo 44 = .ok (.iaload, 1) := by decide +kernel
theorem d_r_addTo_45 : decode b_r_addTo 45 = .ok (.iadd, 1) := by decide +kernel
theorem d_r_addTo_46 : decode b_r_addTo 46 = .ok (.iload_n 3, 1) := by decide +kernel
theorem d_r_addTo_47 : decode b_r_addTo 47 = .ok (.iadd, 1) := by decide +kernel
theorem d_r_addTo_48 : decode b_r_addTo 48 = .ok (.aload_n 0, 1) := by decide +kernel
theorem d_r_addTo_49 : decode b_r_addTo 49 = .ok (.getfield 84, 3) := by decide +kernel
theorem d_r_addTo_52 : decode b_r_addTo 52 = .ok (.iload_n 3, 1) := by decide +kernel
theorem d_r_addTo_53 : decode b_r_addTo 53 = .ok (.iaload, 1) := by decide +kernel
theorem d_r_addTo_54 : decode b_r_addTo 54 = .ok (.iastore, 1) := by decide +kernel
theorem d_r_addTo_55 : decode b_r_addTo 55 = .ok (.iinc 3 1, 3) := by decide +kernel
theorem d_r_addTo_58 : decode b_r_addTo 58 = .ok (.goto (-36), 3) := by decide +kernel
theorem d_r_addTo_61 : decode b_r_addTo 61 = .ok (.aload_n 0, 1) := by decide +kernel
theorem d_r_addTo_62 : decode b_r_addTo 62 = .ok (.getfield 24, 3) := by decide +kernel
theorem d_r_addTo_65 : decode b_r_addTo 65 = .ok (.iload_n 1, 1) := by decide +kernel
theorem d_r_addTo_66 : decode b_r_addTo 66 = .ok (.dup2, 1) := by decide +kernel
theorem d_r_addTo_67 : decode b_r_addTo 67 = .ok (.iaload, 1) := by decide +kernel
theorem d_r_addTo_68 : decode b_r_addTo 68 = .ok (.aload_n 0, 1) := by decide +kernel
theorem d_r_addTo_69 : decode b_r_addTo 69 = .ok (.getfield 186, 3) := by decide +kernel
theorem d_r_addTo_72 : decode b_r_addTo 72 = .ok (.iadd, 1) := by decide +kernel
theorem d_r_addTo_73 : decode b_r_addTo 73 = .ok (.iastore, 1) := by decide +kernel
theorem d_r_addTo_74 : decode b_r_addTo 74 = .ok (.iconst 1, 1) := by decide +kernel
theorem d_r_addTo_75 : decode b_r_addTo 75 = .ok (.ireturn, 1) := by decide +kernel
theorem d_r_fill_0 : decode b_r_fill 0 = .ok (.aload_n 0, 1) := by decide +kernel
theorem d_r_fill_1 : decode b_r_fill 1 = .ok (.getfield 81, 3) := by decide +kernel
theorem d_r_fill_4 : decode b_r_fill 4 = .ok (.iload_n 1, 1) := by decide +kernel
theorem d_r_fill_5 : decode b_r_fill 5 = .ok (.aload_n 0, 1) := by decide +kernel
theorem d_r_fill_6 : decode b_r_fill 6 = .ok (.getfield 186, 3) := by decide +kernel
theorem d_r_fill_9 : decode b_r_fill 9 = .ok (.iastore, 1) := by decide +kernel
theorem d_r_fill_10 : decode b_r_fill 10 = .ok (.iconst 0, 1) := by decide +kernel
theorem d_r_fill_11 : decode b_r_fill 11 = .ok (.istore_n 2, 1) := by decide +kernel
theorem d_r_fill_12 : decode b_r_fill 12 = .ok (.iload_n 2, 1) := by decide +kernel
theorem d_r_fill_13 : decode b_r_fill 13 = .ok (.aload_n 0, 1) := by decide +kernel
theorem d_r_fill_14 : decode b_r_fill 14 = .ok (.getfield 186, 3) := by decide +kernel
theorem d_r_fill_17 : decode b_r_fill 17 = .ok (.if_icmp .ge 27, 3) := by decide +kernel
theorem d_r_fill_20 : decode b_r_fill 20 = .ok (.aload_n 0, 1) := by decide +kernel
theorem d_r_fill_21 : decode b_r_fill 21 = .ok (.getfield 78, 3) := by decide +kernel
theorem d_r_fill_24 : decode b_r_fill 24 = .ok (.sipush 160, 3) := by decide +kernel
theorem d_r_fill_27 : decode b_r_fill 27 = .ok (.iload_n 1, 1) := by decide +kernel
theorem d_r_fill_28 : decode b_r_fill 28 = .ok (.imul, 1) := by decide +kernel
theorem d_r_fill_29 : decode b_r_fill 29 = .ok (.iload_n 2, 1) := by decide +kernel
theorem d_r_fill_30 : decode b_r_fill 30 = .ok (.iadd, 1) := by decide +kernel
theorem d_r_fill_31 : decode b_r_fill 31 = .ok (.aload_n 0, 1) := by decide +kernel
theorem d_r_fill_32 : decode b_r_fill 32 = .ok (.getfield 84, 3) := by decide +kernel
theorem d_r_fill_35 : decode b_r_fill 35 = .ok (.iload_n 2, 1) := by decide +kernel
theorem d_r_fill_36 : decode b_r_fill 36 = .ok (.iaload, 1) := by decide +kernel
theorem d_r_fill_37 : decode b_r_fill 37 = .ok (.iastore, 1) := by decide +kernel
theorem d_r_fill_38 : decode b_r_fill 38 = .ok (.iinc 2 1, 3) := by decide +kernel
theorem d_r_fill_41 : decode b_r_fill 41 = .ok (.goto (-29), 3) := by decide +kernel
theorem d_r_fill_44 : decode b_r_fill 44 = .ok (.return_, 1) := by decide +kernel
theorem d_r_goOn_0 : decode b_r_goOn 0 = .ok (.aload_n 0, 1) := by decide +kernel
theorem d_r_goOn_1 : decode b_r_goOn 1 = .ok (.aload_n 0, 1) := by decide +kernel
theorem d_r_goOn_2 : decode b_r_goOn 2 = .ok (.getfield 150, 3) := by decide +kernel
theorem d_r_goOn_5 : decode b_r_goOn 5 = .ok (.invokevirtual 176, 3) := by decide +kernel
theorem d_r_goOn_8 : decode b_r_goOn 8 = .ok (.iconst 2, 1) := by decide +kernel
theorem d_r_goOn_9 : decode b_r_goOn 9 = .ok (.if_icmp .ne 10, 3) := by decide +kernel
theorem d_r_goOn_12 : decode b_r_goOn 12 = .ok (.aload_n 0, 1) := by decide +kernel
theorem d_r_goOn_13 : decode b_r_goOn 13 = .ok (.getfield 159, 3) := by decide +kernel
theorem d_r_goOn_16 : decode b_r_goOn 16 = .ok (.ifCond .ne 22, 3) := by decide +kernel
theorem d_r_goOn_19 : decode b_r_goOn 19 = .ok (.aload_n 0, 1) := by decide +kernel
theorem d_r_goOn_20 : decode b_r_goOn 20 = .ok (.aload_n 0, 1) := by decide +kernel
theorem d_r_goOn_21 : decode b_r_goOn 21 = .ok (.getfield 150, 3) := by decide +kernel
theorem d_r_goOn_24 : decode b_r_goOn 24 = .ok (.invokevirtual 176, 3) := by decide +kernel
theorem d_r_goOn_27 : decode b_r_goOn 27 = .ok (.iconst 3, 1) := by decide +kernel
theorem d_r_goOn_28 : decode b_r_goOn 28 = .ok (.if_icmp .ne 28, 3) := by decide +kernel
theorem d_r_goOn_31 : decode b_r_goOn 31 = .ok (.aload_n 0, 1) := by decide +kernel
theorem d_r_goOn_32 : decode b_r_goOn 32 = .ok (.getfield 159, 3) := by decide +kernel
theorem d_r_goOn_35 : decode b_r_goOn 35 = .ok (.ifCond .ne 21, 3) := by decide +kernel
