theorem w_67 : (Jvm.Cond.initialized "TreeShellLaw") ∈ zt := List.mem_filter.mpr ⟨List.mem_of_getElem? (i := 67) (by decide +kernel), rfl⟩
theorem w_366 : (Jvm.Cond.methodLink "TreeShellLaw" (23 : Nat) ({ cls := "TreeShell", name := "type", desc := "(J)Z" } : Jvm.MethodName)) ∈ zt := List.mem_filter.mpr ⟨List.mem_of_getElem? (i := 366) (by decide +kernel), rfl⟩
theorem w_379 : (Jvm.Cond.methodLink "TreeShellLaw" (28 : Nat) ({ cls := "TreeShell", name := "wipe", desc := "()V" } : Jvm.MethodName)) ∈ zt := List.mem_filter.mpr ⟨List.mem_of_getElem? (i := 379) (by decide +kernel), rfl⟩
theorem w_387 : (Jvm.Cond.methodLink "TreeShellLaw" (32 : Nat) ({ cls := "TreeShell", name := "typed", desc := "()I" } : Jvm.MethodName)) ∈ zt := List.mem_filter.mpr ⟨List.mem_of_getElem? (i := 387) (by decide +kernel), rfl⟩
theorem w_391 : (Jvm.Cond.methodLink "TreeShellLaw" (37 : Nat) ({ cls := "TreeShell", name := "check", desc := "()I" } : Jvm.MethodName)) ∈ zt := List.mem_filter.mpr ⟨List.mem_of_getElem? (i := 391) (by decide +kernel), rfl⟩
theorem w_451 : (Jvm.Cond.methodLink "TreeShellLaw" (41 : Nat) ({ cls := "TreeShell", name := "enter", desc := "()I" } : Jvm.MethodName)) ∈ zt := List.mem_filter.mpr ⟨List.mem_of_getElem? (i := 451) (by decide +kernel), rfl⟩
theorem w_691 : (Jvm.Cond.methodLink "TreeShellLaw" (45 : Nat) ({ cls := "TreeShell", name := "status", desc := "()I" } : Jvm.MethodName)) ∈ zt := List.mem_filter.mpr ⟨List.mem_of_getElem? (i := 691) (by decide +kernel), rfl⟩
theorem w_695 : (Jvm.Cond.methodLink "TreeShellLaw" (49 : Nat) ({ cls := "TreeShell", name := "length", desc := "()I" } : Jvm.MethodName)) ∈ zt := List.mem_filter.mpr ⟨List.mem_of_getElem? (i := 695) (by decide +kernel), rfl⟩
theorem w_703 : (Jvm.Cond.methodLink "TreeShellLaw" (53 : Nat) ({ cls := "TreeShell", name := "out", desc := "(I)J" } : Jvm.MethodName)) ∈ zt := List.mem_filter.mpr ⟨List.mem_of_getElem? (i := 703) (by decide +kernel), rfl⟩
theorem w_707 : (Jvm.Cond.methodLink "TreeShellLaw" (58 : Nat) ({ cls := "TreeShell", name := "ran", desc := "()I" } : Jvm.MethodName)) ∈ zt := List.mem_filter.mpr ⟨List.mem_of_getElem? (i := 707) (by decide +kernel), rfl⟩
theorem w_711 : (Jvm.Cond.methodLink "TreeShellLaw" (62 : Nat) ({ cls := "TreeShell", name := "nodes", desc := "()I" } : Jvm.MethodName)) ∈ zt := List.mem_filter.mpr ⟨List.mem_of_getElem? (i := 711) (by decide +kernel), rfl⟩
theorem w_715 : (Jvm.Cond.methodLink "TreeShellLaw" (66 : Nat) ({ cls := "TreeShell", name := "chars", desc := "()I" } : Jvm.MethodName)) ∈ zt := List.mem_filter.mpr ⟨List.mem_of_getElem? (i := 715) (by decide +kernel), rfl⟩
theorem w_719 : (Jvm.Cond.methodLink "TreeShellLaw" (70 : Nat) ({ cls := "TreeShell", name := "depth", desc := "()I" } : Jvm.MethodName)) ∈ zt := List.mem_filter.mpr ⟨List.mem_of_getElem? (i := 719) (by decide +kernel), rfl⟩
theorem w_724 : (Jvm.Cond.static ({ cls := "TreeShellLaw", name := "cell", desc := "([II)I" } : Jvm.MethodName)) ∈ zt := List.mem_filter.mpr ⟨List.mem_of_getElem? (i := 724) (by decide +kernel), rfl⟩
theorem w_725 : (Jvm.Cond.code ({ cls := "TreeShellLaw", name := "cell", desc := "([II)I" } : Jvm.MethodName) method_2_code (2 : Nat) (Option.some Jvm.ClassFile.FieldType.int)) ∈ zt := List.mem_filter.mpr ⟨List.mem_of_getElem? (i := 725) (by decide +kernel), rfl⟩
theorem w_882 : (Jvm.Cond.methodLink "TreeShellLaw" (27 : Nat) ({ cls := "TreeShellModel", name := "type", desc := "(J)Z" } : Jvm.MethodName)) ∈ zt := List.mem_filter.mpr ⟨List.mem_of_getElem? (i := 882) (by decide +kernel), rfl⟩
theorem w_886 : (Jvm.Cond.methodLink "TreeShellLaw" (31 : Nat) ({ cls := "TreeShellModel", name := "wipe", desc := "()V" } : Jvm.MethodName)) ∈ zt := List.mem_filter.mpr ⟨List.mem_of_getElem? (i := 886) (by decide +kernel), rfl⟩
theorem w_890 : (Jvm.Cond.methodLink "TreeShellLaw" (36 : Nat) ({ cls := "TreeShellModel", name := "typed", desc := "()I" } : Jvm.MethodName)) ∈ zt := List.mem_filter.mpr ⟨List.mem_of_getElem? (i := 890) (by decide +kernel), rfl⟩
theorem w_894 : (Jvm.Cond.methodLink "TreeShellLaw" (40 : Nat) ({ cls := "TreeShellModel", name := "check", desc := "()I" } : Jvm.MethodName)) ∈ zt := List.mem_filter.mpr ⟨List.mem_of_getElem? (i := 894) (by decide +kernel), rfl⟩
theorem w_924 : (Jvm.Cond.methodLink "TreeShellLaw" (44 : Nat) ({ cls := "TreeShellModel", name := "enter", desc := "()I" } : Jvm.MethodName)) ∈ zt := List.mem_filter.mpr ⟨List.mem_of_getElem? (i := 924) (by decide +kernel), rfl⟩
theorem w_1085 : (Jvm.Cond.methodLink "TreeShellLaw" (48 : Nat) ({ cls := "TreeShellModel", name := "status", desc := "()I" } : Jvm.MethodName)) ∈ zt := List.mem_filter.mpr ⟨List.mem_of_getElem? (i := 1085) (by decide +kernel), rfl⟩
theorem w_1089 : (Jvm.Cond.methodLink "TreeShellLaw" (52 : Nat) ({ cls := "TreeShellModel", name := "length", desc := "()I" } : Jvm.MethodName)) ∈ zt := List.mem_filter.mpr ⟨List.mem_of_getElem? (i := 1089) (by decide +kernel), rfl⟩
theorem w_1093 : (Jvm.Cond.methodLink "TreeShellLaw" (57 : Nat) ({ cls := "TreeShellModel", name := "out", desc := "(I)J" } : Jvm.MethodName)) ∈ zt := List.mem_filter.mpr ⟨List.mem_of_getElem? (i := 1093) (by decide +kernel), rfl⟩
theorem w_1097 : (Jvm.Cond.methodLink "TreeShellLaw" (61 : Nat) ({ cls := "TreeShellModel", name := "ran", desc := "()I" } : Jvm.MethodName)) ∈ zt := List.mem_filter.mpr ⟨List.mem_of_getElem? (i := 1097) (by decide +kernel), rfl⟩
theorem w_1101 : (Jvm.Cond.methodLink "TreeShellLaw" (65 : Nat) ({ cls := "TreeShellModel", name := "nodes", desc := "()I" } : Jvm.MethodName)) ∈ zt := List.mem_filter.mpr ⟨List.mem_of_getElem? (i := 1101) (by decide +kernel), rfl⟩
theorem w_1105 : (Jvm.Cond.methodLink "TreeShellLaw" (69 : Nat) ({ cls := "TreeShellModel", name := "chars", desc := "()I" } : Jvm.MethodName)) ∈ zt := List.mem_filter.mpr ⟨List.mem_of_getElem? (i := 1105) (by decide +kernel), rfl⟩
theorem w_1106 : (Jvm.Cond.methodLink "TreeShellLaw" (73 : Nat) ({ cls := "TreeShellModel", name := "depth", desc := "()I" } : Jvm.MethodName)) ∈ zt := List.mem_filter.mpr ⟨List.mem_of_getElem? (i := 1106) (by decide +kernel), rfl⟩
theorem w_1110 : (Jvm.Cond.constantLong "TreeShellLaw" (21 : Nat) (4294967295 : Int64)) ∈ zt := List.mem_filter.mpr ⟨List.mem_of_getElem? (i := 1110) (by decide +kernel), rfl⟩
theorem d_cShellLaw_cell_0 : decode b_cShellLaw_cell 0 = .ok (.iload_n 1, 1) := by decide +kernel
theorem d_cShellLaw_cell_1 : decode b_cShellLaw_cell 1 = .ok (.aload_n 0, 1) := by decide +kernel
theorem d_cShellLaw_cell_2 : decode b_cShellLaw_cell 2 = .ok (.arraylength, 1) := by decide +kernel
theorem d_cShellLaw_cell_3 : decode b_cShellLaw_cell 3 = .ok (.if_icmp .ge 9, 3) := by decide +kernel
theorem d_cShellLaw_cell_6 : decode b_cShellLaw_cell 6 = .ok (.aload_n 0, 1) := by decide +kernel
theorem d_cShellLaw_cell_7 : decode b_cShellLaw_cell 7 = .ok (.iload_n 1, 1) := by decide +kernel
theorem d_cShellLaw_cell_8 : decode b_cShellLaw_cell 8 = .ok (.iaload, 1) := by decide +kernel
theorem d_cShellLaw_cell_9 : decode b_cShellLaw_cell 9 = .ok (.goto 4, 3) := by decide +kernel
theorem d_cShellLaw_cell_12 : decode b_cShellLaw_cell 12 = .ok (.iconst 0, 1) := by decide +kernel
theorem d_cShellLaw_cell_13 : decode b_cShellLaw_cell 13 = .ok (.ireturn, 1) := by decide +kernel
theorem d_law_0 : decode code 0 = .ok (.new 7, 3) := by decide +kernel
theorem d_law_3 : decode code 3 = .ok (.dup, 1) := by decide +kernel
theorem d_law_4 : decode code 4 = .ok (.aload_n 0, 1) := by decide +kernel
theorem d_law_5 : decode code 5 = .ok (.iconst 0, 1) := by decide +kernel
theorem d_law_6 : decode code 6 = .ok (.invokestatic 9, 3) := by decide +kernel
theorem d_law_9 : decode code 9 = .ok (.aload_n 0, 1) := by decide +kernel
theorem d_law_10 : decode code 10 = .ok (.iconst 1, 1) := by decide +kernel
theorem d_law_11 : decode code 11 = .ok (.invokestatic 9, 3) := by decide +kernel
theorem d_law_14 : decode code 14 = .ok (.aload_n 0, 1) := by decide +kernel
theorem d_law_15 : decode code 15 = .ok (.iconst 2, 1) := by decide +kernel
theorem d_law_16 : decode code 16 = .ok (.invokestatic 9, 3) := by decide +kernel
theorem d_law_19 : decode code 19 = .ok (.invokespecial 15, 3) := by decide +kernel
theorem d_law_22 : decode code 22 = .ok (.astore_n 1, 1) := by decide +kernel
theorem d_law_23 : decode code 23 = .ok (.new 18, 3) := by decide +kernel
theorem d_law_26 : decode code 26 = .ok (.dup, 1) := by decide +kernel
theorem d_law_27 : decode code 27 = .ok (.aload_n 0, 1) := by decide +kernel
theorem d_law_28 : decode code 28 = .ok (.iconst 0, 1) := by decide +kernel
theorem d_law_29 : decode code 29 = .ok (.invokestatic 9, 3) := by decide +kernel
theorem d_law_32 : decode code 32 = .ok (.aload_n 0, 1) := by decide +kernel
theorem d_law_33 : decode code 33 = .ok (.iconst 1, 1) := by decide +kernel
theorem d_law_34 : decode code 34 = .ok (.invokestatic 9, 3) := by decide +kernel
theorem d_law_37 : decode code 37 = .ok (.aload_n 0, 1) := by decide +kernel
theorem d_law_38 : decode code 38 = .ok (.iconst 2, 1) := by decide +kernel
theorem d_law_39 : decode code 39 = .ok (.invokestatic 9, 3) := by decide +kernel
theorem d_law_42 : decode code 42 = .ok (.invokespecial 20, 3) := by decide +kernel
theorem d_law_45 : decode code 45 = .ok (.astore_n 2, 1) := by decide +kernel
theorem d_law_46 : decode code 46 = .ok (.iconst 3, 1) := by decide +kernel
theorem d_law_47 : decode code 47 = .ok (.istore_n 3, 1) := by decide +kernel
theorem d_law_48 : decode code 48 = .ok (.iload_n 3, 1) := by decide +kernel
theorem d_law_49 : decode code 49 = .ok (.aload_n 0, 1) := by decide +kernel
theorem d_law_50 : decode code 50 = .ok (.arraylength, 1) := by decide +kernel
theorem d_law_51 : decode code 51 = .ok (.iconst 3, 1) := by decide +kernel
theorem d_law_52 : decode code 52 = .ok (.isub, 1) := by decide +kernel
theorem d_law_53 : decode code 53 = .ok (.if_icmp .gt 282, 3) := by decide +kernel
theorem d_law_56 : decode code 56 = .ok (.aload_n 0, 1) := by decide +kernel
theorem d_law_57 : decode code 57 = .ok (.iload_n 3, 1) := by decide +kernel
theorem d_law_58 : decode code 58 = .ok (.iaload, 1) := by decide +kernel
theorem d_law_59 : decode code 59 = .ok (.bipush 15, 2) := by decide +kernel
theorem d_law_61 : decode code 61 = .ok (.iand, 1) := by decide +kernel
theorem d_law_62 : decode code 62 = .ok (.tableswitch 267 0 11 #[62, 115, 126, 139, 152, 165, 178, 191, 215, 228, 241, 254], 62) := by decide +kernel
theorem d_law_124 : decode code 124 = .ok (.aload_n 1, 1) := by decide +kernel
theorem d_law_125 : decode code 125 = .ok (.aload_n 0, 1) := by decide +kernel
theorem d_law_126 : decode code 126 = .ok (.iload_n 3, 1) := by decide +kernel
theorem d_law_127 : decode code 127 = .ok (.iconst 1, 1) := by decide +kernel
theorem d_law_128 : decode code 128 = .ok (.iadd, 1) := by decide +kernel
theorem d_law_129 : decode code 129 = .ok (.iaload, 1) := by decide +kernel
theorem d_law_130 : decode code 130 = .ok (.i2l, 1) := by decide +kernel
theorem d_law_131 : decode code 131 = .ok (.bipush 32, 2) := by decide +kernel
theorem d_law_133 : decode code 133 = .ok (.lshl, 1) := by decide +kernel
theorem d_law_134 : decode code 134 = .ok (.aload_n 0, 1) := by decide +kernel
theorem d_law_135 : decode code 135 = .ok (.iload_n 3, 1) := by decide +kernel
theorem d_law_136 : decode code 136 = .ok (.iconst 2, 1) := by decide +kernel
theorem d_law_137 : decode code 137 = .ok (.iadd, 1) := by decide +kernel
theorem d_law_138 : decode code 138 = .ok (.iaload, 1) := by decide +kernel
theorem d_law_139 : decode code 139 = .ok (.i2l, 1) := by decide +kernel
theorem d_law_140 : decode code 140 = .ok (.ldc2_w 21, 3) := by decide +kernel
theorem d_law_143 : decode code 143 = .ok (.land, 1) := by decide +kernel
theorem d_law_144 : decode code 144 = .ok (.lor, 1) := by decide +kernel
theorem d_law_145 : decode code 145 = .ok (.invokevirtual 23, 3) := by decide +kernel
theorem d_law_148 : decode code 148 = .ok (.aload_n 2, 1) := by decide +kernel
theorem d_law_149 : decode code 149 = .ok (.aload_n 0, 1) := by decide +kernel
theorem d_law_150 : decode code 150 = .ok (.iload_n 3, 1) := by decide +kernel
theorem d_law_151 : decode code 151 = .ok (.iconst 1, 1) := by decide +kernel
theorem d_law_152 : decode code 152 = .ok (.iadd, 1) := by decide +kernel
theorem d_law_153 : decode code 153 = .ok (.iaload, 1) := by decide +kernel
theorem d_law_154 : decode code 154 = .ok (.i2l, 1) := by decide +kernel
theorem d_law_155 : decode code 155 = .ok (.bipush 32, 2) := by decide +kernel
theorem d_law_157 : decode code 157 = .ok (.lshl, 1) := by decide +kernel
theorem d_law_158 : decode code 158 = .ok (.aload_n 0, 1) := by decide +kernel
theorem d_law_159 : decode code 159 = .ok (.iload_n 3, 1) := by decide +kernel
theorem d_law_160 : decode code 160 = .ok (.iconst 2, 1) := by decide +kernel
theorem d_law_161 : decode code 161 = .ok (.iadd, 1) := by decide +kernel
theorem d_law_162 : decode code 162 = .ok (.iaload, 1) := by decide +kernel
theorem d_law_163 : decode code 163 = .ok (.i2l, 1) := by decide +kernel
theorem d_law_164 : decode code 164 = .ok (.ldc2_w 21, 3) := by decide +kernel
theorem d_law_167 : decode code 167 = .ok (.land, 1) := by decide +kernel
theorem d_law_168 : decode code 168 = .ok (.lor, 1) := by decide +kernel
theorem d_law_169 : decode code 169 = .ok (.invokevirtual 27, 3) := by decide +kernel
theorem d_law_172 : decode code 172 = .ok (.if_icmp .eq 157, 3) := by decide +kernel
theorem d_law_175 : decode code 175 = .ok (.iconst 0, 1) := by decide +kernel
theorem d_law_176 : decode code 176 = .ok (.ireturn, 1) := by decide +kernel
theorem d_law_177 : decode code 177 = .ok (.aload_n 1, 1) := by decide +kernel
theorem d_law_178 : decode code 178 = .ok (.invokevirtual 28, 3) := by decide +kernel
theorem d_law_181 : decode code 181 = .ok (.aload_n 2, 1) := by decide +kernel
theorem d_law_182 : decode code 182 = .ok (.invokevirtual 31, 3) := by decide +kernel
theorem d_law_185 : decode code 185 = .ok (.goto 144, 3) := by decide +kernel
theorem d_law_188 : decode code 188 = .ok (.aload_n 1, 1) := by decide +kernel
theorem d_law_189 : decode code 189 = .ok (.invokevirtual 32, 3) := by decide +kernel
theorem d_law_192 : decode code 192 = .ok (.aload_n 2, 1) := by decide +kernel
theorem d_law_193 : decode code 193 = .ok (.invokevirtual 36, 3) := by decide +kernel
theorem d_law_196 : decode code 196 = .ok (.if_icmp .eq 133, 3) := by decide +kernel
theorem d_law_199 : decode code 199 = .ok (.iconst 0, 1) := by decide +kernel
theorem d_law_200 : decode code 200 = .ok (.ireturn, 1) := by decide +kernel
theorem d_law_201 : decode code 201 = .ok (.aload_n 1, 1) := by decide +kernel
theorem d_law_202 : decode code 202 = .ok (.invokevirtual 37, 3) := by decide +kernel
theorem d_law_205 : decode code 205 = .ok (.aload_n 2, 1) := by decide +kernel
theorem d_law_206 : decode code 206 = .ok (.invokevirtual 40, 3) := by decide +kernel
theorem d_law_209 : decode code 209 = .ok (.if_icmp .eq 120, 3) := by decide +kernel
theorem d_law_212 : decode code 212 = .ok (.iconst 0, 1) := by decide +kernel
theorem d_law_213 : decode code 213 = .ok (.ireturn, 1) := by decide +kernel
theorem d_law_214 : decode code 214 = .ok (.aload_n 1, 1) := by decide +kernel
theorem d_law_215 : decode code 215 = .ok (.invokevirtual 41, 3) := by decide +kernel
theorem d_law_218 : decode code 218 = .ok (.aload_n 2, 1) := by decide +kernel
theorem d_law_219 : decode code 219 = .ok (.invokevirtual 44, 3) := by decide +kernel
theorem d_law_222 : decode code 222 = .ok (.if_icmp .eq 107, 3) := by decide +kernel
theorem d_law_225 : decode code 225 = .ok (.iconst 0, 1) := by decide +kernel
theorem d_law_226 : decode code 226 = .ok (.ireturn, 1) := by decide +kernel
theorem d_law_227 : decode code 227 = .ok (.aload_n 1, 1) := by decide +kernel
theorem d_law_228 : decode code 228 = .ok (.invokevirtual 45, 3) := by decide +kernel
theorem d_law_231 : decode code 231 = .ok (.aload_n 2, 1) := by decide +kernel
theorem d_law_232 : decode code 232 = .ok (.invokevirtual 48, 3) := by decide +kernel
theorem d_law_235 : decode code 235 = .ok (.if_icmp .eq 94, 3) := by decide +kernel
theorem d_law_238 : decode code 238 = .ok (.iconst 0, 1) := by decide +kernel
theorem d_law_239 : decode code 239 = .ok (.ireturn, 1) := by decide +kernel
theorem d_law_240 : decode code 240 = .ok (.aload_n 1, 1) := by decide +kernel
theorem d_law_241 : decode code 241 = .ok (.invokevirtual 49, 3) := by decide +kernel
theorem d_law_244 : decode code 244 = .ok (.aload_n 2, 1) := by decide +kernel
theorem d_law_245 : decode code 245 = .ok (.invokevirtual 52, 3) := by decide +kernel
theorem d_law_248 : decode code 248 = .ok (.if_icmp .eq 81, 3) := by decide +kernel
theorem d_law_251 : decode code 251 = .ok (.iconst 0, 1) := by decide +kernel
theorem d_law_252 : decode code 252 = .ok (.ireturn, 1) := by decide +kernel
theorem d_law_253 : decode code 253 = .ok (.aload_n 1, 1) := by decide +kernel
theorem d_law_254 : decode code 254 = .ok (.aload_n 0, 1) := by decide +kernel
theorem d_law_255 : decode code 255 = .ok (.iload_n 3, 1) := by decide +kernel
theorem d_law_256 : decode code 256 = .ok (.iconst 1, 1) := by decide +kernel
theorem d_law_257 : decode code 257 = .ok (.iadd, 1) := by decide +kernel
theorem d_law_258 : decode code 258 = .ok (.iaload, 1) := by decide +kernel
theorem d_law_259 : decode code 259 = .ok (.invokevirtual 53, 3) := by decide +kernel
theorem d_law_262 : decode code 262 = .ok (.aload_n 2, 1) := by decide +kernel
theorem d_law_263 : decode code 263 = .ok (.aload_n 0, 1) := by decide +kernel
theorem d_law_264 : decode code 264 = .ok (.iload_n 3, 1) := by decide +kernel
theorem d_law_265 : decode code 265 = .ok (.iconst 1, 1) := by decide +kernel
theorem d_law_266 : decode code 266 = .ok (.iadd, 1) := by decide +kernel
theorem d_law_267 : decode code 267 = .ok (.iaload, 1) := by decide +kernel
theorem d_law_268 : decode code 268 = .ok (.invokevirtual 57, 3) := by decide +kernel
theorem d_law_271 : decode code 271 = .ok (.lcmp, 1) := by decide +kernel
theorem d_law_272 : decode code 272 = .ok (.ifCond .eq 57, 3) := by decide +kernel
theorem d_law_275 : decode code 275 = .ok (.iconst 0, 1) := by decide +kernel
theorem d_law_276 : decode code 276 = .ok (.ireturn, 1) := by decide +kernel
theorem d_law_277 : decode code 277 = .ok (.aload_n 1, 1) := by decide +kernel
theorem d_law_278 : decode code 278 = .ok (.invokevirtual 58, 3) := by decide +kernel
theorem d_law_281 : decode code 281 = .ok (.aload_n 2, 1) := by decide +kernel
theorem d_law_282 : decode code 282 = .ok (.invokevirtual 61, 3) := by decide +kernel
theorem d_law_285 : decode code 285 = .ok (.if_icmp .eq 44, 3) := by decide +kernel
theorem d_law_288 : decode code 288 = .ok (.iconst 0, 1) := by decide +kernel
theorem d_law_289 : decode code 289 = .ok (.ireturn, 1) := by decide +kernel
theorem d_law_290 : decode code 290 = .ok (.aload_n 1, 1) := by decide +kernel
theorem d_law_291 : decode code 291 = .ok (.invokevirtual 62, 3) := by decide +kernel
theorem d_law_294 : decode code 294 = .ok (.aload_n 2, 1) := by decide +kernel
theorem d_law_295 : decode code 295 = .ok (.invokevirtual 65, 3) := by decide +kernel
theorem d_law_298 : decode code 298 = .ok (.if_icmp .eq 31, 3) := by decide +kernel
theorem d_law_301 : decode code 301 = .ok (.iconst 0, 1) := by decide +kernel
theorem d_law_302 : decode code 302 = .ok (.ireturn, 1) := by decide +kernel
theorem d_law_303 : decode code 303 = .ok (.aload_n 1, 1) := by decide +kernel
theorem d_law_304 : decode code 304 = .ok (.invokevirtual 66, 3) := by decide +kernel
theorem d_law_307 : decode code 307 = .ok (.aload_n 2, 1) := by decide +kernel
theorem d_law_308 : decode code 308 = .ok (.invokevirtual 69, 3) := by decide +kernel
theorem d_law_311 : decode code 311 = .ok (.if_icmp .eq 18, 3) := by decide +kernel
theorem d_law_314 : decode code 314 = .ok (.iconst 0, 1) := by decide +kernel
theorem d_law_315 : decode code 315 = .ok (.ireturn, 1) := by decide +kernel
theorem d_law_316 : decode code 316 = .ok (.aload_n 1, 1) := by decide +kernel
theorem d_law_317 : decode code 317 = .ok (.invokevirtual 70, 3) := by decide +kernel
theorem d_law_320 : decode code 320 = .ok (.aload_n 2, 1) := by decide +kernel
theorem d_law_321 : decode code 321 = .ok (.invokevirtual 73, 3) := by decide +kernel
theorem d_law_324 : decode code 324 = .ok (.if_icmp .eq 5, 3) := by decide +kernel
theorem d_law_327 : decode code 327 = .ok (.iconst 0, 1) := by decide +kernel
theorem d_law_328 : decode code 328 = .ok (.ireturn, 1) := by decide +kernel
theorem d_law_329 : decode code 329 = .ok (.iinc 3 3, 3) := by decide +kernel
theorem d_law_332 : decode code 332 = .ok (.goto (-284), 3) := by decide +kernel
theorem d_law_335 : decode code 335 = .ok (.iconst 1, 1) := by decide +kernel
theorem d_law_336 : decode code 336 = .ok (.ireturn, 1) := by decide +kernel
theorem zand_15 (a : Int) : 0 ≤ zand a 15 ∧ zand a 15 < 16 := by
  have h : (zI a &&& zI 15).toBitVec.toNat < 16 := by
    rw [Int32.toBitVec_and, BitVec.toNat_and]
    exact Nat.lt_of_le_of_lt Nat.and_le_right (by decide)
  have e : (zI a &&& zI 15).toInt = ((zI a &&& zI 15).toBitVec.toNat : Int) := by
    rw [← Int32.toInt_toBitVec, BitVec.toInt_eq_toNat_of_lt (by omega)]
  show 0 ≤ (zI a &&& zI 15).toInt ∧ (zI a &&& zI 15).toInt < 16
  omega
/-- entry k of the script, 0 beyond it -/
def zsc (L : Nat) (xs : Nat → Int32) (k : Nat) : Int := if k < L then (xs k).toInt else 0
theorem zsc_in (L : Nat) (xs : Nat → Int32) (k : Nat) : -2147483648 ≤ zsc L xs k ∧ zsc L xs k < 2147483648 := by
  unfold zsc
  split
  · have h1 := Int32.minValue_le_toInt (xs k)
    have h2 := Int32.toInt_lt (xs k)
    have e : Int32.minValue.toInt = -2147483648 := by decide
    omega
  · omega
section
variable {p : Program} {l : Launch} {e : Env} {R : Room} {s : State} {m : MethodId} {args : Array Value} {below : List Frame} {meth : Method} {c : Code} {H H0 : Heap} {locs : List Loc} {cells slots : Nat} {Q : State → Prop}
variable {cc : ByteArray} {pc : Nat} {ls : Array Slot} {rest : List Value} {α : Type} {o : α} {D : va_G} {B : Nat} {y : Nat → ClassId} {ad : Nat × Nat → Nat} {q : Bool} {u : ZC} {r : ZR}

theorem z_sld {A : Nat → Prop} {b L : Nat} {xs : Nat → Int32} {k : Int} (hx : p.tables.exec = Jvm.exec) (hb : c.code = cc) (hX : va_X b L xs s s.heap) (hbl : b < s.heap.size) (hA : ¬ A b) (hS : va_S A s.heap H locs) (hz : zix k L) (hd : decode cc pc = .ok (.iaload, 1)) (kk : W p l e R s m args below meth c H locs cells slots Q (F0 m (pc + 1) ls (.int (zI (zsc L xs k.toNat)) :: rest))) : W p l e R s m args below meth c H locs cells slots Q (F0 m (pc) ls (.int (zI k) :: .ref b :: rest)) := by
  refine va_sld hx hb hX hbl hA hS (zI_in hz) hd ?_
  rw [zI_cl hz]
  have e : zI (zsc L xs k.toNat) = xs k.toNat := by
    unfold zsc
    rw [if_pos (by omega)]
    exact zI_of _
  rw [← e]
  exact kk
theorem z_slen {A : Nat → Prop} {b L : Nat} {xs : Nat → Int32} (hx : p.tables.exec = Jvm.exec) (hb : c.code = cc) (hX : va_X b L xs s s.heap) (hbl : b < s.heap.size) (hA : ¬ A b) (hS : va_S A s.heap H locs) (hd : decode cc pc = .ok (.arraylength, 1)) (kk : W p l e R s m args below meth c H locs cells slots Q (F0 m (pc + 1) ls (.int (zI (L : Int)) :: rest))) : W p l e R s m args below meth c H locs cells slots Q (F0 m (pc) ls (.ref b :: rest)) := va_slen hx hb hX hbl hA hS hd (by rw [show Int32.ofNat L = zI (L : Int) from Int32.ofInt_eq_ofNat.symm]; exact kk)
end
set_option maxRecDepth 100000 in
theorem kl_cell {l : Launch} {b L : Nat} {xs : Nat → Int32} (hL : L < 2147483648) (k : Nat) (hk : k < 2147483648) : Met l y_cShellLaw_cell (.code y_cShellLaw_cell b_cShellLaw_cell 2 (some .int) :: zt) { frames := 0, cells := 0, slots := 0, locals := 0 } (va_Pc [.ref b, .int (zI (k : Int))] (fun U => va_X b L xs U U.heap ∧ b < U.heap.size)) (va_Qi (fun v (_ : Unit) => v = zI (zsc L xs k)) (fun _ _ => True) (fun _ => False)) 0 0 (fun _ => False) := by
  refine Met.ofW (cc := b_cShellLaw_cell) (maxL := 2) (ret := some .int) (by decide) rfl ?_
  intro p e s m args below meth c s₁ Bd hml hv
  obtain ⟨hargs, hX, hbl⟩ := hv
  have hx := Bd.exec
  have hb := Bd.bytes
  have hr := Bd.returns
  have hlocks := Bd.notSynchronized
  have hS : va_S (fun _ => False) s.heap s.heap [] := va_S.rf
  have hE := lg_entry_eq m ([.ref b, .int (zI (k : Int))] : List Value) 2
  rw [← hargs] at hE
  rw [hE]
  have hl := lv_entry ([.ref b, .int (zI (k : Int))] : List Value) (n := 2) (Nat.le_of_ble_eq_true rfl)
  generalize (lg_sl ([.ref b, .int (zI (k : Int))] : List Value) ++ List.replicate (2 - (lg_sl ([.ref b, .int (zI (k : Int))] : List Value)).length) Slot.unset).toArray = ls at hl ⊢
  have hl : lv_has ls 2 [(0, .ref b), (1, .int (zI (k : Int)))] := hl
  refine lv_iload_n hx hb d_cShellLaw_cell_0 rfl (lv_at hl 1 rfl) ?_
  refine lv_aload_n hx hb d_cShellLaw_cell_1 rfl (lv_at hl 0 rfl) ?_
  refine z_slen hx hb hX hbl (fun h => h) hS d_cShellLaw_cell_2 ?_
  refine lv_icmp_ge hx hb d_cShellLaw_cell_3 rfl (fun hg => ?_) (fun hg => ?_)
  · rw [zI_le (by omega) (by omega) (by omega) (by omega)] at hg
    have e0 : zsc L xs k = 0 := if_neg (by omega)
    refine z_iconst hx hb d_cShellLaw_cell_12 ?_
    exact W.iret hx hb hr (fun t ht hW => ⟨⟨_, (), rfl, by rw [e0], trivial⟩, hS.F ht⟩) hS.2.2 d_cShellLaw_cell_13 (hlocks := hlocks)
  · rw [zI_le (by omega) (by omega) (by omega) (by omega)] at hg
    refine lv_aload_n hx hb d_cShellLaw_cell_6 rfl (lv_at hl 0 rfl) ?_
    refine lv_iload_n hx hb d_cShellLaw_cell_7 rfl (lv_at hl 1 rfl) ?_
    refine z_sld hx hb hX hbl (fun h => h) hS ⟨by omega, by omega, by omega⟩ d_cShellLaw_cell_8 ?_
    refine lv_goto hx hb d_cShellLaw_cell_9 rfl ?_
    exact W.iret hx hb hr (fun t ht hW => ⟨⟨_, (), rfl, rfl, trivial⟩, hS.F ht⟩) hS.2.2 d_cShellLaw_cell_13 (hlocks := hlocks)
section
variable {p : Program} {l : Launch} {e : Env} {R : Room} {s : State} {m : MethodId} {args : Array Value} {below : List Frame} {meth : Method} {c : Code} {H H0 : Heap} {locs : List Loc} {cells slots : Nat} {Q : State → Prop}
variable {cc : ByteArray} {pc : Nat} {ls : Array Slot} {rest : List Value} {α : Type} {o : α} {D : va_G} {B : Nat} {y : Nat → ClassId} {ad : Nat × Nat → Nat} {q : Bool} {u : ZC} {r : ZR}
theorem z_cell {ix nL b L : Nat} {xs : Nat → Int32} {A : Nat → Prop} {ws : va_W} (k : Nat) {st0 : List Value} (hx : p.tables.exec = Jvm.exec) (hb : c.code = cc) (hml : c.maxLocals = nL) (hown : s.vm.findClass "TreeShellLaw" = some m.cls) (hts : ∀ w ∈ zt, w.before args s = true) (hX : va_X b L xs s s.heap) (hbl : b < s.heap.size) (hA : ¬ A b) (hL : L < 2147483648) (hk : k < 2147483648) (hlk : (Cond.methodLink "TreeShellLaw" ix y_cShellLaw_cell).before args s = true) (hfr : 1 ≤ R.frames) (hlo : 21 ≤ R.locals) (hz : ls.size = nL) (hst : st0 = .int (zI (k : Int)) :: .ref b :: rest) (hrm : (rest.map fun v => v.category).sum ≤ 8) (hcs : cells ≤ R.cells ∧ slots ≤ R.slots) (hP : va_P D ZCL ws H) (hS : va_S A s.heap H locs) (hd : decode cc pc = .ok (.invokestatic ix, 3)) (kk : ∀ (H1 : Heap) (locs1 : List Loc), va_P D ZCL ws H1 → va_S A s.heap H1 locs1 → W p l e R s m args below meth c H1 locs1 cells slots Q (F0 m (pc + 3) ls (.int (zI (zsc L xs k)) :: rest))) : W p l e R s m args below meth c H locs cells slots Q (F0 m (pc) ls (st0)) := by
  have hb1 : H[b]? = s.heap[b]? := hS.2.1 b hbl hA
  refine va_calli (va_runS (As := [.ref b, .int (zI (k : Int))]) (rest := rest) (g := F0 m pc ls st0) ⟨hx, hb, hml, hown, hts⟩ (kl_cell (b := b) (L := L) (xs := xs) hL k hk) ⟨callB_of 2 hts (zgood w_725) rfl rfl rfl (hts _ w_67) hlk ⟨by decide, by decide, by decide +kernel⟩ ⟨hfr, hlo⟩, hts _ w_724⟩ ⟨fun a U g mk h => ⟨h.1, h.2.1, h.2.2⟩, fun U hU hW => ⟨rfl, by rw [hU]; exact (hX.kept hb1).moved hW.alike, by rw [hU]; exact Nat.lt_of_lt_of_le hbl hS.1⟩⟩ rfl rfl hz hst (lv_room hrm) hd hcs) hS (fun q _ h => h.elim) (fun q h => h.elim) (fun v _ t H1 locs1 ht hvm hv hP1 hz1 hk1 hS => ?_)
  obtain rfl := hv
  exact kk H1 locs1 (hP.kept (fun j x hx => hk1 x.1 ((hP j x hx).lt) (fun h => h))) hS
end
section
variable {p : Program} {l : Launch} {e : Env} {R : Room} {s : State} {m : MethodId} {args : Array Value} {below : List Frame} {meth : Method} {c : Code} {H H0 : Heap} {locs : List Loc} {cells slots : Nat} {Q : State → Prop}
variable {cc : ByteArray} {pc : Nat} {ls : Array Slot} {rest : List Value} {α : Type} {o : α} {D : va_G} {B : Nat} {y : Nat → ClassId} {ad : Nat × Nat → Nat} {q : Bool} {u : ZC} {r : ZR}
theorem zblindX {L : List Value} {X : State → Prop} (hXb : ∀ (a : Array Value) (U : State) (g : JFrame) (mk : MethodId), X U → X (U.calling g mk a)) : FrameBlind (va_Pc L (fun U => ZP D B y ad q u r U ∧ X U)) := fun a U g mk h => ⟨h.1, ⟨h.2.1.1, h.2.1.2.1, va_K.moved (u := U) (U := U.calling g mk a) (Vm.Alike.refl U.vm) h.2.1.2.2⟩, hXb a U g mk h.2.2⟩
/-- a call that may make objects: the addresses of what lived stay -/
theorem z_callVAi {own C9 : String} {ix mL9 n9 nL : Nat} {y9 : MethodName} {by9 : ByteArray} {rt9 : Option FieldType} {rm9 : Room} {b9 mc9 ms9 : Nat} {As : List Value} {u2 : ZC} {r2 : ZR} {a : Int} {X : State → Prop} {st0 : List Value} (hM : Met l y9 (.code y9 by9 mL9 rt9 :: zt) rm9 (va_Pc (Value.ref b9 :: As) (fun U => ZP D B y ad q u r U ∧ X U)) (va_Qi (fun v (ad2 : Nat × Nat → Nat) => v = zI a ∧ ∀ j, j ∈ zid q u → ad2 j = ad j) (fun ad2 t => ZP D B y ad2 q u2 r2 t) (fun x => B ≤ x)) mc9 ms9 (fun x => B ≤ x)) (M : ZM p c cc s args m own D y) (hXb : ∀ (a : Array Value) (U : State) (g : JFrame) (mk : MethodId), X U → X (U.calling g mk a)) (hXm : ∀ U : State, U.heap = H → s.WarmedH U.vm → X U) (hml : c.maxLocals = nL) (cw : CallW R s args own C9 ix y9 by9 mL9 rt9 (.code y9 by9 mL9 rt9 :: zt) rm9 mc9 ms9 n9) (hrc : ∃ cell : Cell, H[b9]? = some cell ∧ cell.vm.isStatics = false ∧ s.vm.findClass C9 = some cell.cls) (hB : B ≤ s.heap.size) (hW : ZW D B y ad q u r H) (hS : va_S (fun x => B ≤ x) s.heap H locs) (hn : As.length = n9) (hz : ls.size = nL) (hst : st0 = As.reverse ++ .ref b9 :: rest) (hrm : (rest.map fun v => v.category).sum ≤ 8) (hd : decode cc pc = .ok (.invokevirtual ix, 3)) (hcs : cells + mc9 ≤ R.cells ∧ slots + ms9 ≤ R.slots) (kk : ∀ (ad2 : Nat × Nat → Nat) (H1 : Heap) (locs1 : List Loc), (∀ j, j ∈ zid q u → ad2 j = ad j) → ZW D B y ad2 q u2 r2 H1 → va_S (fun x => B ≤ x) s.heap H1 locs1 → W p l e R s m args below meth c H1 locs1 (cells + mc9) (slots + ms9) Q (F0 m (pc + 3) ls (.int (zI a) :: rest))) : W p l e R s m args below meth c H locs cells slots Q (F0 m (pc) ls (st0)) := by
  refine va_calli (va_runV (As := As) (rest := rest) (g := F0 m pc ls st0) ⟨M.1, M.2.1, hml, M.2.2.2.1, M.2.2.1⟩ hM cw ⟨zblindX hXb, hrc, fun U hU hw => ⟨rfl, ⟨by rw [hU]; exact Nat.le_trans hB hS.1, by rw [hU]; exact hW, va_K.moved hw.alike M.2.2.2.2⟩, hXm U hU hw⟩⟩ rfl hn hz hst (lv_room hrm) hd hcs) hS (fun x _ h => h) (fun x h => h) (fun v ad2 t H1 locs1 ht hvm hv hP hz hk hS => ?_)
  obtain ⟨rfl, hag⟩ := hv
  exact kk ad2 H1 locs1 hag (by rw [← ht]; exact hP.2.1) hS
end
/-! THE CLAIM OUT OF ONE WALK OF THE LAW'S BODY. Your part is whole_start (and what it stands on); all else here is the same for every law, but numbers. -/
def R_law : String := "TreeShellLaw"
def lw_P (b : Addr) (xs : List Int32) (args : Array Value) (s : State) : Prop := args = #[.ref b] ∧ s.IntsAt b xs ∧ xs.length ≤ 1539 ∧ (Jvm.Cond.and given_1 narrow_1).before args s = true
def lw_Q (_ : Array Value) (s : State) (o : Outcome) (t : State) : Prop := o = .returned (some (.int 1)) ∧ Framed s o t [] 600000 7302250
def lw_Z (below : List Frame) (a : Array Value) (s : State) : State → Prop := fun t => ∃ o, t.status = .running ∧ Ended t below o ∧ lw_Q a s o t
/-- the law's own end, with 1 on the stack, nothing written that was there before, its room as the claim has it -/
theorem lw_ret {p : Program} {l : Launch} {e : Env} {s : State} {m : MethodId} {below : List Frame} {meth : Method} {c : Code} {b : Nat} (hx : p.tables.exec = Jvm.exec) (hb : c.code = code) (hr : meth.sig.returnType = ret) (hlocks : meth.locks = false) {pc : Nat} {H : Heap} {ls : Array Slot} (hdg : decode code pc = .ok (.ireturn, 1)) : W p l e room_1 s m #[Value.ref b] below meth c H [] 600000 7302250 (lw_Z below #[Value.ref b] s) (F0 m pc ls [.int 1]) := by
  intro T hT X
  obtain ⟨fs, hret, hrun, hended, hW, hframe⟩ := X.leave (v := some (.int 1)) (hlocks := hlocks) (fun h => by rw [hr] at h; cases h)
  have hmeth' : T.vm.method? m = some meth := X.method'
  refine ⟨T.setFrames fs, ?_, .returned (some (.int 1)), hrun, hended, rfl, ⟨_, rfl⟩, hW, hframe⟩
  jvm_step X.here [X.here.top, hx, hb, hdg, hmeth', hr, ret, narrow_b1]
  (try refine ⟨rfl, ?_⟩); (try refine ⟨rfl, ?_⟩)
  first | (intro acts; rw [hret _ acts rfl rfl rfl]) | rw [hret _ _ rfl rfl rfl]
  exact Steps.refl _
/-- what holds at the law's entry: the machine, the code, the tables' words (any of lw_tbl by 'hts w (by decide +kernel)'), the script of L ints xs at the cell b, what the Statement gives of the start (any of its parts by flat_of_before) -/
def lw_At (p : Program) (s : State) (m : MethodId) (meth : Method) (c : Code) (b L : Nat) (xs : Nat → Int32) : Prop :=
  p.tables.exec = Jvm.exec ∧ c.code = code ∧ meth.sig.returnType = ret ∧ c.maxLocals = 4 ∧ s.vm.findClass R_law = some m.cls ∧ (∀ w ∈ lw_tbl, w.before #[Value.ref b] s = true) ∧ va_X b L xs s s.heap ∧ b < s.heap.size ∧ meth.locks = false ∧ (Jvm.Cond.and given_1 narrow_1).before #[Value.ref b] s = true
