theorem d_r_goOn_38 : decode b_r_goOn 38 = .ok (.aload_n 0, 1) := by decide +kernel
theorem d_r_goOn_39 : decode b_r_goOn 39 = .ok (.aload_n 0, 1) := by decide +kernel
theorem d_r_goOn_40 : decode b_r_goOn 40 = .ok (.aload_n 0, 1) := by decide +kernel
theorem d_r_goOn_41 : decode b_r_goOn 41 = .ok (.getfield 150, 3) := by decide +kernel
theorem d_r_goOn_44 : decode b_r_goOn 44 = .ok (.iconst 1, 1) := by decide +kernel
theorem d_r_goOn_45 : decode b_r_goOn 45 = .ok (.iadd, 1) := by decide +kernel
theorem d_r_goOn_46 : decode b_r_goOn 46 = .ok (.iconst 0, 1) := by decide +kernel
theorem d_r_goOn_47 : decode b_r_goOn 47 = .ok (.invokevirtual 182, 3) := by decide +kernel
theorem d_r_goOn_50 : decode b_r_goOn 50 = .ok (.putfield 150, 3) := by decide +kernel
theorem d_r_goOn_53 : decode b_r_goOn 53 = .ok (.goto (-53), 3) := by decide +kernel
theorem d_r_goOn_56 : decode b_r_goOn 56 = .ok (.aload_n 0, 1) := by decide +kernel
theorem d_r_goOn_57 : decode b_r_goOn 57 = .ok (.aload_n 0, 1) := by decide +kernel
theorem d_r_goOn_58 : decode b_r_goOn 58 = .ok (.getfield 150, 3) := by decide +kernel
theorem d_r_goOn_61 : decode b_r_goOn 61 = .ok (.invokevirtual 176, 3) := by decide +kernel
theorem d_r_goOn_64 : decode b_r_goOn 64 = .ok (.istore_n 1, 1) := by decide +kernel
theorem d_r_goOn_65 : decode b_r_goOn 65 = .ok (.iload_n 1, 1) := by decide +kernel
theorem d_r_goOn_66 : decode b_r_goOn 66 = .ok (.iconst 1, 1) := by decide +kernel
theorem d_r_goOn_67 : decode b_r_goOn 67 = .ok (.if_icmp .ne 13, 3) := by decide +kernel
theorem d_r_goOn_70 : decode b_r_goOn 70 = .ok (.aload_n 0, 1) := by decide +kernel
theorem d_r_goOn_71 : decode b_r_goOn 71 = .ok (.aload_n 0, 1) := by decide +kernel
theorem d_r_goOn_72 : decode b_r_goOn 72 = .ok (.getfield 150, 3) := by decide +kernel
theorem d_r_goOn_75 : decode b_r_goOn 75 = .ok (.iconst 1, 1) := by decide +kernel
theorem d_r_goOn_76 : decode b_r_goOn 76 = .ok (.iadd, 1) := by decide +kernel
theorem d_r_goOn_77 : decode b_r_goOn 77 = .ok (.putfield 150, 3) := by decide +kernel
theorem d_r_goOn_80 : decode b_r_goOn 80 = .ok (.iload_n 1, 1) := by decide +kernel
theorem d_r_goOn_81 : decode b_r_goOn 81 = .ok (.iconst 2, 1) := by decide +kernel
theorem d_r_goOn_82 : decode b_r_goOn 82 = .ok (.if_icmp .eq 38, 3) := by decide +kernel
theorem d_r_goOn_85 : decode b_r_goOn 85 = .ok (.iload_n 1, 1) := by decide +kernel
theorem d_r_goOn_86 : decode b_r_goOn 86 = .ok (.iconst 3, 1) := by decide +kernel
theorem d_r_goOn_87 : decode b_r_goOn 87 = .ok (.if_icmp .eq 33, 3) := by decide +kernel
theorem d_r_goOn_90 : decode b_r_goOn 90 = .ok (.iload_n 1, 1) := by decide +kernel
theorem d_r_goOn_91 : decode b_r_goOn 91 = .ok (.iconst 1, 1) := by decide +kernel
theorem d_r_goOn_92 : decode b_r_goOn 92 = .ok (.if_icmp .ne 32, 3) := by decide +kernel
theorem d_r_goOn_95 : decode b_r_goOn 95 = .ok (.aload_n 0, 1) := by decide +kernel
theorem d_r_goOn_96 : decode b_r_goOn 96 = .ok (.getfield 150, 3) := by decide +kernel
theorem d_r_goOn_99 : decode b_r_goOn 99 = .ok (.aload_n 0, 1) := by decide +kernel
theorem d_r_goOn_100 : decode b_r_goOn 100 = .ok (.getfield 116, 3) := by decide +kernel
theorem d_r_goOn_103 : decode b_r_goOn 103 = .ok (.if_icmp .ge 21, 3) := by decide +kernel
theorem d_r_goOn_106 : decode b_r_goOn 106 = .ok (.aload_n 0, 1) := by decide +kernel
theorem d_r_goOn_107 : decode b_r_goOn 107 = .ok (.getfield 33, 3) := by decide +kernel
theorem d_r_goOn_110 : decode b_r_goOn 110 = .ok (.aload_n 0, 1) := by decide +kernel
theorem d_r_goOn_111 : decode b_r_goOn 111 = .ok (.getfield 150, 3) := by decide +kernel
theorem d_r_goOn_114 : decode b_r_goOn 114 = .ok (.iaload, 1) := by decide +kernel
theorem d_r_goOn_115 : decode b_r_goOn 115 = .ok (.bipush 9, 2) := by decide +kernel
theorem d_r_goOn_117 : decode b_r_goOn 117 = .ok (.if_icmp .eq 7, 3) := by decide +kernel
theorem d_r_goOn_120 : decode b_r_goOn 120 = .ok (.iconst 1, 1) := by decide +kernel
theorem d_r_goOn_121 : decode b_r_goOn 121 = .ok (.goto 4, 3) := by decide +kernel
theorem d_r_goOn_124 : decode b_r_goOn 124 = .ok (.iconst 0, 1) := by decide +kernel
theorem d_r_goOn_125 : decode b_r_goOn 125 = .ok (.istore_n 2, 1) := by decide +kernel
theorem d_r_goOn_126 : decode b_r_goOn 126 = .ok (.iload_n 2, 1) := by decide +kernel
theorem d_r_goOn_127 : decode b_r_goOn 127 = .ok (.ifCond .eq 29, 3) := by decide +kernel
theorem d_r_goOn_130 : decode b_r_goOn 130 = .ok (.aload_n 0, 1) := by decide +kernel
theorem d_r_goOn_131 : decode b_r_goOn 131 = .ok (.iload_n 1, 1) := by decide +kernel
theorem d_r_goOn_132 : decode b_r_goOn 132 = .ok (.iconst 1, 1) := by decide +kernel
theorem d_r_goOn_133 : decode b_r_goOn 133 = .ok (.if_icmp .ne 10, 3) := by decide +kernel
theorem d_r_goOn_136 : decode b_r_goOn 136 = .ok (.aload_n 0, 1) := by decide +kernel
theorem d_r_goOn_137 : decode b_r_goOn 137 = .ok (.getfield 150, 3) := by decide +kernel
theorem d_r_goOn_140 : decode b_r_goOn 140 = .ok (.goto 9, 3) := by decide +kernel
theorem d_r_goOn_143 : decode b_r_goOn 143 = .ok (.aload_n 0, 1) := by decide +kernel
theorem d_r_goOn_144 : decode b_r_goOn 144 = .ok (.getfield 150, 3) := by decide +kernel
theorem d_r_goOn_147 : decode b_r_goOn 147 = .ok (.iconst 1, 1) := by decide +kernel
theorem d_r_goOn_148 : decode b_r_goOn 148 = .ok (.iadd, 1) := by decide +kernel
theorem d_r_goOn_149 : decode b_r_goOn 149 = .ok (.putfield 150, 3) := by decide +kernel
theorem d_r_goOn_152 : decode b_r_goOn 152 = .ok (.aload_n 0, 1) := by decide +kernel
theorem d_r_goOn_153 : decode b_r_goOn 153 = .ok (.invokevirtual 165, 3) := by decide +kernel
theorem d_r_goOn_156 : decode b_r_goOn 156 = .ok (.return_, 1) := by decide +kernel
theorem d_r_endCommand_0 : decode b_r_endCommand 0 = .ok (.iload_n 2, 1) := by decide +kernel
theorem d_r_endCommand_1 : decode b_r_endCommand 1 = .ok (.ifCond .ne 15, 3) := by decide +kernel
theorem d_r_endCommand_4 : decode b_r_endCommand 4 = .ok (.aload_n 0, 1) := by decide +kernel
theorem d_r_endCommand_5 : decode b_r_endCommand 5 = .ok (.getfield 66, 3) := by decide +kernel
theorem d_r_endCommand_8 : decode b_r_endCommand 8 = .ok (.aload_n 0, 1) := by decide +kernel
theorem d_r_endCommand_9 : decode b_r_endCommand 9 = .ok (.getfield 147, 3) := by decide +kernel
theorem d_r_endCommand_12 : decode b_r_endCommand 12 = .ok (.baload, 1) := by decide +kernel
theorem d_r_endCommand_13 : decode b_r_endCommand 13 = .ok (.ifCond .eq 16, 3) := by decide +kernel
theorem d_r_endCommand_16 : decode b_r_endCommand 16 = .ok (.aload_n 0, 1) := by decide +kernel
theorem d_r_endCommand_17 : decode b_r_endCommand 17 = .ok (.aload_n 0, 1) := by decide +kernel
theorem d_r_endCommand_18 : decode b_r_endCommand 18 = .ok (.getfield 63, 3) := by decide +kernel
theorem d_r_endCommand_21 : decode b_r_endCommand 21 = .ok (.aload_n 0, 1) := by decide +kernel
theorem d_r_endCommand_22 : decode b_r_endCommand 22 = .ok (.getfield 147, 3) := by decide +kernel
theorem d_r_endCommand_25 : decode b_r_endCommand 25 = .ok (.iaload, 1) := by decide +kernel
theorem d_r_endCommand_26 : decode b_r_endCommand 26 = .ok (.putfield 162, 3) := by decide +kernel
theorem d_r_endCommand_29 : decode b_r_endCommand 29 = .ok (.aload_n 0, 1) := by decide +kernel
theorem d_r_endCommand_30 : decode b_r_endCommand 30 = .ok (.getfield 60, 3) := by decide +kernel
theorem d_r_endCommand_33 : decode b_r_endCommand 33 = .ok (.aload_n 0, 1) := by decide +kernel
theorem d_r_endCommand_34 : decode b_r_endCommand 34 = .ok (.getfield 147, 3) := by decide +kernel
theorem d_r_endCommand_37 : decode b_r_endCommand 37 = .ok (.iaload, 1) := by decide +kernel
theorem d_r_endCommand_38 : decode b_r_endCommand 38 = .ok (.ifCond .lt 26, 3) := by decide +kernel
theorem d_r_endCommand_41 : decode b_r_endCommand 41 = .ok (.aload_n 0, 1) := by decide +kernel
theorem d_r_endCommand_42 : decode b_r_endCommand 42 = .ok (.aload_n 0, 1) := by decide +kernel
theorem d_r_endCommand_43 : decode b_r_endCommand 43 = .ok (.getfield 60, 3) := by decide +kernel
theorem d_r_endCommand_46 : decode b_r_endCommand 46 = .ok (.aload_n 0, 1) := by decide +kernel
theorem d_r_endCommand_47 : decode b_r_endCommand 47 = .ok (.getfield 147, 3) := by decide +kernel
theorem d_r_endCommand_50 : decode b_r_endCommand 50 = .ok (.iaload, 1) := by decide +kernel
theorem d_r_endCommand_51 : decode b_r_endCommand 51 = .ok (.invokevirtual 210, 3) := by decide +kernel
theorem d_r_endCommand_54 : decode b_r_endCommand 54 = .ok (.ifCond .ne 5, 3) := by decide +kernel
theorem d_r_endCommand_57 : decode b_r_endCommand 57 = .ok (.iconst 0, 1) := by decide +kernel
theorem d_r_endCommand_58 : decode b_r_endCommand 58 = .ok (.ireturn, 1) := by decide +kernel
theorem d_r_endCommand_59 : decode b_r_endCommand 59 = .ok (.aload_n 0, 1) := by decide +kernel
theorem d_r_endCommand_60 : decode b_r_endCommand 60 = .ok (.iconst 0, 1) := by decide +kernel
theorem d_r_endCommand_61 : decode b_r_endCommand 61 = .ok (.putfield 186, 3) := by decide +kernel
theorem d_r_endCommand_64 : decode b_r_endCommand 64 = .ok (.aload_n 0, 1) := by decide +kernel
theorem d_r_endCommand_65 : decode b_r_endCommand 65 = .ok (.aload_n 0, 1) := by decide +kernel
theorem d_r_endCommand_66 : decode b_r_endCommand 66 = .ok (.getfield 150, 3) := by decide +kernel
theorem d_r_endCommand_69 : decode b_r_endCommand 69 = .ok (.invokevirtual 176, 3) := by decide +kernel
theorem d_r_endCommand_72 : decode b_r_endCommand 72 = .ok (.iconst 4, 1) := by decide +kernel
theorem d_r_endCommand_73 : decode b_r_endCommand 73 = .ok (.if_icmp .ne 40, 3) := by decide +kernel
theorem d_r_endCommand_76 : decode b_r_endCommand 76 = .ok (.aload_n 0, 1) := by decide +kernel
theorem d_r_endCommand_77 : decode b_r_endCommand 77 = .ok (.iconst 2, 1) := by decide +kernel
theorem d_r_endCommand_78 : decode b_r_endCommand 78 = .ok (.aload_n 0, 1) := by decide +kernel
theorem d_r_endCommand_79 : decode b_r_endCommand 79 = .ok (.getfield 147, 3) := by decide +kernel
theorem d_r_endCommand_82 : decode b_r_endCommand 82 = .ok (.imul, 1) := by decide +kernel
theorem d_r_endCommand_83 : decode b_r_endCommand 83 = .ok (.invokevirtual 213, 3) := by decide +kernel
theorem d_r_endCommand_86 : decode b_r_endCommand 86 = .ok (.aload_n 0, 1) := by decide +kernel
theorem d_r_endCommand_87 : decode b_r_endCommand 87 = .ok (.getfield 57, 3) := by decide +kernel
theorem d_r_endCommand_90 : decode b_r_endCommand 90 = .ok (.aload_n 0, 1) := by decide +kernel
theorem d_r_endCommand_91 : decode b_r_endCommand 91 = .ok (.getfield 147, 3) := by decide +kernel
theorem d_r_endCommand_94 : decode b_r_endCommand 94 = .ok (.iconst 2, 1) := by decide +kernel
theorem d_r_endCommand_95 : decode b_r_endCommand 95 = .ok (.aload_n 0, 1) := by decide +kernel
theorem d_r_endCommand_96 : decode b_r_endCommand 96 = .ok (.getfield 147, 3) := by decide +kernel
theorem d_r_endCommand_99 : decode b_r_endCommand 99 = .ok (.imul, 1) := by decide +kernel
theorem d_r_endCommand_100 : decode b_r_endCommand 100 = .ok (.iastore, 1) := by decide +kernel
theorem d_r_endCommand_101 : decode b_r_endCommand 101 = .ok (.aload_n 0, 1) := by decide +kernel
theorem d_r_endCommand_102 : decode b_r_endCommand 102 = .ok (.aload_n 0, 1) := by decide +kernel
theorem d_r_endCommand_103 : decode b_r_endCommand 103 = .ok (.getfield 150, 3) := by decide +kernel
theorem d_r_endCommand_106 : decode b_r_endCommand 106 = .ok (.iconst 1, 1) := by decide +kernel
theorem d_r_endCommand_107 : decode b_r_endCommand 107 = .ok (.iadd, 1) := by decide +kernel
theorem d_r_endCommand_108 : decode b_r_endCommand 108 = .ok (.putfield 150, 3) := by decide +kernel
theorem d_r_endCommand_111 : decode b_r_endCommand 111 = .ok (.iconst 1, 1) := by decide +kernel
theorem d_r_endCommand_112 : decode b_r_endCommand 112 = .ok (.ireturn, 1) := by decide +kernel
theorem d_r_endCommand_113 : decode b_r_endCommand 113 = .ok (.aload_n 0, 1) := by decide +kernel
theorem d_r_endCommand_114 : decode b_r_endCommand 114 = .ok (.getfield 75, 3) := by decide +kernel
theorem d_r_endCommand_117 : decode b_r_endCommand 117 = .ok (.aload_n 0, 1) := by decide +kernel
theorem d_r_endCommand_118 : decode b_r_endCommand 118 = .ok (.getfield 147, 3) := by decide +kernel
theorem d_r_endCommand_121 : decode b_r_endCommand 121 = .ok (.iaload, 1) := by decide +kernel
theorem d_r_endCommand_122 : decode b_r_endCommand 122 = .ok (.aload_n 0, 1) := by decide +kernel
theorem d_r_endCommand_123 : decode b_r_endCommand 123 = .ok (.getfield 186, 3) := by decide +kernel
theorem d_r_endCommand_126 : decode b_r_endCommand 126 = .ok (.iadd, 1) := by decide +kernel
theorem d_r_endCommand_127 : decode b_r_endCommand 127 = .ok (.aload_n 0, 1) := by decide +kernel
theorem d_r_endCommand_128 : decode b_r_endCommand 128 = .ok (.getfield 106, 3) := by decide +kernel
theorem d_r_endCommand_131 : decode b_r_endCommand 131 = .ok (.if_icmp .le 5, 3) := by decide +kernel
theorem d_r_endCommand_134 : decode b_r_endCommand 134 = .ok (.iconst 0, 1) := by decide +kernel
theorem d_r_endCommand_135 : decode b_r_endCommand 135 = .ok (.ireturn, 1) := by decide +kernel
theorem d_r_endCommand_136 : decode b_r_endCommand 136 = .ok (.iconst 0, 1) := by decide +kernel
theorem d_r_endCommand_137 : decode b_r_endCommand 137 = .ok (.istore_n 3, 1) := by decide +kernel
theorem d_r_endCommand_138 : decode b_r_endCommand 138 = .ok (.iload_n 3, 1) := by decide +kernel
theorem d_r_endCommand_139 : decode b_r_endCommand 139 = .ok (.aload_n 0, 1) := by decide +kernel
theorem d_r_endCommand_140 : decode b_r_endCommand 140 = .ok (.getfield 186, 3) := by decide +kernel
theorem d_r_endCommand_143 : decode b_r_endCommand 143 = .ok (.if_icmp .ge 39, 3) := by decide +kernel
theorem d_r_endCommand_146 : decode b_r_endCommand 146 = .ok (.aload_n 0, 1) := by decide +kernel
theorem d_r_endCommand_147 : decode b_r_endCommand 147 = .ok (.getfield 72, 3) := by decide +kernel
theorem d_r_endCommand_150 : decode b_r_endCommand 150 = .ok (.bipush 96, 2) := by decide +kernel
theorem d_r_endCommand_152 : decode b_r_endCommand 152 = .ok (.aload_n 0, 1) := by decide +kernel
theorem d_r_endCommand_153 : decode b_r_endCommand 153 = .ok (.getfield 147, 3) := by decide +kernel
theorem d_r_endCommand_156 : decode b_r_endCommand 156 = .ok (.imul, 1) := by decide +kernel
theorem d_r_endCommand_157 : decode b_r_endCommand 157 = .ok (.aload_n 0, 1) := by decide +kernel
theorem d_r_endCommand_158 : decode b_r_endCommand 158 = .ok (.getfield 75, 3) := by decide +kernel
theorem d_r_endCommand_161 : decode b_r_endCommand 161 = .ok (.aload_n 0, 1) := by decide +kernel
theorem d_r_endCommand_162 : decode b_r_endCommand 162 = .ok (.getfield 147, 3) := by decide +kernel
theorem d_r_endCommand_165 : decode b_r_endCommand 165 = .ok (.iaload, 1) := by decide +kernel
theorem d_r_endCommand_166 : decode b_r_endCommand 166 = .ok (.iadd, 1) := by decide +kernel
theorem d_r_endCommand_167 : decode b_r_endCommand 167 = .ok (.iload_n 3, 1) := by decide +kernel
theorem d_r_endCommand_168 : decode b_r_endCommand 168 = .ok (.iadd, 1) := by decide +kernel
theorem d_r_endCommand_169 : decode b_r_endCommand 169 = .ok (.aload_n 0, 1) := by decide +kernel
theorem d_r_endCommand_170 : decode b_r_endCommand 170 = .ok (.getfield 84, 3) := by decide +kernel
theorem d_r_endCommand_173 : decode b_r_endCommand 173 = .ok (.iload_n 3, 1) := by decide +kernel
theorem d_r_endCommand_174 : decode b_r_endCommand 174 = .ok (.iaload, 1) := by decide +kernel
theorem d_r_endCommand_175 : decode b_r_endCommand 175 = .ok (.iastore, 1) := by decide +kernel
theorem d_r_endCommand_176 : decode b_r_endCommand 176 = .ok (.iinc 3 1, 3) := by decide +kernel
theorem d_r_endCommand_179 : decode b_r_endCommand 179 = .ok (.goto (-41), 3) := by decide +kernel
theorem d_r_endCommand_182 : decode b_r_endCommand 182 = .ok (.aload_n 0, 1) := by decide +kernel
theorem d_r_endCommand_183 : decode b_r_endCommand 183 = .ok (.getfield 75, 3) := by decide +kernel
theorem d_r_endCommand_186 : decode b_r_endCommand 186 = .ok (.aload_n 0, 1) := by decide +kernel
theorem d_r_endCommand_187 : decode b_r_endCommand 187 = .ok (.getfield 147, 3) := by decide +kernel
theorem d_r_endCommand_190 : decode b_r_endCommand 190 = .ok (.dup2, 1) := by decide +kernel
theorem d_r_endCommand_191 : decode b_r_endCommand 191 = .ok (.iaload, 1) := by decide +kernel
theorem d_r_endCommand_192 : decode b_r_endCommand 192 = .ok (.aload_n 0, 1) := by decide +kernel
theorem d_r_endCommand_193 : decode b_r_endCommand 193 = .ok (.getfield 186, 3) := by decide +kernel
theorem d_r_endCommand_196 : decode b_r_endCommand 196 = .ok (.iadd, 1) := by decide +kernel
theorem d_r_endCommand_197 : decode b_r_endCommand 197 = .ok (.iastore, 1) := by decide +kernel
theorem d_r_endCommand_198 : decode b_r_endCommand 198 = .ok (.aload_n 0, 1) := by decide +kernel
theorem d_r_endCommand_199 : decode b_r_endCommand 199 = .ok (.aload_n 0, 1) := by decide +kernel
theorem d_r_endCommand_200 : decode b_r_endCommand 200 = .ok (.getfield 69, 3) := by decide +kernel
theorem d_r_endCommand_203 : decode b_r_endCommand 203 = .ok (.aload_n 0, 1) := by decide +kernel
theorem d_r_endCommand_204 : decode b_r_endCommand 204 = .ok (.getfield 147, 3) := by decide +kernel
theorem d_r_endCommand_207 : decode b_r_endCommand 207 = .ok (.baload, 1) := by decide +kernel
theorem d_r_endCommand_208 : decode b_r_endCommand 208 = .ok (.ifCond .ne 7, 3) := by decide +kernel
theorem d_r_endCommand_211 : decode b_r_endCommand 211 = .ok (.iload_n 1, 1) := by decide +kernel
theorem d_r_endCommand_212 : decode b_r_endCommand 212 = .ok (.goto 12, 3) := by decide +kernel
theorem d_r_endCommand_215 : decode b_r_endCommand 215 = .ok (.iload_n 1, 1) := by decide +kernel
theorem d_r_endCommand_216 : decode b_r_endCommand 216 = .ok (.ifCond .ne 7, 3) := by decide +kernel
theorem d_r_endCommand_219 : decode b_r_endCommand 219 = .ok (.iconst 1, 1) := by decide +kernel
theorem d_r_endCommand_220 : decode b_r_endCommand 220 = .ok (.goto 4, 3) := by decide +kernel
theorem d_r_endCommand_223 : decode b_r_endCommand 223 = .ok (.iconst 0, 1) := by decide +kernel
theorem d_r_endCommand_224 : decode b_r_endCommand 224 = .ok (.putfield 159, 3) := by decide +kernel
theorem d_r_endCommand_227 : decode b_r_endCommand 227 = .ok (.aload_n 0, 1) := by decide +kernel
theorem d_r_endCommand_228 : decode b_r_endCommand 228 = .ok (.invokevirtual 216, 3) := by decide +kernel
theorem d_r_endCommand_231 : decode b_r_endCommand 231 = .ok (.iconst 1, 1) := by decide +kernel
theorem d_r_endCommand_232 : decode b_r_endCommand 232 = .ok (.ireturn, 1) := by decide +kernel
theorem d_r_closeGroup_0 : decode b_r_closeGroup 0 = .ok (.aload_n 0, 1) := by decide +kernel
theorem d_r_closeGroup_1 : decode b_r_closeGroup 1 = .ok (.aload_n 0, 1) := by decide +kernel
theorem d_r_closeGroup_2 : decode b_r_closeGroup 2 = .ok (.getfield 75, 3) := by decide +kernel
theorem d_r_closeGroup_5 : decode b_r_closeGroup 5 = .ok (.aload_n 0, 1) := by decide +kernel
theorem d_r_closeGroup_6 : decode b_r_closeGroup 6 = .ok (.getfield 147, 3) := by decide +kernel
theorem d_r_closeGroup_9 : decode b_r_closeGroup 9 = .ok (.iaload, 1) := by decide +kernel
theorem d_r_closeGroup_10 : decode b_r_closeGroup 10 = .ok (.putfield 186, 3) := by decide +kernel
theorem d_r_closeGroup_13 : decode b_r_closeGroup 13 = .ok (.iconst 0, 1) := by decide +kernel
theorem d_r_closeGroup_14 : decode b_r_closeGroup 14 = .ok (.istore_n 1, 1) := by decide +kernel
theorem d_r_closeGroup_15 : decode b_r_closeGroup 15 = .ok (.iload_n 1, 1) := by decide +kernel
theorem d_r_closeGroup_16 : decode b_r_closeGroup 16 = .ok (.aload_n 0, 1) := by decide +kernel
theorem d_r_closeGroup_17 : decode b_r_closeGroup 17 = .ok (.getfield 186, 3) := by decide +kernel
theorem d_r_closeGroup_20 : decode b_r_closeGroup 20 = .ok (.if_icmp .ge 29, 3) := by decide +kernel
theorem d_r_closeGroup_23 : decode b_r_closeGroup 23 = .ok (.aload_n 0, 1) := by decide +kernel
theorem d_r_closeGroup_24 : decode b_r_closeGroup 24 = .ok (.getfield 84, 3) := by decide +kernel
theorem d_r_closeGroup_27 : decode b_r_closeGroup 27 = .ok (.iload_n 1, 1) := by decide +kernel
theorem d_r_closeGroup_28 : decode b_r_closeGroup 28 = .ok (.aload_n 0, 1) := by decide +kernel
theorem d_r_closeGroup_29 : decode b_r_closeGroup 29 = .ok (.getfield 72, 3) := by decide +kernel
theorem d_r_closeGroup_32 : decode b_r_closeGroup 32 = .ok (.bipush 96, 2) := by decide +kernel
theorem d_r_closeGroup_34 : decode b_r_closeGroup 34 = .ok (.aload_n 0, 1) := by decide +kernel
theorem d_r_closeGroup_35 : decode b_r_closeGroup 35 = .ok (.getfield 147, 3) := by decide +kernel
theorem d_r_closeGroup_38 : decode b_r_closeGroup 38 = .ok (.imul, 1) := by decide +kernel
theorem d_r_closeGroup_39 : decode b_r_closeGroup 39 = .ok (.iload_n 1, 1) := by decide +kernel
theorem d_r_closeGroup_40 : decode b_r_closeGroup 40 = .ok (.iadd, 1) := by decide +kernel
theorem d_r_closeGroup_41 : decode b_r_closeGroup 41 = .ok (.iaload, 1) := by decide +kernel
theorem d_r_closeGroup_42 : decode b_r_closeGroup 42 = .ok (.iastore, 1) := by decide +kernel
theorem d_r_closeGroup_43 : decode b_r_closeGroup 43 = .ok (.iinc 1 1, 3) := by decide +kernel
theorem d_r_closeGroup_46 : decode b_r_closeGroup 46 = .ok (.goto (-31), 3) := by decide +kernel
theorem d_r_closeGroup_49 : decode b_r_closeGroup 49 = .ok (.aload_n 0, 1) := by decide +kernel
theorem d_r_closeGroup_50 : decode b_r_closeGroup 50 = .ok (.aload_n 0, 1) := by decide +kernel
theorem d_r_closeGroup_51 : decode b_r_closeGroup 51 = .ok (.getfield 147, 3) := by decide +kernel
theorem d_r_closeGroup_54 : decode b_r_closeGroup 54 = .ok (.iconst 1, 1) := by decide +kernel
theorem d_r_closeGroup_55 : decode b_r_closeGroup 55 = .ok (.isub, 1) := by decide +kernel
theorem d_r_closeGroup_56 : decode b_r_closeGroup 56 = .ok (.putfield 147, 3) := by decide +kernel
theorem d_r_closeGroup_59 : decode b_r_closeGroup 59 = .ok (.aload_n 0, 1) := by decide +kernel
theorem d_r_closeGroup_60 : decode b_r_closeGroup 60 = .ok (.aload_n 0, 1) := by decide +kernel
theorem d_r_closeGroup_61 : decode b_r_closeGroup 61 = .ok (.aload_n 0, 1) := by decide +kernel
theorem d_r_closeGroup_62 : decode b_r_closeGroup 62 = .ok (.getfield 150, 3) := by decide +kernel
theorem d_r_closeGroup_65 : decode b_r_closeGroup 65 = .ok (.iconst 1, 1) := by decide +kernel
theorem d_r_closeGroup_66 : decode b_r_closeGroup 66 = .ok (.iadd, 1) := by decide +kernel
theorem d_r_closeGroup_67 : decode b_r_closeGroup 67 = .ok (.iconst 1, 1) := by decide +kernel
theorem d_r_closeGroup_68 : decode b_r_closeGroup 68 = .ok (.invokevirtual 182, 3) := by decide +kernel
theorem d_r_closeGroup_71 : decode b_r_closeGroup 71 = .ok (.putfield 150, 3) := by decide +kernel
theorem d_r_closeGroup_74 : decode b_r_closeGroup 74 = .ok (.aload_n 0, 1) := by decide +kernel
theorem d_r_closeGroup_75 : decode b_r_closeGroup 75 = .ok (.aload_n 0, 1) := by decide +kernel
theorem d_r_closeGroup_76 : decode b_r_closeGroup 76 = .ok (.getfield 159, 3) := by decide +kernel
theorem d_r_closeGroup_79 : decode b_r_closeGroup 79 = .ok (.iconst 1, 1) := by decide +kernel
theorem d_r_closeGroup_80 : decode b_r_closeGroup 80 = .ok (.invokevirtual 172, 3) := by decide +kernel
theorem d_r_closeGroup_83 : decode b_r_closeGroup 83 = .ok (.ireturn, 1) := by decide +kernel
theorem d_r_execute_0 : decode b_r_execute 0 = .ok (.aload_n 0, 1) := by decide +kernel
theorem d_r_execute_1 : decode b_r_execute 1 = .ok (.invokevirtual 165, 3) := by decide +kernel
theorem d_r_execute_4 : decode b_r_execute 4 = .ok (.iconst 0, 1) := by decide +kernel
theorem d_r_execute_5 : decode b_r_execute 5 = .ok (.istore_n 1, 1) := by decide +kernel
theorem d_r_execute_6 : decode b_r_execute 6 = .ok (.iload_n 1, 1) := by decide +kernel
theorem d_r_execute_7 : decode b_r_execute 7 = .ok (.sipush 300, 3) := by decide +kernel
theorem d_r_execute_10 : decode b_r_execute 10 = .ok (.if_icmp .ge 80, 3) := by decide +kernel
theorem d_r_execute_13 : decode b_r_execute 13 = .ok (.aload_n 0, 1) := by decide +kernel
theorem d_r_execute_14 : decode b_r_execute 14 = .ok (.invokevirtual 168, 3) := by decide +kernel
theorem d_r_execute_17 : decode b_r_execute 17 = .ok (.istore_n 2, 1) := by decide +kernel
theorem d_r_execute_18 : decode b_r_execute 18 = .ok (.iload_n 2, 1) := by decide +kernel
theorem d_r_execute_19 : decode b_r_execute 19 = .ok (.bipush (-9), 2) := by decide +kernel
theorem d_r_execute_21 : decode b_r_execute 21 = .ok (.if_icmp .ne 5, 3) := by decide +kernel
theorem d_r_execute_24 : decode b_r_execute 24 = .ok (.iconst 0, 1) := by decide +kernel
theorem d_r_execute_25 : decode b_r_execute 25 = .ok (.ireturn, 1) := by decide +kernel
theorem d_r_execute_26 : decode b_r_execute 26 = .ok (.iload_n 2, 1) := by decide +kernel
theorem d_r_execute_27 : decode b_r_execute 27 = .ok (.ifCond .lt 14, 3) := by decide +kernel
theorem d_r_execute_30 : decode b_r_execute 30 = .ok (.aload_n 0, 1) := by decide +kernel
theorem d_r_execute_31 : decode b_r_execute 31 = .ok (.iload_n 2, 1) := by decide +kernel
theorem d_r_execute_32 : decode b_r_execute 32 = .ok (.iconst 0, 1) := by decide +kernel
theorem d_r_execute_33 : decode b_r_execute 33 = .ok (.invokevirtual 172, 3) := by decide +kernel
theorem d_r_execute_36 : decode b_r_execute 36 = .ok (.ifCond .ne 5, 3) := by decide +kernel
theorem d_r_execute_39 : decode b_r_execute 39 = .ok (.iconst 0, 1) := by decide +kernel
theorem d_r_execute_40 : decode b_r_execute 40 = .ok (.ireturn, 1) := by decide +kernel
theorem d_r_execute_41 : decode b_r_execute 41 = .ok (.iload_n 2, 1) := by decide +kernel
theorem d_r_execute_42 : decode b_r_execute 42 = .ok (.ifCond .lt 25, 3) := by decide +kernel
theorem d_r_execute_45 : decode b_r_execute 45 = .ok (.aload_n 0, 1) := by decide +kernel
theorem d_r_execute_46 : decode b_r_execute 46 = .ok (.aload_n 0, 1) := by decide +kernel
theorem d_r_execute_47 : decode b_r_execute 47 = .ok (.getfield 150, 3) := by decide +kernel
theorem d_r_execute_50 : decode b_r_execute 50 = .ok (.invokevirtual 176, 3) := by decide +kernel
theorem d_r_execute_53 : decode b_r_execute 53 = .ok (.bipush 9, 2) := by decide +kernel
theorem d_r_execute_55 : decode b_r_execute 55 = .ok (.if_icmp .ne 12, 3) := by decide +kernel
theorem d_r_execute_58 : decode b_r_execute 58 = .ok (.aload_n 0, 1) := by decide +kernel
theorem d_r_execute_59 : decode b_r_execute 59 = .ok (.invokevirtual 179, 3) := by decide +kernel
theorem d_r_execute_62 : decode b_r_execute 62 = .ok (.ifCond .ne (-21), 3) := by decide +kernel
theorem d_r_execute_65 : decode b_r_execute 65 = .ok (.iconst 0, 1) := by decide +kernel
theorem d_r_execute_66 : decode b_r_execute 66 = .ok (.ireturn, 1) := by decide +kernel
theorem d_r_execute_67 : decode b_r_execute 67 = .ok (.iload_n 2, 1) := by decide +kernel
theorem d_r_execute_68 : decode b_r_execute 68 = .ok (.ifCond .lt 16, 3) := by decide +kernel
theorem d_r_execute_71 : decode b_r_execute 71 = .ok (.aload_n 0, 1) := by decide +kernel
theorem d_r_execute_72 : decode b_r_execute 72 = .ok (.getfield 150, 3) := by decide +kernel
theorem d_r_execute_75 : decode b_r_execute 75 = .ok (.aload_n 0, 1) := by decide +kernel
theorem d_r_execute_76 : decode b_r_execute 76 = .ok (.getfield 116, 3) := by decide +kernel
theorem d_r_execute_79 : decode b_r_execute 79 = .ok (.if_icmp .lt 5, 3) := by decide +kernel
theorem d_r_execute_82 : decode b_r_execute 82 = .ok (.iconst 1, 1) := by decide +kernel
theorem d_r_execute_83 : decode b_r_execute 83 = .ok (.ireturn, 1) := by decide +kernel
theorem d_r_execute_84 : decode b_r_execute 84 = .ok (.iinc 1 1, 3) := by decide +kernel
theorem d_r_execute_87 : decode b_r_execute 87 = .ok (.goto (-81), 3) := by decide +kernel
theorem d_r_execute_90 : decode b_r_execute 90 = .ok (.iconst 1, 1) := by decide +kernel
theorem d_r_execute_91 : decode b_r_execute 91 = .ok (.ireturn, 1) := by decide +kernel
theorem d_r_giveUp_0 : decode b_r_giveUp 0 = .ok (.aload_n 0, 1) := by decide +kernel
theorem d_r_giveUp_1 : decode b_r_giveUp 1 = .ok (.getfield 147, 3) := by decide +kernel
theorem d_r_giveUp_4 : decode b_r_giveUp 4 = .ok (.istore_n 1, 1) := by decide +kernel
theorem d_r_giveUp_5 : decode b_r_giveUp 5 = .ok (.iload_n 1, 1) := by decide +kernel
theorem d_r_giveUp_6 : decode b_r_giveUp 6 = .ok (.ifCond .lt 36, 3) := by decide +kernel
theorem d_r_giveUp_9 : decode b_r_giveUp 9 = .ok (.iload_n 1, 1) := by decide +kernel
theorem d_r_giveUp_10 : decode b_r_giveUp 10 = .ok (.aload_n 0, 1) := by decide +kernel
theorem d_r_giveUp_11 : decode b_r_giveUp 11 = .ok (.getfield 147, 3) := by decide +kernel
theorem d_r_giveUp_14 : decode b_r_giveUp 14 = .ok (.if_icmp .lt 12, 3) := by decide +kernel
theorem d_r_giveUp_17 : decode b_r_giveUp 17 = .ok (.aload_n 0, 1) := by decide +kernel
theorem d_r_giveUp_18 : decode b_r_giveUp 18 = .ok (.getfield 66, 3) := by decide +kernel
theorem d_r_giveUp_21 : decode b_r_giveUp 21 = .ok (.iload_n 1, 1) := by decide +kernel
theorem d_r_giveUp_22 : decode b_r_giveUp 22 = .ok (.baload, 1) := by decide +kernel
theorem d_r_giveUp_23 : decode b_r_giveUp 23 = .ok (.ifCond .eq 13, 3) := by decide +kernel
theorem d_r_giveUp_26 : decode b_r_giveUp 26 = .ok (.aload_n 0, 1) := by decide +kernel
theorem d_r_giveUp_27 : decode b_r_giveUp 27 = .ok (.aload_n 0, 1) := by decide +kernel
theorem d_r_giveUp_28 : decode b_r_giveUp 28 = .ok (.getfield 63, 3) := by decide +kernel
theorem d_r_giveUp_31 : decode b_r_giveUp 31 = .ok (.iload_n 1, 1) := by decide +kernel
theorem d_r_giveUp_32 : decode b_r_giveUp 32 = .ok (.iaload, 1) := by decide +kernel
theorem d_r_giveUp_33 : decode b_r_giveUp 33 = .ok (.putfield 162, 3) := by decide +kernel
theorem d_r_giveUp_36 : decode b_r_giveUp 36 = .ok (.iinc 1 (-1), 3) := by decide +kernel
theorem d_r_giveUp_39 : decode b_r_giveUp 39 = .ok (.goto (-34), 3) := by decide +kernel
theorem d_r_giveUp_42 : decode b_r_giveUp 42 = .ok (.aload_n 0, 1) := by decide +kernel
theorem d_r_giveUp_43 : decode b_r_giveUp 43 = .ok (.bipush 100, 2) := by decide +kernel
theorem d_r_giveUp_45 : decode b_r_giveUp 45 = .ok (.putfield 159, 3) := by decide +kernel
theorem d_r_giveUp_48 : decode b_r_giveUp 48 = .ok (.return_, 1) := by decide +kernel
theorem d_r_enter_0 : decode b_r_enter 0 = .ok (.aload_n 0, 1) := by decide +kernel
theorem d_r_enter_1 : decode b_r_enter 1 = .ok (.invokevirtual 138, 3) := by decide +kernel
theorem d_r_enter_4 : decode b_r_enter 4 = .ok (.istore_n 1, 1) := by decide +kernel
theorem d_r_enter_5 : decode b_r_enter 5 = .ok (.aload_n 0, 1) := by decide +kernel
theorem d_r_enter_6 : decode b_r_enter 6 = .ok (.iconst 0, 1) := by decide +kernel
theorem d_r_enter_7 : decode b_r_enter 7 = .ok (.putfield 109, 3) := by decide +kernel
theorem d_r_enter_10 : decode b_r_enter 10 = .ok (.aload_n 0, 1) := by decide +kernel
theorem d_r_enter_11 : decode b_r_enter 11 = .ok (.iconst 0, 1) := by decide +kernel
theorem d_r_enter_12 : decode b_r_enter 12 = .ok (.putfield 141, 3) := by decide +kernel
theorem d_r_enter_15 : decode b_r_enter 15 = .ok (.aload_n 0, 1) := by decide +kernel
theorem d_r_enter_16 : decode b_r_enter 16 = .ok (.iconst 0, 1) := by decide +kernel
theorem d_r_enter_17 : decode b_r_enter 17 = .ok (.putfield 144, 3) := by decide +kernel
theorem d_r_enter_20 : decode b_r_enter 20 = .ok (.iload_n 1, 1) := by decide +kernel
theorem d_r_enter_21 : decode b_r_enter 21 = .ok (.ifCond .ne 5, 3) := by decide +kernel
theorem d_r_enter_24 : decode b_r_enter 24 = .ok (.iconst (-1), 1) := by decide +kernel
theorem d_r_enter_25 : decode b_r_enter 25 = .ok (.ireturn, 1) := by decide +kernel
theorem d_r_enter_26 : decode b_r_enter 26 = .ok (.aload_n 0, 1) := by decide +kernel
theorem d_r_enter_27 : decode b_r_enter 27 = .ok (.iconst 0, 1) := by decide +kernel
theorem d_r_enter_28 : decode b_r_enter 28 = .ok (.putfield 147, 3) := by decide +kernel
theorem d_r_enter_31 : decode b_r_enter 31 = .ok (.aload_n 0, 1) := by decide +kernel
theorem d_r_enter_32 : decode b_r_enter 32 = .ok (.iconst 0, 1) := by decide +kernel
theorem d_r_enter_33 : decode b_r_enter 33 = .ok (.putfield 150, 3) := by decide +kernel
theorem d_r_enter_36 : decode b_r_enter 36 = .ok (.aload_n 0, 1) := by decide +kernel
theorem d_r_enter_37 : decode b_r_enter 37 = .ok (.getfield 51, 3) := by decide +kernel
theorem d_r_enter_40 : decode b_r_enter 40 = .ok (.iconst 0, 1) := by decide +kernel
theorem d_r_enter_41 : decode b_r_enter 41 = .ok (.iconst (-1), 1) := by decide +kernel
theorem d_r_enter_42 : decode b_r_enter 42 = .ok (.iastore, 1) := by decide +kernel
theorem d_r_enter_43 : decode b_r_enter 43 = .ok (.aload_n 0, 1) := by decide +kernel
theorem d_r_enter_44 : decode b_r_enter 44 = .ok (.getfield 75, 3) := by decide +kernel
theorem d_r_enter_47 : decode b_r_enter 47 = .ok (.iconst 0, 1) := by decide +kernel
theorem d_r_enter_48 : decode b_r_enter 48 = .ok (.iconst 0, 1) := by decide +kernel
theorem d_r_enter_49 : decode b_r_enter 49 = .ok (.iastore, 1) := by decide +kernel
theorem d_r_enter_50 : decode b_r_enter 50 = .ok (.aload_n 0, 1) := by decide +kernel
theorem d_r_enter_51 : decode b_r_enter 51 = .ok (.getfield 116, 3) := by decide +kernel
theorem d_r_enter_54 : decode b_r_enter 54 = .ok (.ifCond .le 14, 3) := by decide +kernel
theorem d_r_enter_57 : decode b_r_enter 57 = .ok (.aload_n 0, 1) := by decide +kernel
theorem d_r_enter_58 : decode b_r_enter 58 = .ok (.invokevirtual 153, 3) := by decide +kernel
theorem d_r_enter_61 : decode b_r_enter 61 = .ok (.ifCond .ne 7, 3) := by decide +kernel
theorem d_r_enter_64 : decode b_r_enter 64 = .ok (.aload_n 0, 1) := by decide +kernel
theorem d_r_enter_65 : decode b_r_enter 65 = .ok (.invokevirtual 156, 3) := by decide +kernel
theorem d_r_enter_68 : decode b_r_enter 68 = .ok (.aload_n 0, 1) := by decide +kernel
theorem d_r_enter_69 : decode b_r_enter 69 = .ok (.aload_n 0, 1) := by decide +kernel
theorem d_r_enter_70 : decode b_r_enter 70 = .ok (.getfield 75, 3) := by decide +kernel
theorem d_r_enter_73 : decode b_r_enter 73 = .ok (.iconst 0, 1) := by decide +kernel
theorem d_r_enter_74 : decode b_r_enter 74 = .ok (.iaload, 1) := by decide +kernel
theorem d_r_enter_75 : decode b_r_enter 75 = .ok (.putfield 141, 3) := by decide +kernel
theorem d_r_enter_78 : decode b_r_enter 78 = .ok (.iconst 0, 1) := by decide +kernel
theorem d_r_enter_79 : decode b_r_enter 79 = .ok (.istore_n 2, 1) := by decide +kernel
theorem d_r_enter_80 : decode b_r_enter 80 = .ok (.iload_n 2, 1) := by decide +kernel
theorem d_r_enter_81 : decode b_r_enter 81 = .ok (.aload_n 0, 1) := by decide +kernel
theorem d_r_enter_82 : decode b_r_enter 82 = .ok (.getfield 141, 3) := by decide +kernel
theorem d_r_enter_85 : decode b_r_enter 85 = .ok (.if_icmp .ge 21, 3) := by decide +kernel
theorem d_r_enter_88 : decode b_r_enter 88 = .ok (.aload_n 0, 1) := by decide +kernel
theorem d_r_enter_89 : decode b_r_enter 89 = .ok (.getfield 96, 3) := by decide +kernel
theorem d_r_enter_92 : decode b_r_enter 92 = .ok (.iload_n 2, 1) := by decide +kernel
theorem d_r_enter_93 : decode b_r_enter 93 = .ok (.aload_n 0, 1) := by decide +kernel
theorem d_r_enter_94 : decode b_r_enter 94 = .ok (.getfield 72, 3) := by decide +kernel
theorem d_r_enter_97 : decode b_r_enter 97 = .ok (.iload_n 2, 1) := by decide +kernel
theorem d_r_enter_98 : decode b_r_enter 98 = .ok (.iaload, 1) := by decide +kernel
theorem d_r_enter_99 : decode b_r_enter 99 = .ok (.iastore, 1) := by decide +kernel
theorem d_r_enter_100 : decode b_r_enter 100 = .ok (.iinc 2 1, 3) := by decide +kernel
theorem d_r_enter_103 : decode b_r_enter 103 = .ok (.goto (-23), 3) := by decide +kernel
theorem d_r_enter_106 : decode b_r_enter 106 = .ok (.aload_n 0, 1) := by decide +kernel
theorem d_r_enter_107 : decode b_r_enter 107 = .ok (.getfield 159, 3) := by decide +kernel
theorem d_r_enter_110 : decode b_r_enter 110 = .ok (.ireturn, 1) := by decide +kernel
theorem d_r_status_0 : decode b_r_status 0 = .ok (.aload_n 0, 1) := by decide +kernel
theorem d_r_status_1 : decode b_r_status 1 = .ok (.getfield 159, 3) := by decide +kernel
theorem d_r_status_4 : decode b_r_status 4 = .ok (.ireturn, 1) := by decide +kernel
theorem d_r_length_0 : decode b_r_length 0 = .ok (.aload_n 0, 1) := by decide +kernel
theorem d_r_length_1 : decode b_r_length 1 = .ok (.getfield 141, 3) := by decide +kernel
theorem d_r_length_4 : decode b_r_length 4 = .ok (.ireturn, 1) := by decide +kernel
theorem d_r_out_0 : decode b_r_out 0 = .ok (.lconst 0, 1) := by decide +kernel
theorem d_r_out_1 : decode b_r_out 1 = .ok (.lstore_n 2, 1) := by decide +kernel
theorem d_r_out_2 : decode b_r_out 2 = .ok (.iload_n 1, 1) := by decide +kernel
theorem d_r_out_3 : decode b_r_out 3 = .ok (.ifCond .lt 9, 3) := by decide +kernel
theorem d_r_out_6 : decode b_r_out 6 = .ok (.iload_n 1, 1) := by decide +kernel
theorem d_r_out_7 : decode b_r_out 7 = .ok (.bipush 11, 2) := by decide +kernel
theorem d_r_out_9 : decode b_r_out 9 = .ok (.if_icmp .le 5, 3) := by decide +kernel
theorem d_r_out_12 : decode b_r_out 12 = .ok (.lload_n 2, 1) := by decide +kernel
theorem d_r_out_13 : decode b_r_out 13 = .ok (.lreturn, 1) := by decide +kernel
theorem d_r_out_14 : decode b_r_out 14 = .ok (.bipush 8, 2) := by decide +kernel
theorem d_r_out_16 : decode b_r_out 16 = .ok (.iload_n 1, 1) := by decide +kernel
theorem d_r_out_17 : decode b_r_out 17 = .ok (.imul, 1) := by decide +kernel
theorem d_r_out_18 : decode b_r_out 18 = .ok (.istore 4, 2) := by decide +kernel
theorem d_r_out_20 : decode b_r_out 20 = .ok (.iload 4, 2) := by decide +kernel
theorem d_r_out_22 : decode b_r_out 22 = .ok (.bipush 8, 2) := by decide +kernel
theorem d_r_out_24 : decode b_r_out 24 = .ok (.iload_n 1, 1) := by decide +kernel
theorem d_r_out_25 : decode b_r_out 25 = .ok (.imul, 1) := by decide +kernel
theorem d_r_out_26 : decode b_r_out 26 = .ok (.bipush 8, 2) := by decide +kernel
theorem d_r_out_28 : decode b_r_out 28 = .ok (.iadd, 1) := by decide +kernel
theorem d_r_out_29 : decode b_r_out 29 = .ok (.if_icmp .ge 36, 3) := by decide +kernel
theorem d_r_out_32 : decode b_r_out 32 = .ok (.lload_n 2, 1) := by decide +kernel
theorem d_r_out_33 : decode b_r_out 33 = .ok (.bipush 8, 2) := by decide +kernel
theorem d_r_out_35 : decode b_r_out 35 = .ok (.lshl, 1) := by decide +kernel
theorem d_r_out_36 : decode b_r_out 36 = .ok (.iload 4, 2) := by decide +kernel
theorem d_r_out_38 : decode b_r_out 38 = .ok (.aload_n 0, 1) := by decide +kernel
theorem d_r_out_39 : decode b_r_out 39 = .ok (.getfield 141, 3) := by decide +kernel
theorem d_r_out_42 : decode b_r_out 42 = .ok (.if_icmp .ge 13, 3) := by decide +kernel
theorem d_r_out_45 : decode b_r_out 45 = .ok (.aload_n 0, 1) := by decide +kernel
theorem d_r_out_46 : decode b_r_out 46 = .ok (.getfield 96, 3) := by decide +kernel
theorem d_r_out_49 : decode b_r_out 49 = .ok (.iload 4, 2) := by decide +kernel
theorem d_r_out_51 : decode b_r_out 51 = .ok (.iaload, 1) := by decide +kernel
theorem d_r_out_52 : decode b_r_out 52 = .ok (.goto 4, 3) := by decide +kernel
theorem d_r_out_55 : decode b_r_out 55 = .ok (.iconst 0, 1) := by decide +kernel
theorem d_r_out_56 : decode b_r_out 56 = .ok (.i2l, 1) := by decide +kernel
theorem d_r_out_57 : decode b_r_out 57 = .ok (.lor, 1) := by decide +kernel
theorem d_r_out_58 : decode b_r_out 58 = .ok (.lstore_n 2, 1) := by decide +kernel
theorem d_r_out_59 : decode b_r_out 59 = .ok (.iinc 4 1, 3) := by decide +kernel
theorem d_r_out_62 : decode b_r_out 62 = .ok (.goto (-42), 3) := by decide +kernel
theorem d_r_out_65 : decode b_r_out 65 = .ok (.lload_n 2, 1) := by decide +kernel
theorem d_r_out_66 : decode b_r_out 66 = .ok (.lreturn, 1) := by decide +kernel
theorem d_r_ran_0 : decode b_r_ran 0 = .ok (.aload_n 0, 1) := by decide +kernel
theorem d_r_ran_1 : decode b_r_ran 1 = .ok (.getfield 144, 3) := by decide +kernel
theorem d_r_ran_4 : decode b_r_ran 4 = .ok (.ireturn, 1) := by decide +kernel
theorem d_r_nodes_0 : decode b_r_nodes 0 = .ok (.iconst 0, 1) := by decide +kernel
theorem d_r_nodes_1 : decode b_r_nodes 1 = .ok (.istore_n 1, 1) := by decide +kernel
theorem d_r_nodes_2 : decode b_r_nodes 2 = .ok (.iconst 1, 1) := by decide +kernel
theorem d_r_nodes_3 : decode b_r_nodes 3 = .ok (.istore_n 2, 1) := by decide +kernel
theorem d_r_nodes_4 : decode b_r_nodes 4 = .ok (.iload_n 2, 1) := by decide +kernel
theorem d_r_nodes_5 : decode b_r_nodes 5 = .ok (.bipush 13, 2) := by decide +kernel
theorem d_r_nodes_7 : decode b_r_nodes 7 = .ok (.if_icmp .ge 26, 3) := by decide +kernel
theorem d_r_nodes_10 : decode b_r_nodes 10 = .ok (.aload_n 0, 1) := by decide +kernel
theorem d_r_nodes_11 : decode b_r_nodes 11 = .ok (.getfield 7, 3) := by decide +kernel
theorem d_r_nodes_14 : decode b_r_nodes 14 = .ok (.iload_n 2, 1) := by decide +kernel
theorem d_r_nodes_15 : decode b_r_nodes 15 = .ok (.baload, 1) := by decide +kernel
theorem d_r_nodes_16 : decode b_r_nodes 16 = .ok (.ifCond .eq 9, 3) := by decide +kernel
theorem d_r_nodes_19 : decode b_r_nodes 19 = .ok (.iload_n 1, 1) := by decide +kernel
theorem d_r_nodes_20 : decode b_r_nodes 20 = .ok (.iconst 1, 1) := by decide +kernel
theorem d_r_nodes_21 : decode b_r_nodes 21 = .ok (.iadd, 1) := by decide +kernel
theorem d_r_nodes_22 : decode b_r_nodes 22 = .ok (.goto 4, 3) := by decide +kernel
theorem d_r_nodes_25 : decode b_r_nodes 25 = .ok (.iload_n 1, 1) := by decide +kernel
theorem d_r_nodes_26 : decode b_r_nodes 26 = .ok (.istore_n 1, 1) := by decide +kernel
theorem d_r_nodes_27 : decode b_r_nodes 27 = .ok (.iinc 2 1, 3) := by decide +kernel
theorem d_r_nodes_30 : decode b_r_nodes 30 = .ok (.goto (-26), 3) := by decide +kernel
theorem d_r_nodes_33 : decode b_r_nodes 33 = .ok (.iload_n 1, 1) := by decide +kernel
theorem d_r_nodes_34 : decode b_r_nodes 34 = .ok (.ireturn, 1) := by decide +kernel
theorem d_r_depth_0 : decode b_r_depth 0 = .ok (.iconst 0, 1) := by decide +kernel
theorem d_r_depth_1 : decode b_r_depth 1 = .ok (.istore_n 1, 1) := by decide +kernel
theorem d_r_depth_2 : decode b_r_depth 2 = .ok (.aload_n 0, 1) := by decide +kernel
theorem d_r_depth_3 : decode b_r_depth 3 = .ok (.getfield 162, 3) := by decide +kernel
theorem d_r_depth_6 : decode b_r_depth 6 = .ok (.istore_n 2, 1) := by decide +kernel
theorem d_r_depth_7 : decode b_r_depth 7 = .ok (.iload_n 2, 1) := by decide +kernel
theorem d_r_depth_8 : decode b_r_depth 8 = .ok (.ifCond .eq 22, 3) := by decide +kernel
theorem d_r_depth_11 : decode b_r_depth 11 = .ok (.iload_n 1, 1) := by decide +kernel
theorem d_r_depth_12 : decode b_r_depth 12 = .ok (.bipush 13, 2) := by decide +kernel
theorem d_r_depth_14 : decode b_r_depth 14 = .ok (.if_icmp .ge 16, 3) := by decide +kernel
theorem d_r_depth_17 : decode b_r_depth 17 = .ok (.aload_n 0, 1) := by decide +kernel
theorem d_r_depth_18 : decode b_r_depth 18 = .ok (.getfield 16, 3) := by decide +kernel
theorem d_r_depth_21 : decode b_r_depth 21 = .ok (.iload_n 2, 1) := by decide +kernel
theorem d_r_depth_22 : decode b_r_depth 22 = .ok (.iaload, 1) := by decide +kernel
theorem d_r_depth_23 : decode b_r_depth 23 = .ok (.istore_n 2, 1) := by decide +kernel
theorem d_r_depth_24 : decode b_r_depth 24 = .ok (.iinc 1 1, 3) := by decide +kernel
theorem d_r_depth_27 : decode b_r_depth 27 = .ok (.goto (-20), 3) := by decide +kernel
theorem d_r_depth_30 : decode b_r_depth 30 = .ok (.iload_n 1, 1) := by decide +kernel
theorem d_r_depth_31 : decode b_r_depth 31 = .ok (.ireturn, 1) := by decide +kernel
theorem cw_r_type {R : Room} {s : State} {args : Array Value} {own : String} {ix : Nat} (hts : ∀ w ∈ zt, w.before args s = true) (hl : (Cond.methodLink own ix y_r_type).before args s = true) (h1 : 1 ≤ R.frames) (h2 : 25 ≤ R.locals) : CallW R s args own "TreeShellModel" ix y_r_type b_r_type 6 (some .boolean) (.code y_r_type b_r_type 6 (some .boolean) :: zt) { frames := 0, cells := 0, slots := 0, locals := 0 } 0 0 1 := ⟨callB_of 1 hts (zgood w_885) rfl rfl rfl (hts _ w_79) hl ⟨by decide, by decide, by decide +kernel⟩ ⟨h1, h2⟩, hts _ w_883, hts _ w_884⟩
theorem cw_r_wipe {R : Room} {s : State} {args : Array Value} {own : String} {ix : Nat} (hts : ∀ w ∈ zt, w.before args s = true) (hl : (Cond.methodLink own ix y_r_wipe).before args s = true) (h1 : 1 ≤ R.frames) (h2 : 20 ≤ R.locals) : CallW R s args own "TreeShellModel" ix y_r_wipe b_r_wipe 1 none (.code y_r_wipe b_r_wipe 1 none :: zt) { frames := 0, cells := 0, slots := 0, locals := 0 } 0 0 0 := ⟨callB_of 0 hts (zgood w_889) rfl rfl rfl (hts _ w_79) hl ⟨by decide, by decide, by decide +kernel⟩ ⟨h1, h2⟩, hts _ w_887, hts _ w_888⟩
theorem cw_r_typed {R : Room} {s : State} {args : Array Value} {own : String} {ix : Nat} (hts : ∀ w ∈ zt, w.before args s = true) (hl : (Cond.methodLink own ix y_r_typed).before args s = true) (h1 : 1 ≤ R.frames) (h2 : 20 ≤ R.locals) : CallW R s args own "TreeShellModel" ix y_r_typed b_r_typed 1 (some .int) (.code y_r_typed b_r_typed 1 (some .int) :: zt) { frames := 0, cells := 0, slots := 0, locals := 0 } 0 0 0 := ⟨callB_of 0 hts (zgood w_893) rfl rfl rfl (hts _ w_79) hl ⟨by decide, by decide, by decide +kernel⟩ ⟨h1, h2⟩, hts _ w_891, hts _ w_892⟩
theorem cw_r_at {R : Room} {s : State} {args : Array Value} {own : String} {ix : Nat} (hts : ∀ w ∈ zt, w.before args s = true) (hl : (Cond.methodLink own ix y_r_at).before args s = true) (h1 : 1 ≤ R.frames) (h2 : 21 ≤ R.locals) : CallW R s args own "TreeShellModel" ix y_r_at b_r_at 2 (some .int) (.code y_r_at b_r_at 2 (some .int) :: zt) { frames := 0, cells := 0, slots := 0, locals := 0 } 0 0 1 := ⟨callB_of 1 hts (zgood w_913) rfl rfl rfl (hts _ w_79) hl ⟨by decide, by decide, by decide +kernel⟩ ⟨h1, h2⟩, hts _ w_912, hts _ w_30⟩
theorem cw_r_operator {R : Room} {s : State} {args : Array Value} {own : String} {ix : Nat} (hts : ∀ w ∈ zt, w.before args s = true) (hl : (Cond.methodLink own ix y_r_operator).before args s = true) (h1 : 2 ≤ R.frames) (h2 : 44 ≤ R.locals) : CallW R s args own "TreeShellModel" ix y_r_operator b_r_operator 4 (some .int) (.code y_r_operator b_r_operator 4 (some .int) :: zt) { frames := 1, cells := 0, slots := 0, locals := 21 } 0 0 1 := ⟨callB_of 1 hts (zgood w_909) rfl rfl rfl (hts _ w_79) hl ⟨by decide, by decide, by decide +kernel⟩ ⟨h1, h2⟩, hts _ w_908, hts _ w_29⟩
theorem cw_r_token {R : Room} {s : State} {args : Array Value} {own : String} {ix : Nat} (hts : ∀ w ∈ zt, w.before args s = true) (hl : (Cond.methodLink own ix y_r_token).before args s = true) (h1 : 1 ≤ R.frames) (h2 : 22 ≤ R.locals) : CallW R s args own "TreeShellModel" ix y_r_token b_r_token 3 none (.code y_r_token b_r_token 3 none :: zt) { frames := 0, cells := 0, slots := 0, locals := 0 } 0 0 2 := ⟨callB_of 2 hts (zgood w_917) rfl rfl rfl (hts _ w_79) hl ⟨by decide, by decide, by decide +kernel⟩ ⟨h1, h2⟩, hts _ w_916, hts _ w_31⟩
theorem cw_r_cut {R : Room} {s : State} {args : Array Value} {own : String} {ix : Nat} (hts : ∀ w ∈ zt, w.before args s = true) (hl : (Cond.methodLink own ix y_r_cut).before args s = true) (h1 : 3 ≤ R.frames) (h2 : 69 ≤ R.locals) : CallW R s args own "TreeShellModel" ix y_r_cut b_r_cut 6 (some .boolean) (.code y_r_cut b_r_cut 6 (some .boolean) :: zt) { frames := 2, cells := 0, slots := 0, locals := 44 } 0 0 0 := ⟨callB_of 0 hts (zgood w_905) rfl rfl rfl (hts _ w_79) hl ⟨by decide, by decide, by decide +kernel⟩ ⟨h1, h2⟩, hts _ w_904, hts _ w_28⟩
theorem cw_r_redirects {R : Room} {s : State} {args : Array Value} {ix : Nat} (hts : ∀ w ∈ zt, w.before args s = true) (hl : (Cond.methodLink "TreeShellModel" ix y_r_redirects).before args s = true) (h1 : 1 ≤ R.frames) (h2 : 20 ≤ R.locals) : CallB R s args "TreeShellModel" ix y_r_redirects b_r_redirects 1 (some .boolean) (.code y_r_redirects b_r_redirects 1 (some .boolean) :: zt) { frames := 0, cells := 0, slots := 0, locals := 0 } 0 0 1 ∧ (Cond.static y_r_redirects).before args s = true := ⟨callB_of 1 hts (zgood w_923) rfl rfl rfl (hts _ w_79) hl ⟨by decide, by decide, by decide +kernel⟩ ⟨h1, h2⟩, hts _ w_922⟩
theorem cw_r_next {R : Room} {s : State} {args : Array Value} {ix : Nat} (hts : ∀ w ∈ zt, w.before args s = true) (hl : (Cond.methodLink "TreeShellModel" ix y_r_next).before args s = true) (h1 : 2 ≤ R.frames) (h2 : 42 ≤ R.locals) : CallB R s args "TreeShellModel" ix y_r_next b_r_next 3 (some .int) (.code y_r_next b_r_next 3 (some .int) :: zt) { frames := 1, cells := 0, slots := 0, locals := 20 } 0 0 3 ∧ (Cond.static y_r_next).before args s = true := ⟨callB_of 3 hts (zgood w_920) rfl rfl rfl (hts _ w_79) hl ⟨by decide, by decide, by decide +kernel⟩ ⟨h1, h2⟩, hts _ w_919⟩
theorem cw_r_grammar {R : Room} {s : State} {args : Array Value} {own : String} {ix : Nat} (hts : ∀ w ∈ zt, w.before args s = true) (hl : (Cond.methodLink own ix y_r_grammar).before args s = true) (h1 : 4 ≤ R.frames) (h2 : 92 ≤ R.locals) : CallW R s args own "TreeShellModel" ix y_r_grammar b_r_grammar 4 (some .boolean) (.code y_r_grammar b_r_grammar 4 (some .boolean) :: zt) { frames := 3, cells := 0, slots := 0, locals := 69 } 0 0 0 := ⟨callB_of 0 hts (zgood w_901) rfl rfl rfl (hts _ w_79) hl ⟨by decide, by decide, by decide +kernel⟩ ⟨h1, h2⟩, hts _ w_900, hts _ w_27⟩
theorem cw_r_check {R : Room} {s : State} {args : Array Value} {own : String} {ix : Nat} (hts : ∀ w ∈ zt, w.before args s = true) (hl : (Cond.methodLink own ix y_r_check).before args s = true) (h1 : 5 ≤ R.frames) (h2 : 114 ≤ R.locals) : CallW R s args own "TreeShellModel" ix y_r_check b_r_check 3 (some .int) (.code y_r_check b_r_check 3 (some .int) :: zt) { frames := 4, cells := 0, slots := 0, locals := 92 } 0 0 0 := ⟨callB_of 0 hts (zgood w_897) rfl rfl rfl (hts _ w_79) hl ⟨by decide, by decide, by decide +kernel⟩ ⟨h1, h2⟩, hts _ w_895, hts _ w_896⟩
theorem cw_r_kindAt {R : Room} {s : State} {args : Array Value} {own : String} {ix : Nat} (hts : ∀ w ∈ zt, w.before args s = true) (hl : (Cond.methodLink own ix y_r_kindAt).before args s = true) (h1 : 1 ≤ R.frames) (h2 : 21 ≤ R.locals) : CallW R s args own "TreeShellModel" ix y_r_kindAt b_r_kindAt 2 (some .int) (.code y_r_kindAt b_r_kindAt 2 (some .int) :: zt) { frames := 0, cells := 0, slots := 0, locals := 0 } 0 0 1 := ⟨callB_of 1 hts (zgood w_939) rfl rfl rfl (hts _ w_79) hl ⟨by decide, by decide, by decide +kernel⟩ ⟨h1, h2⟩, hts _ w_938, hts _ w_34⟩
theorem cw_r_pipelineEnd {R : Room} {s : State} {args : Array Value} {own : String} {ix : Nat} (hts : ∀ w ∈ zt, w.before args s = true) (hl : (Cond.methodLink own ix y_r_pipelineEnd).before args s = true) (h1 : 1 ≤ R.frames) (h2 : 25 ≤ R.locals) : CallW R s args own "TreeShellModel" ix y_r_pipelineEnd b_r_pipelineEnd 6 (some .int) (.code y_r_pipelineEnd b_r_pipelineEnd 6 (some .int) :: zt) { frames := 0, cells := 0, slots := 0, locals := 0 } 0 0 2 := ⟨callB_of 2 hts (zgood w_943) rfl rfl rfl (hts _ w_79) hl ⟨by decide, by decide, by decide +kernel⟩ ⟨h1, h2⟩, hts _ w_942, hts _ w_35⟩
theorem cw_r_startPipeline {R : Room} {s : State} {args : Array Value} {own : String} {ix : Nat} (hts : ∀ w ∈ zt, w.before args s = true) (hl : (Cond.methodLink own ix y_r_startPipeline).before args s = true) (h1 : 2 ≤ R.frames) (h2 : 45 ≤ R.locals) : CallW R s args own "TreeShellModel" ix y_r_startPipeline b_r_startPipeline 1 none (.code y_r_startPipeline b_r_startPipeline 1 none :: zt) { frames := 1, cells := 0, slots := 0, locals := 25 } 0 0 0 := ⟨callB_of 0 hts (zgood w_935) rfl rfl rfl (hts _ w_79) hl ⟨by decide, by decide, by decide +kernel⟩ ⟨h1, h2⟩, hts _ w_934, hts _ w_33⟩
theorem cw_r_letterOf {R : Room} {s : State} {args : Array Value} {own : String} {ix : Nat} (hts : ∀ w ∈ zt, w.before args s = true) (hl : (Cond.methodLink own ix y_r_letterOf).before args s = true) (h1 : 1 ≤ R.frames) (h2 : 21 ≤ R.locals) : CallW R s args own "TreeShellModel" ix y_r_letterOf b_r_letterOf 2 none (.code y_r_letterOf b_r_letterOf 2 none :: zt) { frames := 0, cells := 0, slots := 0, locals := 0 } 0 0 1 := ⟨callB_of 1 hts (zgood w_959) rfl rfl rfl (hts _ w_79) hl ⟨by decide, by decide, by decide +kernel⟩ ⟨h1, h2⟩, hts _ w_958, hts _ w_39⟩
theorem cw_r_scale {R : Room} {s : State} {args : Array Value} {ix : Nat} (hts : ∀ w ∈ zt, w.before args s = true) (hl : (Cond.methodLink "TreeShellModel" ix y_r_scale).before args s = true) (h1 : 1 ≤ R.frames) (h2 : 20 ≤ R.locals) : CallB R s args "TreeShellModel" ix y_r_scale b_r_scale 1 (some .int) (.code y_r_scale b_r_scale 1 (some .int) :: zt) { frames := 0, cells := 0, slots := 0, locals := 0 } 0 0 1 ∧ (Cond.static y_r_scale).before args s = true := ⟨callB_of 1 hts (zgood w_962) rfl rfl rfl (hts _ w_79) hl ⟨by decide, by decide, by decide +kernel⟩ ⟨h1, h2⟩, hts _ w_961⟩
theorem cw_r_expand {R : Room} {s : State} {args : Array Value} {own : String} {ix : Nat} (hts : ∀ w ∈ zt, w.before args s = true) (hl : (Cond.methodLink own ix y_r_expand).before args s = true) (h1 : 2 ≤ R.frames) (h2 : 46 ≤ R.locals) : CallW R s args own "TreeShellModel" ix y_r_expand b_r_expand 6 none (.code y_r_expand b_r_expand 6 none :: zt) { frames := 1, cells := 0, slots := 0, locals := 21 } 0 0 1 := ⟨callB_of 1 hts (zgood w_955) rfl rfl rfl (hts _ w_79) hl ⟨by decide, by decide, by decide +kernel⟩ ⟨h1, h2⟩, hts _ w_954, hts _ w_38⟩
theorem cw_r_packed {R : Room} {s : State} {args : Array Value} {own : String} {ix : Nat} (hts : ∀ w ∈ zt, w.before args s = true) (hl : (Cond.methodLink own ix y_r_packed).before args s = true) (h1 : 1 ≤ R.frames) (h2 : 25 ≤ R.locals) : CallW R s args own "TreeShellModel" ix y_r_packed b_r_packed 6 (some .long) (.code y_r_packed b_r_packed 6 (some .long) :: zt) { frames := 0, cells := 0, slots := 0, locals := 0 } 0 0 2 := ⟨callB_of 2 hts (zgood w_970) rfl rfl rfl (hts _ w_79) hl ⟨by decide, by decide, by decide +kernel⟩ ⟨h1, h2⟩, hts _ w_969, hts _ w_41⟩
theorem cw_r_isDots {R : Room} {s : State} {args : Array Value} {own : String} {ix : Nat} (hts : ∀ w ∈ zt, w.before args s = true) (hl : (Cond.methodLink own ix y_r_isDots).before args s = true) (h1 : 1 ≤ R.frames) (h2 : 22 ≤ R.locals) : CallW R s args own "TreeShellModel" ix y_r_isDots b_r_isDots 3 (some .boolean) (.code y_r_isDots b_r_isDots 3 (some .boolean) :: zt) { frames := 0, cells := 0, slots := 0, locals := 0 } 0 0 2 := ⟨callB_of 2 hts (zgood w_975) rfl rfl rfl (hts _ w_79) hl ⟨by decide, by decide, by decide +kernel⟩ ⟨h1, h2⟩, hts _ w_974, hts _ w_42⟩
theorem cw_r_child {R : Room} {s : State} {args : Array Value} {own : String} {ix : Nat} (hts : ∀ w ∈ zt, w.before args s = true) (hl : (Cond.methodLink own ix y_r_child).before args s = true) (h1 : 1 ≤ R.frames) (h2 : 24 ≤ R.locals) : CallW R s args own "TreeShellModel" ix y_r_child b_r_child 5 (some .int) (.code y_r_child b_r_child 5 (some .int) :: zt) { frames := 0, cells := 0, slots := 0, locals := 0 } 0 0 2 := ⟨callB_of 2 hts (zgood w_979) rfl rfl rfl (hts _ w_79) hl ⟨by decide, by decide, by decide +kernel⟩ ⟨h1, h2⟩, hts _ w_978, hts _ w_43⟩
theorem cw_r_isName {R : Room} {s : State} {args : Array Value} {own : String} {ix : Nat} (hts : ∀ w ∈ zt, w.before args s = true) (hl : (Cond.methodLink own ix y_r_isName).before args s = true) (h1 : 2 ≤ R.frames) (h2 : 46 ≤ R.locals) : CallW R s args own "TreeShellModel" ix y_r_isName b_r_isName 5 (some .boolean) (.code y_r_isName b_r_isName 5 (some .boolean) :: zt) { frames := 1, cells := 0, slots := 0, locals := 22 } 0 0 2 := ⟨callB_of 2 hts (zgood w_983) rfl rfl rfl (hts _ w_79) hl ⟨by decide, by decide, by decide +kernel⟩ ⟨h1, h2⟩, hts _ w_982, hts _ w_44⟩
theorem cw_r_follow {R : Room} {s : State} {args : Array Value} {own : String} {ix : Nat} (hts : ∀ w ∈ zt, w.before args s = true) (hl : (Cond.methodLink own ix y_r_follow).before args s = true) (h1 : 3 ≤ R.frames) (h2 : 73 ≤ R.locals) : CallW R s args own "TreeShellModel" ix y_r_follow b_r_follow 8 none (.code y_r_follow b_r_follow 8 none :: zt) { frames := 2, cells := 0, slots := 0, locals := 46 } 0 0 1 := ⟨callB_of 1 hts (zgood w_966) rfl rfl rfl (hts _ w_79) hl ⟨by decide, by decide, by decide +kernel⟩ ⟨h1, h2⟩, hts _ w_965, hts _ w_40⟩
theorem cw_r_made {R : Room} {s : State} {args : Array Value} {own : String} {ix : Nat} (hts : ∀ w ∈ zt, w.before args s = true) (hl : (Cond.methodLink own ix y_r_made).before args s = true) (h1 : 1 ≤ R.frames) (h2 : 24 ≤ R.locals) : CallW R s args own "TreeShellModel" ix y_r_made b_r_made 5 (some .int) (.code y_r_made b_r_made 5 (some .int) :: zt) { frames := 0, cells := 0, slots := 0, locals := 0 } 0 0 1 := ⟨callB_of 1 hts (zgood w_987) rfl rfl rfl (hts _ w_79) hl ⟨by decide, by decide, by decide +kernel⟩ ⟨h1, h2⟩, hts _ w_986, hts _ w_45⟩
theorem cw_r_redirect {R : Room} {s : State} {args : Array Value} {own : String} {ix : Nat} (hts : ∀ w ∈ zt, w.before args s = true) (hl : (Cond.methodLink own ix y_r_redirect).before args s = true) (h1 : 4 ≤ R.frames) (h2 : 97 ≤ R.locals) : CallW R s args own "TreeShellModel" ix y_r_redirect b_r_redirect 5 (some .int) (.code y_r_redirect b_r_redirect 5 (some .int) :: zt) { frames := 3, cells := 0, slots := 0, locals := 73 } 0 0 2 := ⟨callB_of 2 hts (zgood w_951) rfl rfl rfl (hts _ w_79) hl ⟨by decide, by decide, by decide +kernel⟩ ⟨h1, h2⟩, hts _ w_950, hts _ w_37⟩
theorem cw_r_wordAs {R : Room} {s : State} {args : Array Value} {own : String} {ix : Nat} (hts : ∀ w ∈ zt, w.before args s = true) (hl : (Cond.methodLink own ix y_r_wordAs).before args s = true) (h1 : 2 ≤ R.frames) (h2 : 46 ≤ R.locals) : CallW R s args own "TreeShellModel" ix y_r_wordAs b_r_wordAs 2 (some .long) (.code y_r_wordAs b_r_wordAs 2 (some .long) :: zt) { frames := 1, cells := 0, slots := 0, locals := 25 } 0 0 1 := ⟨callB_of 1 hts (zgood w_995) rfl rfl rfl (hts _ w_79) hl ⟨by decide, by decide, by decide +kernel⟩ ⟨h1, h2⟩, hts _ w_994, hts _ w_47⟩
theorem cw_r_emit {R : Room} {s : State} {args : Array Value} {own : String} {ix : Nat} (hts : ∀ w ∈ zt, w.before args s = true) (hl : (Cond.methodLink own ix y_r_emit).before args s = true) (h1 : 1 ≤ R.frames) (h2 : 21 ≤ R.locals) : CallW R s args own "TreeShellModel" ix y_r_emit b_r_emit 2 none (.code y_r_emit b_r_emit 2 none :: zt) { frames := 0, cells := 0, slots := 0, locals := 0 } 0 0 1 := ⟨callB_of 1 hts (zgood w_1005) rfl rfl rfl (hts _ w_79) hl ⟨by decide, by decide, by decide +kernel⟩ ⟨h1, h2⟩, hts _ w_1004, hts _ w_49⟩
theorem cw_r_echo {R : Room} {s : State} {args : Array Value} {own : String} {ix : Nat} (hts : ∀ w ∈ zt, w.before args s = true) (hl : (Cond.methodLink own ix y_r_echo).before args s = true) (h1 : 3 ≤ R.frames) (h2 : 70 ≤ R.locals) : CallW R s args own "TreeShellModel" ix y_r_echo b_r_echo 5 (some .int) (.code y_r_echo b_r_echo 5 (some .int) :: zt) { frames := 2, cells := 0, slots := 0, locals := 46 } 0 0 0 := ⟨callB_of 0 hts (zgood w_1000) rfl rfl rfl (hts _ w_79) hl ⟨by decide, by decide, by decide +kernel⟩ ⟨h1, h2⟩, hts _ w_999, hts _ w_48⟩
theorem cw_r_reads {R : Room} {s : State} {args : Array Value} {own : String} {ix : Nat} (hts : ∀ w ∈ zt, w.before args s = true) (hl : (Cond.methodLink own ix y_r_reads).before args s = true) (h1 : 4 ≤ R.frames) (h2 : 97 ≤ R.locals) : CallW R s args own "TreeShellModel" ix y_r_reads b_r_reads 5 (some .boolean) (.code y_r_reads b_r_reads 5 (some .boolean) :: zt) { frames := 3, cells := 0, slots := 0, locals := 73 } 0 0 1 := ⟨callB_of 1 hts (zgood w_1014) rfl rfl rfl (hts _ w_79) hl ⟨by decide, by decide, by decide +kernel⟩ ⟨h1, h2⟩, hts _ w_1013, hts _ w_51⟩
theorem cw_r_cat {R : Room} {s : State} {args : Array Value} {own : String} {ix : Nat} (hts : ∀ w ∈ zt, w.before args s = true) (hl : (Cond.methodLink own ix y_r_cat).before args s = true) (h1 : 5 ≤ R.frames) (h2 : 121 ≤ R.locals) : CallW R s args own "TreeShellModel" ix y_r_cat b_r_cat 5 (some .int) (.code y_r_cat b_r_cat 5 (some .int) :: zt) { frames := 4, cells := 0, slots := 0, locals := 97 } 0 0 0 := ⟨callB_of 0 hts (zgood w_1010) rfl rfl rfl (hts _ w_79) hl ⟨by decide, by decide, by decide +kernel⟩ ⟨h1, h2⟩, hts _ w_1009, hts _ w_50⟩
theorem cw_r_emitNumber {R : Room} {s : State} {args : Array Value} {own : String} {ix : Nat} (hts : ∀ w ∈ zt, w.before args s = true) (hl : (Cond.methodLink own ix y_r_emitNumber).before args s = true) (h1 : 2 ≤ R.frames) (h2 : 43 ≤ R.locals) : CallW R s args own "TreeShellModel" ix y_r_emitNumber b_r_emitNumber 3 none (.code y_r_emitNumber b_r_emitNumber 3 none :: zt) { frames := 1, cells := 0, slots := 0, locals := 21 } 0 0 1 := ⟨callB_of 1 hts (zgood w_1023) rfl rfl rfl (hts _ w_79) hl ⟨by decide, by decide, by decide +kernel⟩ ⟨h1, h2⟩, hts _ w_1022, hts _ w_53⟩
theorem cw_r_wc {R : Room} {s : State} {args : Array Value} {own : String} {ix : Nat} (hts : ∀ w ∈ zt, w.before args s = true) (hl : (Cond.methodLink own ix y_r_wc).before args s = true) (h1 : 5 ≤ R.frames) (h2 : 121 ≤ R.locals) : CallW R s args own "TreeShellModel" ix y_r_wc b_r_wc 5 (some .int) (.code y_r_wc b_r_wc 5 (some .int) :: zt) { frames := 4, cells := 0, slots := 0, locals := 97 } 0 0 0 := ⟨callB_of 0 hts (zgood w_1019) rfl rfl rfl (hts _ w_79) hl ⟨by decide, by decide, by decide +kernel⟩ ⟨h1, h2⟩, hts _ w_1018, hts _ w_52⟩
theorem cw_r_stands {R : Room} {s : State} {args : Array Value} {own : String} {ix : Nat} (hts : ∀ w ∈ zt, w.before args s = true) (hl : (Cond.methodLink own ix y_r_stands).before args s = true) (h1 : 1 ≤ R.frames) (h2 : 24 ≤ R.locals) : CallW R s args own "TreeShellModel" ix y_r_stands b_r_stands 5 (some .boolean) (.code y_r_stands b_r_stands 5 (some .boolean) :: zt) { frames := 0, cells := 0, slots := 0, locals := 0 } 0 0 3 := ⟨callB_of 3 hts (zgood w_1033) rfl rfl rfl (hts _ w_79) hl ⟨by decide, by decide, by decide +kernel⟩ ⟨h1, h2⟩, hts _ w_1032, hts _ w_55⟩
theorem cw_r_emitLine {R : Room} {s : State} {args : Array Value} {own : String} {ix : Nat} (hts : ∀ w ∈ zt, w.before args s = true) (hl : (Cond.methodLink own ix y_r_emitLine).before args s = true) (h1 : 2 ≤ R.frames) (h2 : 43 ≤ R.locals) : CallW R s args own "TreeShellModel" ix y_r_emitLine b_r_emitLine 3 none (.code y_r_emitLine b_r_emitLine 3 none :: zt) { frames := 1, cells := 0, slots := 0, locals := 21 } 0 0 1 := ⟨callB_of 1 hts (zgood w_1037) rfl rfl rfl (hts _ w_79) hl ⟨by decide, by decide, by decide +kernel⟩ ⟨h1, h2⟩, hts _ w_1036, hts _ w_56⟩
theorem cw_r_grep {R : Room} {s : State} {args : Array Value} {own : String} {ix : Nat} (hts : ∀ w ∈ zt, w.before args s = true) (hl : (Cond.methodLink own ix y_r_grep).before args s = true) (h1 : 5 ≤ R.frames) (h2 : 129 ≤ R.locals) : CallW R s args own "TreeShellModel" ix y_r_grep b_r_grep 13 (some .int) (.code y_r_grep b_r_grep 13 (some .int) :: zt) { frames := 4, cells := 0, slots := 0, locals := 97 } 0 0 0 := ⟨callB_of 0 hts (zgood w_1028) rfl rfl rfl (hts _ w_79) hl ⟨by decide, by decide, by decide +kernel⟩ ⟨h1, h2⟩, hts _ w_1027, hts _ w_54⟩
theorem cw_r_emitName {R : Room} {s : State} {args : Array Value} {own : String} {ix : Nat} (hts : ∀ w ∈ zt, w.before args s = true) (hl : (Cond.methodLink own ix y_r_emitName).before args s = true) (h1 : 2 ≤ R.frames) (h2 : 45 ≤ R.locals) : CallW R s args own "TreeShellModel" ix y_r_emitName b_r_emitName 5 none (.code y_r_emitName b_r_emitName 5 none :: zt) { frames := 1, cells := 0, slots := 0, locals := 21 } 0 0 1 := ⟨callB_of 1 hts (zgood w_1046) rfl rfl rfl (hts _ w_79) hl ⟨by decide, by decide, by decide +kernel⟩ ⟨h1, h2⟩, hts _ w_1045, hts _ w_58⟩
theorem cw_r_ls {R : Room} {s : State} {args : Array Value} {own : String} {ix : Nat} (hts : ∀ w ∈ zt, w.before args s = true) (hl : (Cond.methodLink own ix y_r_ls).before args s = true) (h1 : 4 ≤ R.frames) (h2 : 99 ≤ R.locals) : CallW R s args own "TreeShellModel" ix y_r_ls b_r_ls 7 (some .int) (.code y_r_ls b_r_ls 7 (some .int) :: zt) { frames := 3, cells := 0, slots := 0, locals := 73 } 0 0 0 := ⟨callB_of 0 hts (zgood w_1042) rfl rfl rfl (hts _ w_79) hl ⟨by decide, by decide, by decide +kernel⟩ ⟨h1, h2⟩, hts _ w_1041, hts _ w_57⟩
theorem cw_r_mkdir {R : Room} {s : State} {args : Array Value} {own : String} {ix : Nat} (hts : ∀ w ∈ zt, w.before args s = true) (hl : (Cond.methodLink own ix y_r_mkdir).before args s = true) (h1 : 4 ≤ R.frames) (h2 : 93 ≤ R.locals) : CallW R s args own "TreeShellModel" ix y_r_mkdir b_r_mkdir 1 (some .int) (.code y_r_mkdir b_r_mkdir 1 (some .int) :: zt) { frames := 3, cells := 0, slots := 0, locals := 73 } 0 0 0 := ⟨callB_of 0 hts (zgood w_1051) rfl rfl rfl (hts _ w_79) hl ⟨by decide, by decide, by decide +kernel⟩ ⟨h1, h2⟩, hts _ w_1050, hts _ w_59⟩
theorem cw_r_cd {R : Room} {s : State} {args : Array Value} {own : String} {ix : Nat} (hts : ∀ w ∈ zt, w.before args s = true) (hl : (Cond.methodLink own ix y_r_cd).before args s = true) (h1 : 4 ≤ R.frames) (h2 : 93 ≤ R.locals) : CallW R s args own "TreeShellModel" ix y_r_cd b_r_cd 1 (some .int) (.code y_r_cd b_r_cd 1 (some .int) :: zt) { frames := 3, cells := 0, slots := 0, locals := 73 } 0 0 0 := ⟨callB_of 0 hts (zgood w_1056) rfl rfl rfl (hts _ w_79) hl ⟨by decide, by decide, by decide +kernel⟩ ⟨h1, h2⟩, hts _ w_1055, hts _ w_60⟩
theorem cw_r_tool {R : Room} {s : State} {args : Array Value} {own : String} {ix : Nat} (hts : ∀ w ∈ zt, w.before args s = true) (hl : (Cond.methodLink own ix y_r_tool).before args s = true) (h1 : 6 ≤ R.frames) (h2 : 151 ≤ R.locals) : CallW R s args own "TreeShellModel" ix y_r_tool b_r_tool 3 (some .int) (.code y_r_tool b_r_tool 3 (some .int) :: zt) { frames := 5, cells := 0, slots := 0, locals := 129 } 0 0 0 := ⟨callB_of 0 hts (zgood w_991) rfl rfl rfl (hts _ w_79) hl ⟨by decide, by decide, by decide +kernel⟩ ⟨h1, h2⟩, hts _ w_990, hts _ w_46⟩
theorem cw_r_startCommand {R : Room} {s : State} {args : Array Value} {own : String} {ix : Nat} (hts : ∀ w ∈ zt, w.before args s = true) (hl : (Cond.methodLink own ix y_r_startCommand).before args s = true) (h1 : 7 ≤ R.frames) (h2 : 176 ≤ R.locals) : CallW R s args own "TreeShellModel" ix y_r_startCommand b_r_startCommand 6 (some .int) (.code y_r_startCommand b_r_startCommand 6 (some .int) :: zt) { frames := 6, cells := 0, slots := 0, locals := 151 } 0 0 0 := ⟨callB_of 0 hts (zgood w_947) rfl rfl rfl (hts _ w_79) hl ⟨by decide, by decide, by decide +kernel⟩ ⟨h1, h2⟩, hts _ w_946, hts _ w_36⟩
theorem cw_r_chars {R : Room} {s : State} {args : Array Value} {own : String} {ix : Nat} (hts : ∀ w ∈ zt, w.before args s = true) (hl : (Cond.methodLink own ix y_r_chars).before args s = true) (h1 : 1 ≤ R.frames) (h2 : 22 ≤ R.locals) : CallW R s args own "TreeShellModel" ix y_r_chars b_r_chars 3 (some .int) (.code y_r_chars b_r_chars 3 (some .int) :: zt) { frames := 0, cells := 0, slots := 0, locals := 0 } 0 0 0 := ⟨callB_of 0 hts (zgood w_1068) rfl rfl rfl (hts _ w_79) hl ⟨by decide, by decide, by decide +kernel⟩ ⟨h1, h2⟩, hts _ w_1066, hts _ w_1067⟩
theorem cw_r_addTo {R : Room} {s : State} {args : Array Value} {own : String} {ix : Nat} (hts : ∀ w ∈ zt, w.before args s = true) (hl : (Cond.methodLink own ix y_r_addTo).before args s = true) (h1 : 2 ≤ R.frames) (h2 : 45 ≤ R.locals) : CallW R s args own "TreeShellModel" ix y_r_addTo b_r_addTo 4 (some .boolean) (.code y_r_addTo b_r_addTo 4 (some .boolean) :: zt) { frames := 1, cells := 0, slots := 0, locals := 22 } 0 0 1 := ⟨callB_of 1 hts (zgood w_1064) rfl rfl rfl (hts _ w_79) hl ⟨by decide, by decide, by decide +kernel⟩ ⟨h1, h2⟩, hts _ w_1063, hts _ w_62⟩
theorem cw_r_fill {R : Room} {s : State} {args : Array Value} {own : String} {ix : Nat} (hts : ∀ w ∈ zt, w.before args s = true) (hl : (Cond.methodLink own ix y_r_fill).before args s = true) (h1 : 1 ≤ R.frames) (h2 : 22 ≤ R.locals) : CallW R s args own "TreeShellModel" ix y_r_fill b_r_fill 3 none (.code y_r_fill b_r_fill 3 none :: zt) { frames := 0, cells := 0, slots := 0, locals := 0 } 0 0 1 := ⟨callB_of 1 hts (zgood w_1072) rfl rfl rfl (hts _ w_79) hl ⟨by decide, by decide, by decide +kernel⟩ ⟨h1, h2⟩, hts _ w_1071, hts _ w_63⟩
theorem cw_r_goOn {R : Room} {s : State} {args : Array Value} {own : String} {ix : Nat} (hts : ∀ w ∈ zt, w.before args s = true) (hl : (Cond.methodLink own ix y_r_goOn).before args s = true) (h1 : 3 ≤ R.frames) (h2 : 67 ≤ R.locals) : CallW R s args own "TreeShellModel" ix y_r_goOn b_r_goOn 3 none (.code y_r_goOn b_r_goOn 3 none :: zt) { frames := 2, cells := 0, slots := 0, locals := 45 } 0 0 0 := ⟨callB_of 0 hts (zgood w_1076) rfl rfl rfl (hts _ w_79) hl ⟨by decide, by decide, by decide +kernel⟩ ⟨h1, h2⟩, hts _ w_1075, hts _ w_64⟩
theorem cw_r_endCommand {R : Room} {s : State} {args : Array Value} {own : String} {ix : Nat} (hts : ∀ w ∈ zt, w.before args s = true) (hl : (Cond.methodLink own ix y_r_endCommand).before args s = true) (h1 : 4 ≤ R.frames) (h2 : 90 ≤ R.locals) : CallW R s args own "TreeShellModel" ix y_r_endCommand b_r_endCommand 4 (some .boolean) (.code y_r_endCommand b_r_endCommand 4 (some .boolean) :: zt) { frames := 3, cells := 0, slots := 0, locals := 67 } 0 0 2 := ⟨callB_of 2 hts (zgood w_1060) rfl rfl rfl (hts _ w_79) hl ⟨by decide, by decide, by decide +kernel⟩ ⟨h1, h2⟩, hts _ w_1059, hts _ w_61⟩
theorem cw_r_closeGroup {R : Room} {s : State} {args : Array Value} {own : String} {ix : Nat} (hts : ∀ w ∈ zt, w.before args s = true) (hl : (Cond.methodLink own ix y_r_closeGroup).before args s = true) (h1 : 5 ≤ R.frames) (h2 : 111 ≤ R.locals) : CallW R s args own "TreeShellModel" ix y_r_closeGroup b_r_closeGroup 2 (some .boolean) (.code y_r_closeGroup b_r_closeGroup 2 (some .boolean) :: zt) { frames := 4, cells := 0, slots := 0, locals := 90 } 0 0 0 := ⟨callB_of 0 hts (zgood w_1080) rfl rfl rfl (hts _ w_79) hl ⟨by decide, by decide, by decide +kernel⟩ ⟨h1, h2⟩, hts _ w_1079, hts _ w_65⟩
theorem cw_r_execute {R : Room} {s : State} {args : Array Value} {own : String} {ix : Nat} (hts : ∀ w ∈ zt, w.before args s = true) (hl : (Cond.methodLink own ix y_r_execute).before args s = true) (h1 : 8 ≤ R.frames) (h2 : 198 ≤ R.locals) : CallW R s args own "TreeShellModel" ix y_r_execute b_r_execute 3 (some .boolean) (.code y_r_execute b_r_execute 3 (some .boolean) :: zt) { frames := 7, cells := 0, slots := 0, locals := 176 } 0 0 0 := ⟨callB_of 0 hts (zgood w_931) rfl rfl rfl (hts _ w_79) hl ⟨by decide, by decide, by decide +kernel⟩ ⟨h1, h2⟩, hts _ w_930, hts _ w_32⟩
theorem cw_r_giveUp {R : Room} {s : State} {args : Array Value} {own : String} {ix : Nat} (hts : ∀ w ∈ zt, w.before args s = true) (hl : (Cond.methodLink own ix y_r_giveUp).before args s = true) (h1 : 1 ≤ R.frames) (h2 : 21 ≤ R.locals) : CallW R s args own "TreeShellModel" ix y_r_giveUp b_r_giveUp 2 none (.code y_r_giveUp b_r_giveUp 2 none :: zt) { frames := 0, cells := 0, slots := 0, locals := 0 } 0 0 0 := ⟨callB_of 0 hts (zgood w_1084) rfl rfl rfl (hts _ w_79) hl ⟨by decide, by decide, by decide +kernel⟩ ⟨h1, h2⟩, hts _ w_1083, hts _ w_66⟩
theorem cw_r_enter {R : Room} {s : State} {args : Array Value} {own : String} {ix : Nat} (hts : ∀ w ∈ zt, w.before args s = true) (hl : (Cond.methodLink own ix y_r_enter).before args s = true) (h1 : 9 ≤ R.frames) (h2 : 220 ≤ R.locals) : CallW R s args own "TreeShellModel" ix y_r_enter b_r_enter 3 (some .int) (.code y_r_enter b_r_enter 3 (some .int) :: zt) { frames := 8, cells := 0, slots := 0, locals := 198 } 0 0 0 := ⟨callB_of 0 hts (zgood w_927) rfl rfl rfl (hts _ w_79) hl ⟨by decide, by decide, by decide +kernel⟩ ⟨h1, h2⟩, hts _ w_925, hts _ w_926⟩
theorem cw_r_status {R : Room} {s : State} {args : Array Value} {own : String} {ix : Nat} (hts : ∀ w ∈ zt, w.before args s = true) (hl : (Cond.methodLink own ix y_r_status).before args s = true) (h1 : 1 ≤ R.frames) (h2 : 20 ≤ R.locals) : CallW R s args own "TreeShellModel" ix y_r_status b_r_status 1 (some .int) (.code y_r_status b_r_status 1 (some .int) :: zt) { frames := 0, cells := 0, slots := 0, locals := 0 } 0 0 0 := ⟨callB_of 0 hts (zgood w_1088) rfl rfl rfl (hts _ w_79) hl ⟨by decide, by decide, by decide +kernel⟩ ⟨h1, h2⟩, hts _ w_1086, hts _ w_1087⟩
theorem cw_r_length {R : Room} {s : State} {args : Array Value} {own : String} {ix : Nat} (hts : ∀ w ∈ zt, w.before args s = true) (hl : (Cond.methodLink own ix y_r_length).before args s = true) (h1 : 1 ≤ R.frames) (h2 : 20 ≤ R.locals) : CallW R s args own "TreeShellModel" ix y_r_length b_r_length 1 (some .int) (.code y_r_length b_r_length 1 (some .int) :: zt) { frames := 0, cells := 0, slots := 0, locals := 0 } 0 0 0 := ⟨callB_of 0 hts (zgood w_1092) rfl rfl rfl (hts _ w_79) hl ⟨by decide, by decide, by decide +kernel⟩ ⟨h1, h2⟩, hts _ w_1090, hts _ w_1091⟩
theorem cw_r_out {R : Room} {s : State} {args : Array Value} {own : String} {ix : Nat} (hts : ∀ w ∈ zt, w.before args s = true) (hl : (Cond.methodLink own ix y_r_out).before args s = true) (h1 : 1 ≤ R.frames) (h2 : 24 ≤ R.locals) : CallW R s args own "TreeShellModel" ix y_r_out b_r_out 5 (some .long) (.code y_r_out b_r_out 5 (some .long) :: zt) { frames := 0, cells := 0, slots := 0, locals := 0 } 0 0 1 := ⟨callB_of 1 hts (zgood w_1096) rfl rfl rfl (hts _ w_79) hl ⟨by decide, by decide, by decide +kernel⟩ ⟨h1, h2⟩, hts _ w_1094, hts _ w_1095⟩
theorem cw_r_ran {R : Room} {s : State} {args : Array Value} {own : String} {ix : Nat} (hts : ∀ w ∈ zt, w.before args s = true) (hl : (Cond.methodLink own ix y_r_ran).before args s = true) (h1 : 1 ≤ R.frames) (h2 : 20 ≤ R.locals) : CallW R s args own "TreeShellModel" ix y_r_ran b_r_ran 1 (some .int) (.code y_r_ran b_r_ran 1 (some .int) :: zt) { frames := 0, cells := 0, slots := 0, locals := 0 } 0 0 0 := ⟨callB_of 0 hts (zgood w_1100) rfl rfl rfl (hts _ w_79) hl ⟨by decide, by decide, by decide +kernel⟩ ⟨h1, h2⟩, hts _ w_1098, hts _ w_1099⟩
theorem cw_r_nodes {R : Room} {s : State} {args : Array Value} {own : String} {ix : Nat} (hts : ∀ w ∈ zt, w.before args s = true) (hl : (Cond.methodLink own ix y_r_nodes).before args s = true) (h1 : 1 ≤ R.frames) (h2 : 22 ≤ R.locals) : CallW R s args own "TreeShellModel" ix y_r_nodes b_r_nodes 3 (some .int) (.code y_r_nodes b_r_nodes 3 (some .int) :: zt) { frames := 0, cells := 0, slots := 0, locals := 0 } 0 0 0 := ⟨callB_of 0 hts (zgood w_1104) rfl rfl rfl (hts _ w_79) hl ⟨by decide, by decide, by decide +kernel⟩ ⟨h1, h2⟩, hts _ w_1102, hts _ w_1103⟩
theorem cw_r_depth {R : Room} {s : State} {args : Array Value} {own : String} {ix : Nat} (hts : ∀ w ∈ zt, w.before args s = true) (hl : (Cond.methodLink own ix y_r_depth).before args s = true) (h1 : 1 ≤ R.frames) (h2 : 22 ≤ R.locals) : CallW R s args own "TreeShellModel" ix y_r_depth b_r_depth 3 (some .int) (.code y_r_depth b_r_depth 3 (some .int) :: zt) { frames := 0, cells := 0, slots := 0, locals := 0 } 0 0 0 := ⟨callB_of 0 hts (zgood w_1109) rfl rfl rfl (hts _ w_79) hl ⟨by decide, by decide, by decide +kernel⟩ ⟨h1, h2⟩, hts _ w_1107, hts _ w_1108⟩
