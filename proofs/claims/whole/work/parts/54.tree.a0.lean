theorem d_cTree_isNameLetter_0 : decode b_cTree_isNameLetter 0 = .ok (.iload_n 0, 1) := by decide +kernel
theorem d_cTree_isNameLetter_1 : decode b_cTree_isNameLetter 1 = .ok (.bipush 97, 2) := by decide +kernel
theorem d_cTree_isNameLetter_3 : decode b_cTree_isNameLetter 3 = .ok (.if_icmp .lt 9, 3) := by decide +kernel
theorem d_cTree_isNameLetter_6 : decode b_cTree_isNameLetter 6 = .ok (.iload_n 0, 1) := by decide +kernel
theorem d_cTree_isNameLetter_7 : decode b_cTree_isNameLetter 7 = .ok (.bipush 122, 2) := by decide +kernel
theorem d_cTree_isNameLetter_9 : decode b_cTree_isNameLetter 9 = .ok (.if_icmp .le 27, 3) := by decide +kernel
theorem d_cTree_isNameLetter_12 : decode b_cTree_isNameLetter 12 = .ok (.iload_n 0, 1) := by decide +kernel
theorem d_cTree_isNameLetter_13 : decode b_cTree_isNameLetter 13 = .ok (.bipush 48, 2) := by decide +kernel
theorem d_cTree_isNameLetter_15 : decode b_cTree_isNameLetter 15 = .ok (.if_icmp .lt 9, 3) := by decide +kernel
theorem d_cTree_isNameLetter_18 : decode b_cTree_isNameLetter 18 = .ok (.iload_n 0, 1) := by decide +kernel
theorem d_cTree_isNameLetter_19 : decode b_cTree_isNameLetter 19 = .ok (.bipush 57, 2) := by decide +kernel
theorem d_cTree_isNameLetter_21 : decode b_cTree_isNameLetter 21 = .ok (.if_icmp .le 15, 3) := by decide +kernel
theorem d_cTree_isNameLetter_24 : decode b_cTree_isNameLetter 24 = .ok (.iload_n 0, 1) := by decide +kernel
theorem d_cTree_isNameLetter_25 : decode b_cTree_isNameLetter 25 = .ok (.bipush 95, 2) := by decide +kernel
theorem d_cTree_isNameLetter_27 : decode b_cTree_isNameLetter 27 = .ok (.if_icmp .eq 9, 3) := by decide +kernel
theorem d_cTree_isNameLetter_30 : decode b_cTree_isNameLetter 30 = .ok (.iload_n 0, 1) := by decide +kernel
theorem d_cTree_isNameLetter_31 : decode b_cTree_isNameLetter 31 = .ok (.bipush 46, 2) := by decide +kernel
theorem d_cTree_isNameLetter_33 : decode b_cTree_isNameLetter 33 = .ok (.if_icmp .ne 7, 3) := by decide +kernel
theorem d_cTree_isNameLetter_36 : decode b_cTree_isNameLetter 36 = .ok (.iconst 1, 1) := by decide +kernel
theorem d_cTree_isNameLetter_37 : decode b_cTree_isNameLetter 37 = .ok (.goto 4, 3) := by decide +kernel
theorem d_cTree_isNameLetter_40 : decode b_cTree_isNameLetter 40 = .ok (.iconst 0, 1) := by decide +kernel
theorem d_cTree_isNameLetter_41 : decode b_cTree_isNameLetter 41 = .ok (.ireturn, 1) := by decide +kernel
theorem d_cTree_followPiece_0 : decode b_cTree_followPiece 0 = .ok (.iload_n 3, 1) := by decide +kernel
theorem d_cTree_followPiece_1 : decode b_cTree_followPiece 1 = .ok (.ifCond .eq 16, 3) := by decide +kernel
theorem d_cTree_followPiece_4 : decode b_cTree_followPiece 4 = .ok (.iload_n 3, 1) := by decide +kernel
theorem d_cTree_followPiece_5 : decode b_cTree_followPiece 5 = .ok (.iconst 1, 1) := by decide +kernel
theorem d_cTree_followPiece_6 : decode b_cTree_followPiece 6 = .ok (.if_icmp .ne 12, 3) := by decide +kernel
theorem d_cTree_followPiece_9 : decode b_cTree_followPiece 9 = .ok (.lload_n 1, 1) := by decide +kernel
theorem d_cTree_followPiece_10 : decode b_cTree_followPiece 10 = .ok (.ldc2_w 76, 3) := by decide +kernel
theorem d_cTree_followPiece_13 : decode b_cTree_followPiece 13 = .ok (.lcmp, 1) := by decide +kernel
theorem d_cTree_followPiece_14 : decode b_cTree_followPiece 14 = .ok (.ifCond .ne 4, 3) := by decide +kernel
theorem d_cTree_followPiece_17 : decode b_cTree_followPiece 17 = .ok (.return_, 1) := by decide +kernel
theorem d_cTree_followPiece_18 : decode b_cTree_followPiece 18 = .ok (.aload_n 0, 1) := by decide +kernel
theorem d_cTree_followPiece_19 : decode b_cTree_followPiece 19 = .ok (.getfield 33, 3) := by decide +kernel
theorem d_cTree_followPiece_22 : decode b_cTree_followPiece 22 = .ok (.astore 5, 2) := by decide +kernel
theorem d_cTree_followPiece_24 : decode b_cTree_followPiece 24 = .ok (.aload_n 0, 1) := by decide +kernel
theorem d_cTree_followPiece_25 : decode b_cTree_followPiece 25 = .ok (.aconst_null, 1) := by decide +kernel
theorem d_cTree_followPiece_26 : decode b_cTree_followPiece 26 = .ok (.putfield 33, 3) := by decide +kernel
theorem d_cTree_followPiece_29 : decode b_cTree_followPiece 29 = .ok (.aload_n 0, 1) := by decide +kernel
theorem d_cTree_followPiece_30 : decode b_cTree_followPiece 30 = .ok (.aconst_null, 1) := by decide +kernel
theorem d_cTree_followPiece_31 : decode b_cTree_followPiece 31 = .ok (.putfield 36, 3) := by decide +kernel
theorem d_cTree_followPiece_34 : decode b_cTree_followPiece 34 = .ok (.aload 5, 2) := by decide +kernel
theorem d_cTree_followPiece_36 : decode b_cTree_followPiece 36 = .ok (.ifnull 11, 3) := by decide +kernel
theorem d_cTree_followPiece_39 : decode b_cTree_followPiece 39 = .ok (.aload 5, 2) := by decide +kernel
theorem d_cTree_followPiece_41 : decode b_cTree_followPiece 41 = .ok (.getfield 78, 3) := by decide +kernel
theorem d_cTree_followPiece_44 : decode b_cTree_followPiece 44 = .ok (.ifnull 4, 3) := by decide +kernel
theorem d_cTree_followPiece_47 : decode b_cTree_followPiece 47 = .ok (.return_, 1) := by decide +kernel
theorem d_cTree_followPiece_48 : decode b_cTree_followPiece 48 = .ok (.iload_n 3, 1) := by decide +kernel
theorem d_cTree_followPiece_49 : decode b_cTree_followPiece 49 = .ok (.iconst 2, 1) := by decide +kernel
theorem d_cTree_followPiece_50 : decode b_cTree_followPiece 50 = .ok (.if_icmp .ne 36, 3) := by decide +kernel
theorem d_cTree_followPiece_53 : decode b_cTree_followPiece 53 = .ok (.lload_n 1, 1) := by decide +kernel
theorem d_cTree_followPiece_54 : decode b_cTree_followPiece 54 = .ok (.ldc2_w 81, 3) := by decide +kernel
theorem d_cTree_followPiece_57 : decode b_cTree_followPiece 57 = .ok (.lcmp, 1) := by decide +kernel
theorem d_cTree_followPiece_58 : decode b_cTree_followPiece 58 = .ok (.ifCond .ne 28, 3) := by decide +kernel
theorem d_cTree_followPiece_61 : decode b_cTree_followPiece 61 = .ok (.aload_n 0, 1) := by decide +kernel
theorem d_cTree_followPiece_62 : decode b_cTree_followPiece 62 = .ok (.aload 5, 2) := by decide +kernel
theorem d_cTree_followPiece_64 : decode b_cTree_followPiece 64 = .ok (.getfield 83, 3) := by decide +kernel
theorem d_cTree_followPiece_67 : decode b_cTree_followPiece 67 = .ok (.ifnonnull 8, 3) := by decide +kernel
theorem d_cTree_followPiece_70 : decode b_cTree_followPiece 70 = .ok (.aload 5, 2) := by decide +kernel
theorem d_cTree_followPiece_72 : decode b_cTree_followPiece 72 = .ok (.goto 8, 3) := by decide +kernel
theorem d_cTree_followPiece_75 : decode b_cTree_followPiece 75 = .ok (.aload 5, 2) := by decide +kernel
theorem d_cTree_followPiece_77 : decode b_cTree_followPiece 77 = .ok (.getfield 83, 3) := by decide +kernel
theorem d_cTree_followPiece_80 : decode b_cTree_followPiece 80 = .ok (.putfield 33, 3) := by decide +kernel
theorem d_cTree_followPiece_83 : decode b_cTree_followPiece 83 = .ok (.goto 94, 3) := by decide +kernel
theorem d_cTree_followPiece_86 : decode b_cTree_followPiece 86 = .ok (.iload_n 3, 1) := by decide +kernel
theorem d_cTree_followPiece_87 : decode b_cTree_followPiece 87 = .ok (.bipush 7, 2) := by decide +kernel
theorem d_cTree_followPiece_89 : decode b_cTree_followPiece 89 = .ok (.if_icmp .gt 88, 3) := by decide +kernel
theorem d_cTree_followPiece_92 : decode b_cTree_followPiece 92 = .ok (.iload 4, 2) := by decide +kernel
theorem d_cTree_followPiece_94 : decode b_cTree_followPiece 94 = .ok (.ifCond .eq 83, 3) := by decide +kernel
theorem d_cTree_followPiece_97 : decode b_cTree_followPiece 97 = .ok (.aload_n 0, 1) := by decide +kernel
theorem d_cTree_followPiece_98 : decode b_cTree_followPiece 98 = .ok (.lload_n 1, 1) := by decide +kernel
theorem d_cTree_followPiece_99 : decode b_cTree_followPiece 99 = .ok (.bipush 8, 2) := by decide +kernel
theorem d_cTree_followPiece_101 : decode b_cTree_followPiece 101 = .ok (.bipush 7, 2) := by decide +kernel
theorem d_cTree_followPiece_103 : decode b_cTree_followPiece 103 = .ok (.iload_n 3, 1) := by decide +kernel
theorem d_cTree_followPiece_104 : decode b_cTree_followPiece 104 = .ok (.isub, 1) := by decide +kernel
theorem d_cTree_followPiece_105 : decode b_cTree_followPiece 105 = .ok (.imul, 1) := by decide +kernel
theorem d_cTree_followPiece_106 : decode b_cTree_followPiece 106 = .ok (.lshl, 1) := by decide +kernel
theorem d_cTree_followPiece_107 : decode b_cTree_followPiece 107 = .ok (.putfield 39, 3) := by decide +kernel
theorem d_cTree_followPiece_110 : decode b_cTree_followPiece 110 = .ok (.aload_n 0, 1) := by decide +kernel
theorem d_cTree_followPiece_111 : decode b_cTree_followPiece 111 = .ok (.getfield 20, 3) := by decide +kernel
theorem d_cTree_followPiece_114 : decode b_cTree_followPiece 114 = .ok (.astore 6, 2) := by decide +kernel
theorem d_cTree_followPiece_116 : decode b_cTree_followPiece 116 = .ok (.aload 6, 2) := by decide +kernel
theorem d_cTree_followPiece_118 : decode b_cTree_followPiece 118 = .ok (.ifnull 42, 3) := by decide +kernel
theorem d_cTree_followPiece_121 : decode b_cTree_followPiece 121 = .ok (.aload 6, 2) := by decide +kernel
theorem d_cTree_followPiece_123 : decode b_cTree_followPiece 123 = .ok (.getfield 83, 3) := by decide +kernel
theorem d_cTree_followPiece_126 : decode b_cTree_followPiece 126 = .ok (.aload 5, 2) := by decide +kernel
theorem d_cTree_followPiece_128 : decode b_cTree_followPiece 128 = .ok (.if_acmp .ne 22, 3) := by decide +kernel
theorem d_cTree_followPiece_131 : decode b_cTree_followPiece 131 = .ok (.aload 6, 2) := by decide +kernel
theorem d_cTree_followPiece_133 : decode b_cTree_followPiece 133 = .ok (.getfield 86, 3) := by decide +kernel
theorem d_cTree_followPiece_136 : decode b_cTree_followPiece 136 = .ok (.aload_n 0, 1) := by decide +kernel
theorem d_cTree_followPiece_137 : decode b_cTree_followPiece 137 = .ok (.getfield 39, 3) := by decide +kernel
theorem d_cTree_followPiece_140 : decode b_cTree_followPiece 140 = .ok (.lcmp, 1) := by decide +kernel
theorem d_cTree_followPiece_141 : decode b_cTree_followPiece 141 = .ok (.ifCond .ne 9, 3) := by decide +kernel
theorem d_cTree_followPiece_144 : decode b_cTree_followPiece 144 = .ok (.aload_n 0, 1) := by decide +kernel
theorem d_cTree_followPiece_145 : decode b_cTree_followPiece 145 = .ok (.aload 6, 2) := by decide +kernel
theorem d_cTree_followPiece_147 : decode b_cTree_followPiece 147 = .ok (.putfield 33, 3) := by decide +kernel
theorem d_cTree_followPiece_150 : decode b_cTree_followPiece 150 = .ok (.aload 6, 2) := by decide +kernel
theorem d_cTree_followPiece_152 : decode b_cTree_followPiece 152 = .ok (.getfield 89, 3) := by decide +kernel
theorem d_cTree_followPiece_155 : decode b_cTree_followPiece 155 = .ok (.astore 6, 2) := by decide +kernel
theorem d_cTree_followPiece_157 : decode b_cTree_followPiece 157 = .ok (.goto (-41), 3) := by decide +kernel
theorem d_cTree_followPiece_160 : decode b_cTree_followPiece 160 = .ok (.aload_n 0, 1) := by decide +kernel
theorem d_cTree_followPiece_161 : decode b_cTree_followPiece 161 = .ok (.aload_n 0, 1) := by decide +kernel
theorem d_cTree_followPiece_162 : decode b_cTree_followPiece 162 = .ok (.getfield 33, 3) := by decide +kernel
theorem d_cTree_followPiece_165 : decode b_cTree_followPiece 165 = .ok (.ifnonnull 8, 3) := by decide +kernel
theorem d_cTree_followPiece_168 : decode b_cTree_followPiece 168 = .ok (.aload 5, 2) := by decide +kernel
theorem d_cTree_followPiece_170 : decode b_cTree_followPiece 170 = .ok (.goto 4, 3) := by decide +kernel
theorem d_cTree_followPiece_173 : decode b_cTree_followPiece 173 = .ok (.aconst_null, 1) := by decide +kernel
theorem d_cTree_followPiece_174 : decode b_cTree_followPiece 174 = .ok (.putfield 36, 3) := by decide +kernel
theorem d_cTree_followPiece_177 : decode b_cTree_followPiece 177 = .ok (.return_, 1) := by decide +kernel
theorem d_cTree_follow_0 : decode b_cTree_follow 0 = .ok (.aload_n 1, 1) := by decide +kernel
theorem d_cTree_follow_1 : decode b_cTree_follow 1 = .ok (.getfield 49, 3) := by decide +kernel
theorem d_cTree_follow_4 : decode b_cTree_follow 4 = .ok (.getfield 55, 3) := by decide +kernel
theorem d_cTree_follow_7 : decode b_cTree_follow 7 = .ok (.astore_n 3, 1) := by decide +kernel
theorem d_cTree_follow_8 : decode b_cTree_follow 8 = .ok (.aload_n 1, 1) := by decide +kernel
theorem d_cTree_follow_9 : decode b_cTree_follow 9 = .ok (.iload_n 2, 1) := by decide +kernel
theorem d_cTree_follow_10 : decode b_cTree_follow 10 = .ok (.invokevirtual 61, 3) := by decide +kernel
theorem d_cTree_follow_13 : decode b_cTree_follow 13 = .ok (.istore 4, 2) := by decide +kernel
theorem d_cTree_follow_15 : decode b_cTree_follow 15 = .ok (.aload_n 1, 1) := by decide +kernel
theorem d_cTree_follow_16 : decode b_cTree_follow 16 = .ok (.iload_n 2, 1) := by decide +kernel
theorem d_cTree_follow_17 : decode b_cTree_follow 17 = .ok (.invokevirtual 65, 3) := by decide +kernel
theorem d_cTree_follow_20 : decode b_cTree_follow 20 = .ok (.istore 5, 2) := by decide +kernel
theorem d_cTree_follow_22 : decode b_cTree_follow 22 = .ok (.aload_n 0, 1) := by decide +kernel
theorem d_cTree_follow_23 : decode b_cTree_follow 23 = .ok (.iload 4, 2) := by decide +kernel
theorem d_cTree_follow_25 : decode b_cTree_follow 25 = .ok (.iload 5, 2) := by decide +kernel
theorem d_cTree_follow_27 : decode b_cTree_follow 27 = .ok (.if_icmp .ge 19, 3) := by decide +kernel
theorem d_cTree_follow_30 : decode b_cTree_follow 30 = .ok (.aload_n 3, 1) := by decide +kernel
theorem d_cTree_follow_31 : decode b_cTree_follow 31 = .ok (.iload 4, 2) := by decide +kernel
theorem d_cTree_follow_33 : decode b_cTree_follow 33 = .ok (.caload, 1) := by decide +kernel
theorem d_cTree_follow_34 : decode b_cTree_follow 34 = .ok (.bipush 47, 2) := by decide +kernel
theorem d_cTree_follow_36 : decode b_cTree_follow 36 = .ok (.if_icmp .ne 10, 3) := by decide +kernel
theorem d_cTree_follow_39 : decode b_cTree_follow 39 = .ok (.aload_n 0, 1) := by decide +kernel
theorem d_cTree_follow_40 : decode b_cTree_follow 40 = .ok (.getfield 14, 3) := by decide +kernel
theorem d_cTree_follow_43 : decode b_cTree_follow 43 = .ok (.goto 7, 3) := by decide +kernel
theorem d_cTree_follow_46 : decode b_cTree_follow 46 = .ok (.aload_n 0, 1) := by decide +kernel
theorem d_cTree_follow_47 : decode b_cTree_follow 47 = .ok (.getfield 23, 3) := by decide +kernel
theorem d_cTree_follow_50 : decode b_cTree_follow 50 = .ok (.putfield 33, 3) := by decide +kernel
theorem d_cTree_follow_53 : decode b_cTree_follow 53 = .ok (.aload_n 0, 1) := by decide +kernel
theorem d_cTree_follow_54 : decode b_cTree_follow 54 = .ok (.aconst_null, 1) := by decide +kernel
theorem d_cTree_follow_55 : decode b_cTree_follow 55 = .ok (.putfield 36, 3) := by decide +kernel
theorem d_cTree_follow_58 : decode b_cTree_follow 58 = .ok (.lconst 0, 1) := by decide +kernel
theorem d_cTree_follow_59 : decode b_cTree_follow 59 = .ok (.lstore 6, 2) := by decide +kernel
theorem d_cTree_follow_61 : decode b_cTree_follow 61 = .ok (.iconst 0, 1) := by decide +kernel
theorem d_cTree_follow_62 : decode b_cTree_follow 62 = .ok (.istore 8, 2) := by decide +kernel
theorem d_cTree_follow_64 : decode b_cTree_follow 64 = .ok (.iconst 1, 1) := by decide +kernel
theorem d_cTree_follow_65 : decode b_cTree_follow 65 = .ok (.istore 9, 2) := by decide +kernel
theorem d_cTree_follow_67 : decode b_cTree_follow 67 = .ok (.iload 4, 2) := by decide +kernel
theorem d_cTree_follow_69 : decode b_cTree_follow 69 = .ok (.istore 10, 2) := by decide +kernel
theorem d_cTree_follow_71 : decode b_cTree_follow 71 = .ok (.iload 10, 2) := by decide +kernel
theorem d_cTree_follow_73 : decode b_cTree_follow 73 = .ok (.iload 5, 2) := by decide +kernel
theorem d_cTree_follow_75 : decode b_cTree_follow 75 = .ok (.if_icmp .gt 85, 3) := by decide +kernel
theorem d_cTree_follow_78 : decode b_cTree_follow 78 = .ok (.iload 10, 2) := by decide +kernel
theorem d_cTree_follow_80 : decode b_cTree_follow 80 = .ok (.iload 5, 2) := by decide +kernel
theorem d_cTree_follow_82 : decode b_cTree_follow 82 = .ok (.if_icmp .ge 53, 3) := by decide +kernel
theorem d_cTree_follow_85 : decode b_cTree_follow 85 = .ok (.aload_n 3, 1) := by decide +kernel
theorem d_cTree_follow_86 : decode b_cTree_follow 86 = .ok (.iload 10, 2) := by decide +kernel
theorem d_cTree_follow_88 : decode b_cTree_follow 88 = .ok (.caload, 1) := by decide +kernel
theorem d_cTree_follow_89 : decode b_cTree_follow 89 = .ok (.bipush 47, 2) := by decide +kernel
theorem d_cTree_follow_91 : decode b_cTree_follow 91 = .ok (.if_icmp .eq 44, 3) := by decide +kernel
theorem d_cTree_follow_94 : decode b_cTree_follow 94 = .ok (.lload 6, 2) := by decide +kernel
theorem d_cTree_follow_96 : decode b_cTree_follow 96 = .ok (.bipush 8, 2) := by decide +kernel
theorem d_cTree_follow_98 : decode b_cTree_follow 98 = .ok (.lshl, 1) := by decide +kernel
theorem d_cTree_follow_99 : decode b_cTree_follow 99 = .ok (.aload_n 3, 1) := by decide +kernel
theorem d_cTree_follow_100 : decode b_cTree_follow 100 = .ok (.iload 10, 2) := by decide +kernel
theorem d_cTree_follow_102 : decode b_cTree_follow 102 = .ok (.caload, 1) := by decide +kernel
theorem d_cTree_follow_103 : decode b_cTree_follow 103 = .ok (.i2l, 1) := by decide +kernel
theorem d_cTree_follow_104 : decode b_cTree_follow 104 = .ok (.lor, 1) := by decide +kernel
theorem d_cTree_follow_105 : decode b_cTree_follow 105 = .ok (.lstore 6, 2) := by decide +kernel
theorem d_cTree_follow_107 : decode b_cTree_follow 107 = .ok (.iinc 8 1, 3) := by decide +kernel
theorem d_cTree_follow_110 : decode b_cTree_follow 110 = .ok (.iload 9, 2) := by decide +kernel
theorem d_cTree_follow_112 : decode b_cTree_follow 112 = .ok (.ifCond .eq 17, 3) := by decide +kernel
theorem d_cTree_follow_115 : decode b_cTree_follow 115 = .ok (.aload_n 3, 1) := by decide +kernel
theorem d_cTree_follow_116 : decode b_cTree_follow 116 = .ok (.iload 10, 2) := by decide +kernel
theorem d_cTree_follow_118 : decode b_cTree_follow 118 = .ok (.caload, 1) := by decide +kernel
theorem d_cTree_follow_119 : decode b_cTree_follow 119 = .ok (.invokestatic 68, 3) := by decide +kernel
theorem d_cTree_follow_122 : decode b_cTree_follow 122 = .ok (.ifCond .eq 7, 3) := by decide +kernel
theorem d_cTree_follow_125 : decode b_cTree_follow 125 = .ok (.iconst 1, 1) := by decide +kernel
theorem d_cTree_follow_126 : decode b_cTree_follow 126 = .ok (.goto 4, 3) := by decide +kernel
theorem d_cTree_follow_129 : decode b_cTree_follow 129 = .ok (.iconst 0, 1) := by decide +kernel
theorem d_cTree_follow_130 : decode b_cTree_follow 130 = .ok (.istore 9, 2) := by decide +kernel
theorem d_cTree_follow_132 : decode b_cTree_follow 132 = .ok (.goto 22, 3) := by decide +kernel
theorem d_cTree_follow_135 : decode b_cTree_follow 135 = .ok (.aload_n 0, 1) := by decide +kernel
theorem d_cTree_follow_136 : decode b_cTree_follow 136 = .ok (.lload 6, 2) := by decide +kernel
theorem d_cTree_follow_138 : decode b_cTree_follow 138 = .ok (.iload 8, 2) := by decide +kernel
theorem d_cTree_follow_140 : decode b_cTree_follow 140 = .ok (.iload 9, 2) := by decide +kernel
theorem d_cTree_follow_142 : decode b_cTree_follow 142 = .ok (.invokevirtual 72, 3) := by decide +kernel
theorem d_cTree_follow_145 : decode b_cTree_follow 145 = .ok (.lconst 0, 1) := by decide +kernel
theorem d_cTree_follow_146 : decode b_cTree_follow 146 = .ok (.lstore 6, 2) := by decide +kernel
theorem d_cTree_follow_148 : decode b_cTree_follow 148 = .ok (.iconst 0, 1) := by decide +kernel
theorem d_cTree_follow_149 : decode b_cTree_follow 149 = .ok (.istore 8, 2) := by decide +kernel
theorem d_cTree_follow_151 : decode b_cTree_follow 151 = .ok (.iconst 1, 1) := by decide +kernel
theorem d_cTree_follow_152 : decode b_cTree_follow 152 = .ok (.istore 9, 2) := by decide +kernel
theorem d_cTree_follow_154 : decode b_cTree_follow 154 = .ok (.iinc 10 1, 3) := by decide +kernel
theorem d_cTree_follow_157 : decode b_cTree_follow 157 = .ok (.goto (-86), 3) := by decide +kernel
theorem d_cTree_follow_160 : decode b_cTree_follow 160 = .ok (.aload_n 0, 1) := by decide +kernel
theorem d_cTree_follow_161 : decode b_cTree_follow 161 = .ok (.getfield 33, 3) := by decide +kernel
theorem d_cTree_follow_164 : decode b_cTree_follow 164 = .ok (.areturn, 1) := by decide +kernel
theorem d_cTree_empty_0 : decode b_cTree_empty 0 = .ok (.aload_n 0, 1) := by decide +kernel
theorem d_cTree_empty_1 : decode b_cTree_empty 1 = .ok (.dup, 1) := by decide +kernel
theorem d_cTree_empty_2 : decode b_cTree_empty 2 = .ok (.getfield 30, 3) := by decide +kernel
theorem d_cTree_empty_5 : decode b_cTree_empty 5 = .ok (.aload_n 1, 1) := by decide +kernel
theorem d_cTree_empty_6 : decode b_cTree_empty 6 = .ok (.getfield 95, 3) := by decide +kernel
theorem d_cTree_empty_9 : decode b_cTree_empty 9 = .ok (.isub, 1) := by decide +kernel
theorem d_cTree_empty_10 : decode b_cTree_empty 10 = .ok (.putfield 30, 3) := by decide +kernel
theorem d_cTree_empty_13 : decode b_cTree_empty 13 = .ok (.aload_n 1, 1) := by decide +kernel
theorem d_cTree_empty_14 : decode b_cTree_empty 14 = .ok (.invokevirtual 98, 3) := by decide +kernel
theorem d_cTree_empty_17 : decode b_cTree_empty 17 = .ok (.return_, 1) := by decide +kernel
theorem d_cTree_nextIn_0 : decode b_cTree_nextIn 0 = .ok (.aconst_null, 1) := by decide +kernel
theorem d_cTree_nextIn_1 : decode b_cTree_nextIn 1 = .ok (.astore 4, 2) := by decide +kernel
theorem d_cTree_nextIn_3 : decode b_cTree_nextIn 3 = .ok (.aload_n 0, 1) := by decide +kernel
theorem d_cTree_nextIn_4 : decode b_cTree_nextIn 4 = .ok (.getfield 20, 3) := by decide +kernel
theorem d_cTree_nextIn_7 : decode b_cTree_nextIn 7 = .ok (.astore 5, 2) := by decide +kernel
theorem d_cTree_nextIn_9 : decode b_cTree_nextIn 9 = .ok (.aload 5, 2) := by decide +kernel
theorem d_cTree_nextIn_11 : decode b_cTree_nextIn 11 = .ok (.ifnull 55, 3) := by decide +kernel
theorem d_cTree_nextIn_14 : decode b_cTree_nextIn 14 = .ok (.aload 5, 2) := by decide +kernel
theorem d_cTree_nextIn_16 : decode b_cTree_nextIn 16 = .ok (.getfield 83, 3) := by decide +kernel
theorem d_cTree_nextIn_19 : decode b_cTree_nextIn 19 = .ok (.aload_n 1, 1) := by decide +kernel
theorem d_cTree_nextIn_20 : decode b_cTree_nextIn 20 = .ok (.if_acmp .ne 36, 3) := by decide +kernel
theorem d_cTree_nextIn_23 : decode b_cTree_nextIn 23 = .ok (.aload 5, 2) := by decide +kernel
theorem d_cTree_nextIn_25 : decode b_cTree_nextIn 25 = .ok (.getfield 86, 3) := by decide +kernel
theorem d_cTree_nextIn_28 : decode b_cTree_nextIn 28 = .ok (.lload_n 2, 1) := by decide +kernel
theorem d_cTree_nextIn_29 : decode b_cTree_nextIn 29 = .ok (.lcmp, 1) := by decide +kernel
theorem d_cTree_nextIn_30 : decode b_cTree_nextIn 30 = .ok (.ifCond .le 26, 3) := by decide +kernel
theorem d_cTree_nextIn_33 : decode b_cTree_nextIn 33 = .ok (.aload 4, 2) := by decide +kernel
theorem d_cTree_nextIn_35 : decode b_cTree_nextIn 35 = .ok (.ifnull 17, 3) := by decide +kernel
theorem d_cTree_nextIn_38 : decode b_cTree_nextIn 38 = .ok (.aload 5, 2) := by decide +kernel
theorem d_cTree_nextIn_40 : decode b_cTree_nextIn 40 = .ok (.getfield 86, 3) := by decide +kernel
theorem d_cTree_nextIn_43 : decode b_cTree_nextIn 43 = .ok (.aload 4, 2) := by decide +kernel
theorem d_cTree_nextIn_45 : decode b_cTree_nextIn 45 = .ok (.getfield 86, 3) := by decide +kernel
theorem d_cTree_nextIn_48 : decode b_cTree_nextIn 48 = .ok (.lcmp, 1) := by decide +kernel
theorem d_cTree_nextIn_49 : decode b_cTree_nextIn 49 = .ok (.ifCond .ge 7, 3) := by decide +kernel
theorem d_cTree_nextIn_52 : decode b_cTree_nextIn 52 = .ok (.aload 5, 2) := by decide +kernel
theorem d_cTree_nextIn_54 : decode b_cTree_nextIn 54 = .ok (.astore 4, 2) := by decide +kernel
theorem d_cTree_nextIn_56 : decode b_cTree_nextIn 56 = .ok (.aload 5, 2) := by decide +kernel
theorem d_cTree_nextIn_58 : decode b_cTree_nextIn 58 = .ok (.getfield 89, 3) := by decide +kernel
theorem d_cTree_nextIn_61 : decode b_cTree_nextIn 61 = .ok (.astore 5, 2) := by decide +kernel
theorem d_cTree_nextIn_63 : decode b_cTree_nextIn 63 = .ok (.goto (-54), 3) := by decide +kernel
theorem d_cTree_nextIn_66 : decode b_cTree_nextIn 66 = .ok (.aload 4, 2) := by decide +kernel
theorem d_cTree_nextIn_68 : decode b_cTree_nextIn 68 = .ok (.areturn, 1) := by decide +kernel
theorem d_cTree_append_0 : decode b_cTree_append 0 = .ok (.aload_n 2, 1) := by decide +kernel
theorem d_cTree_append_1 : decode b_cTree_append 1 = .ok (.getfield 95, 3) := by decide +kernel
theorem d_cTree_append_4 : decode b_cTree_append 4 = .ok (.aload_n 0, 1) := by decide +kernel
theorem d_cTree_append_5 : decode b_cTree_append 5 = .ok (.getfield 46, 3) := by decide +kernel
theorem d_cTree_append_8 : decode b_cTree_append 8 = .ok (.aload_n 0, 1) := by decide +kernel
theorem d_cTree_append_9 : decode b_cTree_append 9 = .ok (.getfield 30, 3) := by decide +kernel
theorem d_cTree_append_12 : decode b_cTree_append 12 = .ok (.isub, 1) := by decide +kernel
theorem d_cTree_append_13 : decode b_cTree_append 13 = .ok (.if_icmp .gt 11, 3) := by decide +kernel
theorem d_cTree_append_16 : decode b_cTree_append 16 = .ok (.aload_n 1, 1) := by decide +kernel
theorem d_cTree_append_17 : decode b_cTree_append 17 = .ok (.aload_n 2, 1) := by decide +kernel
theorem d_cTree_append_18 : decode b_cTree_append 18 = .ok (.invokevirtual 101, 3) := by decide +kernel
theorem d_cTree_append_21 : decode b_cTree_append 21 = .ok (.ifCond .ne 5, 3) := by decide +kernel
theorem d_cTree_append_24 : decode b_cTree_append 24 = .ok (.iconst 0, 1) := by decide +kernel
theorem d_cTree_append_25 : decode b_cTree_append 25 = .ok (.ireturn, 1) := by decide +kernel
theorem d_cTree_append_26 : decode b_cTree_append 26 = .ok (.aload_n 0, 1) := by decide +kernel
theorem d_cTree_append_27 : decode b_cTree_append 27 = .ok (.dup, 1) := by decide +kernel
theorem d_cTree_append_28 : decode b_cTree_append 28 = .ok (.getfield 30, 3) := by decide +kernel
theorem d_cTree_append_31 : decode b_cTree_append 31 = .ok (.aload_n 2, 1) := by decide +kernel
theorem d_cTree_append_32 : decode b_cTree_append 32 = .ok (.getfield 95, 3) := by decide +kernel
theorem d_cTree_append_35 : decode b_cTree_append 35 = .ok (.iadd, 1) := by decide +kernel
theorem d_cTree_append_36 : decode b_cTree_append 36 = .ok (.putfield 30, 3) := by decide +kernel
theorem d_cTree_append_39 : decode b_cTree_append 39 = .ok (.iconst 1, 1) := by decide +kernel
theorem d_cTree_append_40 : decode b_cTree_append 40 = .ok (.ireturn, 1) := by decide +kernel
theorem cw_cTree_isNameLetter {R : Room} {s : State} {args : Array Value} {ix : Nat} (hts : ∀ w ∈ zt, w.before args s = true) (hl : (Cond.methodLink "TreeShell$Tree" ix y_cTree_isNameLetter).before args s = true) (h1 : 1 ≤ R.frames) (h2 : 20 ≤ R.locals) : CallB R s args "TreeShell$Tree" ix y_cTree_isNameLetter b_cTree_isNameLetter 1 (some .boolean) (.code y_cTree_isNameLetter b_cTree_isNameLetter 1 (some .boolean) :: zt) { frames := 0, cells := 0, slots := 0, locals := 0 } 0 0 1 ∧ (Cond.static y_cTree_isNameLetter).before args s = true := ⟨callB_of 1 hts (zgood w_517) rfl rfl rfl (hts _ w_72) hl ⟨by decide, by decide, by decide +kernel⟩ ⟨h1, h2⟩, hts _ w_516⟩
theorem cw_cTree_followPiece {R : Room} {s : State} {args : Array Value} {own : String} {ix : Nat} (hts : ∀ w ∈ zt, w.before args s = true) (hl : (Cond.methodLink own ix y_cTree_followPiece).before args s = true) (h1 : 1 ≤ R.frames) (h2 : 26 ≤ R.locals) : CallW R s args own "TreeShell$Tree" ix y_cTree_followPiece b_cTree_followPiece 7 none (.code y_cTree_followPiece b_cTree_followPiece 7 none :: zt) { frames := 0, cells := 0, slots := 0, locals := 0 } 0 0 3 := ⟨callB_of 3 hts (zgood w_521) rfl rfl rfl (hts _ w_72) hl ⟨by decide, by decide, by decide +kernel⟩ ⟨h1, h2⟩, hts _ w_520, hts _ w_13⟩
theorem cw_cTree_follow {R : Room} {s : State} {args : Array Value} {own : String} {ix : Nat} (hts : ∀ w ∈ zt, w.before args s = true) (hl : (Cond.methodLink own ix y_cTree_follow).before args s = true) (h1 : 2 ≤ R.frames) (h2 : 56 ≤ R.locals) : CallW R s args own "TreeShell$Tree" ix y_cTree_follow b_cTree_follow 11 (some (.object "TreeShell$Node")) (.code y_cTree_follow b_cTree_follow 11 (some (.object "TreeShell$Node")) :: zt) { frames := 1, cells := 0, slots := 0, locals := 26 } 0 0 2 := ⟨callB_of 2 hts (zgood w_506) rfl rfl rfl (hts _ w_72) hl ⟨by decide, by decide, by decide +kernel⟩ ⟨h1, h2⟩, hts _ w_504, hts _ w_505⟩
theorem cw_cTree_empty {R : Room} {s : State} {args : Array Value} {own : String} {ix : Nat} (hts : ∀ w ∈ zt, w.before args s = true) (hl : (Cond.methodLink own ix y_cTree_empty).before args s = true) (h1 : 2 ≤ R.frames) (h2 : 41 ≤ R.locals) : CallW R s args own "TreeShell$Tree" ix y_cTree_empty b_cTree_empty 2 none (.code y_cTree_empty b_cTree_empty 2 none :: zt) { frames := 1, cells := 0, slots := 0, locals := 20 } 0 0 1 := ⟨callB_of 1 hts (zgood w_552) rfl rfl rfl (hts _ w_72) hl ⟨by decide, by decide, by decide +kernel⟩ ⟨h1, h2⟩, hts _ w_550, hts _ w_551⟩
theorem cw_cTree_nextIn {R : Room} {s : State} {args : Array Value} {own : String} {ix : Nat} (hts : ∀ w ∈ zt, w.before args s = true) (hl : (Cond.methodLink own ix y_cTree_nextIn).before args s = true) (h1 : 1 ≤ R.frames) (h2 : 25 ≤ R.locals) : CallW R s args own "TreeShell$Tree" ix y_cTree_nextIn b_cTree_nextIn 6 (some (.object "TreeShell$Node")) (.code y_cTree_nextIn b_cTree_nextIn 6 (some (.object "TreeShell$Node")) :: zt) { frames := 0, cells := 0, slots := 0, locals := 0 } 0 0 2 := ⟨callB_of 2 hts (zgood w_673) rfl rfl rfl (hts _ w_72) hl ⟨by decide, by decide, by decide +kernel⟩ ⟨h1, h2⟩, hts _ w_671, hts _ w_672⟩
theorem cw_cTree_append {R : Room} {s : State} {args : Array Value} {own : String} {ix : Nat} (hts : ∀ w ∈ zt, w.before args s = true) (hl : (Cond.methodLink own ix y_cTree_append).before args s = true) (h1 : 8 ≤ R.frames) (h2 : 212 ≤ R.locals) : CallW R s args own "TreeShell$Tree" ix y_cTree_append b_cTree_append 3 (some .boolean) (.code y_cTree_append b_cTree_append 3 (some .boolean) :: zt) { frames := 7, cells := 0, slots := 0, locals := 190 } 0 0 2 := ⟨callB_of 2 hts (zgood w_688) rfl rfl rfl (hts _ w_72) hl ⟨by decide, by decide, by decide +kernel⟩ ⟨h1, h2⟩, hts _ w_686, hts _ w_687⟩
