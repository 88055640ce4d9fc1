theorem d_r_type_0 : decode b_r_type 0 = .ok (.aload_n 0, 1) := by decide +kernel
theorem d_r_type_1 : decode b_r_type 1 = .ok (.getfield 109, 3) := by decide +kernel
theorem d_r_type_4 : decode b_r_type 4 = .ok (.istore_n 3, 1) := by decide +kernel
theorem d_r_type_5 : decode b_r_type 5 = .ok (.iconst 0, 1) := by decide +kernel
theorem d_r_type_6 : decode b_r_type 6 = .ok (.istore 4, 2) := by decide +kernel
theorem d_r_type_8 : decode b_r_type 8 = .ok (.iload 4, 2) := by decide +kernel
theorem d_r_type_10 : decode b_r_type 10 = .ok (.bipush 8, 2) := by decide +kernel
theorem d_r_type_12 : decode b_r_type 12 = .ok (.if_icmp .ge 69, 3) := by decide +kernel
theorem d_r_type_15 : decode b_r_type 15 = .ok (.lload_n 1, 1) := by decide +kernel
theorem d_r_type_16 : decode b_r_type 16 = .ok (.bipush 56, 2) := by decide +kernel
theorem d_r_type_18 : decode b_r_type 18 = .ok (.bipush 8, 2) := by decide +kernel
theorem d_r_type_20 : decode b_r_type 20 = .ok (.iload 4, 2) := by decide +kernel
theorem d_r_type_22 : decode b_r_type 22 = .ok (.imul, 1) := by decide +kernel
theorem d_r_type_23 : decode b_r_type 23 = .ok (.isub, 1) := by decide +kernel
theorem d_r_type_24 : decode b_r_type 24 = .ok (.lushr, 1) := by decide +kernel
theorem d_r_type_25 : decode b_r_type 25 = .ok (.l2i, 1) := by decide +kernel
theorem d_r_type_26 : decode b_r_type 26 = .ok (.sipush 255, 3) := by decide +kernel
theorem d_r_type_29 : decode b_r_type 29 = .ok (.iand, 1) := by decide +kernel
theorem d_r_type_30 : decode b_r_type 30 = .ok (.istore 5, 2) := by decide +kernel
theorem d_r_type_32 : decode b_r_type 32 = .ok (.iload 5, 2) := by decide +kernel
theorem d_r_type_34 : decode b_r_type 34 = .ok (.ifCond .eq 25, 3) := by decide +kernel
theorem d_r_type_37 : decode b_r_type 37 = .ok (.iload 5, 2) := by decide +kernel
theorem d_r_type_39 : decode b_r_type 39 = .ok (.bipush 32, 2) := by decide +kernel
theorem d_r_type_41 : decode b_r_type 41 = .ok (.if_icmp .lt 16, 3) := by decide +kernel
theorem d_r_type_44 : decode b_r_type 44 = .ok (.iload 5, 2) := by decide +kernel
theorem d_r_type_46 : decode b_r_type 46 = .ok (.bipush 126, 2) := by decide +kernel
theorem d_r_type_48 : decode b_r_type 48 = .ok (.if_icmp .gt 9, 3) := by decide +kernel
theorem d_r_type_51 : decode b_r_type 51 = .ok (.iload_n 3, 1) := by decide +kernel
theorem d_r_type_52 : decode b_r_type 52 = .ok (.bipush 64, 2) := by decide +kernel
theorem d_r_type_54 : decode b_r_type 54 = .ok (.if_icmp .ne 5, 3) := by decide +kernel
theorem d_r_type_57 : decode b_r_type 57 = .ok (.iconst 0, 1) := by decide +kernel
theorem d_r_type_58 : decode b_r_type 58 = .ok (.ireturn, 1) := by decide +kernel
theorem d_r_type_59 : decode b_r_type 59 = .ok (.iload 5, 2) := by decide +kernel
theorem d_r_type_61 : decode b_r_type 61 = .ok (.ifCond .eq 14, 3) := by decide +kernel
theorem d_r_type_64 : decode b_r_type 64 = .ok (.aload_n 0, 1) := by decide +kernel
theorem d_r_type_65 : decode b_r_type 65 = .ok (.getfield 30, 3) := by decide +kernel
theorem d_r_type_68 : decode b_r_type 68 = .ok (.iload_n 3, 1) := by decide +kernel
theorem d_r_type_69 : decode b_r_type 69 = .ok (.iload 5, 2) := by decide +kernel
theorem d_r_type_71 : decode b_r_type 71 = .ok (.iastore, 1) := by decide +kernel
theorem d_r_type_72 : decode b_r_type 72 = .ok (.iinc 3 1, 3) := by decide +kernel
theorem d_r_type_75 : decode b_r_type 75 = .ok (.iinc 4 1, 3) := by decide +kernel
theorem d_r_type_78 : decode b_r_type 78 = .ok (.goto (-70), 3) := by decide +kernel
theorem d_r_type_81 : decode b_r_type 81 = .ok (.aload_n 0, 1) := by decide +kernel
theorem d_r_type_82 : decode b_r_type 82 = .ok (.iload_n 3, 1) := by decide +kernel
theorem d_r_type_83 : decode b_r_type 83 = .ok (.putfield 109, 3) := by decide +kernel
theorem d_r_type_86 : decode b_r_type 86 = .ok (.iconst 1, 1) := by decide +kernel
theorem d_r_type_87 : decode b_r_type 87 = .ok (.ireturn, 1) := by decide +kernel
theorem d_r_wipe_0 : decode b_r_wipe 0 = .ok (.aload_n 0, 1) := by decide +kernel
theorem d_r_wipe_1 : decode b_r_wipe 1 = .ok (.iconst 0, 1) := by decide +kernel
theorem d_r_wipe_2 : decode b_r_wipe 2 = .ok (.putfield 109, 3) := by decide +kernel
theorem d_r_wipe_5 : decode b_r_wipe 5 = .ok (.return_, 1) := by decide +kernel
theorem d_r_typed_0 : decode b_r_typed 0 = .ok (.aload_n 0, 1) := by decide +kernel
theorem d_r_typed_1 : decode b_r_typed 1 = .ok (.getfield 109, 3) := by decide +kernel
theorem d_r_typed_4 : decode b_r_typed 4 = .ok (.ireturn, 1) := by decide +kernel
theorem d_r_at_0 : decode b_r_at 0 = .ok (.iload_n 1, 1) := by decide +kernel
theorem d_r_at_1 : decode b_r_at 1 = .ok (.aload_n 0, 1) := by decide +kernel
theorem d_r_at_2 : decode b_r_at 2 = .ok (.getfield 109, 3) := by decide +kernel
theorem d_r_at_5 : decode b_r_at 5 = .ok (.if_icmp .ge 12, 3) := by decide +kernel
theorem d_r_at_8 : decode b_r_at 8 = .ok (.aload_n 0, 1) := by decide +kernel
theorem d_r_at_9 : decode b_r_at 9 = .ok (.getfield 30, 3) := by decide +kernel
theorem d_r_at_12 : decode b_r_at 12 = .ok (.iload_n 1, 1) := by decide +kernel
theorem d_r_at_13 : decode b_r_at 13 = .ok (.iaload, 1) := by decide +kernel
theorem d_r_at_14 : decode b_r_at 14 = .ok (.goto 4, 3) := by decide +kernel
theorem d_r_at_17 : decode b_r_at 17 = .ok (.iconst 0, 1) := by decide +kernel
theorem d_r_at_18 : decode b_r_at 18 = .ok (.ireturn, 1) := by decide +kernel
theorem d_r_operator_0 : decode b_r_operator 0 = .ok (.aload_n 0, 1) := by decide +kernel
theorem d_r_operator_1 : decode b_r_operator 1 = .ok (.iload_n 1, 1) := by decide +kernel
theorem d_r_operator_2 : decode b_r_operator 2 = .ok (.invokevirtual 112, 3) := by decide +kernel
theorem d_r_operator_5 : decode b_r_operator 5 = .ok (.istore_n 2, 1) := by decide +kernel
theorem d_r_operator_6 : decode b_r_operator 6 = .ok (.aload_n 0, 1) := by decide +kernel
theorem d_r_operator_7 : decode b_r_operator 7 = .ok (.iload_n 1, 1) := by decide +kernel
theorem d_r_operator_8 : decode b_r_operator 8 = .ok (.iconst 1, 1) := by decide +kernel
theorem d_r_operator_9 : decode b_r_operator 9 = .ok (.iadd, 1) := by decide +kernel
theorem d_r_operator_10 : decode b_r_operator 10 = .ok (.invokevirtual 112, 3) := by decide +kernel
theorem d_r_operator_13 : decode b_r_operator 13 = .ok (.istore_n 3, 1) := by decide +kernel
theorem d_r_operator_14 : decode b_r_operator 14 = .ok (.iload_n 2, 1) := by decide +kernel
theorem d_r_operator_15 : decode b_r_operator 15 = .ok (.lookupswitch 124 #[(33, 121), (38, 75), (40, 115), (41, 118), (59, 73), (60, 99), (62, 101), (124, 87)], 73) := by decide +kernel
theorem d_r_operator_88 : decode b_r_operator 88 = .ok (.iconst 1, 1) := by decide +kernel
theorem d_r_operator_89 : decode b_r_operator 89 = .ok (.ireturn, 1) := by decide +kernel
theorem d_r_operator_90 : decode b_r_operator 90 = .ok (.iload_n 3, 1) := by decide +kernel
theorem d_r_operator_91 : decode b_r_operator 91 = .ok (.bipush 38, 2) := by decide +kernel
theorem d_r_operator_93 : decode b_r_operator 93 = .ok (.if_icmp .ne 7, 3) := by decide +kernel
theorem d_r_operator_96 : decode b_r_operator 96 = .ok (.iconst 2, 1) := by decide +kernel
theorem d_r_operator_97 : decode b_r_operator 97 = .ok (.goto 4, 3) := by decide +kernel
theorem d_r_operator_100 : decode b_r_operator 100 = .ok (.iconst (-1), 1) := by decide +kernel
theorem d_r_operator_101 : decode b_r_operator 101 = .ok (.ireturn, 1) := by decide +kernel
theorem d_r_operator_102 : decode b_r_operator 102 = .ok (.iload_n 3, 1) := by decide +kernel
theorem d_r_operator_103 : decode b_r_operator 103 = .ok (.bipush 124, 2) := by decide +kernel
theorem d_r_operator_105 : decode b_r_operator 105 = .ok (.if_icmp .ne 7, 3) := by decide +kernel
theorem d_r_operator_108 : decode b_r_operator 108 = .ok (.iconst 3, 1) := by decide +kernel
theorem d_r_operator_109 : decode b_r_operator 109 = .ok (.goto 4, 3) := by decide +kernel
theorem d_r_operator_112 : decode b_r_operator 112 = .ok (.iconst 4, 1) := by decide +kernel
theorem d_r_operator_113 : decode b_r_operator 113 = .ok (.ireturn, 1) := by decide +kernel
theorem d_r_operator_114 : decode b_r_operator 114 = .ok (.iconst 5, 1) := by decide +kernel
theorem d_r_operator_115 : decode b_r_operator 115 = .ok (.ireturn, 1) := by decide +kernel
theorem d_r_operator_116 : decode b_r_operator 116 = .ok (.iload_n 3, 1) := by decide +kernel
theorem d_r_operator_117 : decode b_r_operator 117 = .ok (.bipush 62, 2) := by decide +kernel
theorem d_r_operator_119 : decode b_r_operator 119 = .ok (.if_icmp .ne 8, 3) := by decide +kernel
theorem d_r_operator_122 : decode b_r_operator 122 = .ok (.bipush 6, 2) := by decide +kernel
theorem d_r_operator_124 : decode b_r_operator 124 = .ok (.goto 5, 3) := by decide +kernel
theorem d_r_operator_127 : decode b_r_operator 127 = .ok (.bipush 7, 2) := by decide +kernel
theorem d_r_operator_129 : decode b_r_operator 129 = .ok (.ireturn, 1) := by decide +kernel
theorem d_r_operator_130 : decode b_r_operator 130 = .ok (.bipush 8, 2) := by decide +kernel
theorem d_r_operator_132 : decode b_r_operator 132 = .ok (.ireturn, 1) := by decide +kernel
theorem d_r_operator_133 : decode b_r_operator 133 = .ok (.bipush 9, 2) := by decide +kernel
theorem d_r_operator_135 : decode b_r_operator 135 = .ok (.ireturn, 1) := by decide +kernel
theorem d_r_operator_136 : decode b_r_operator 136 = .ok (.bipush 10, 2) := by decide +kernel
theorem d_r_operator_138 : decode b_r_operator 138 = .ok (.ireturn, 1) := by decide +kernel
theorem d_r_operator_139 : decode b_r_operator 139 = .ok (.iconst 0, 1) := by decide +kernel
theorem d_r_operator_140 : decode b_r_operator 140 = .ok (.ireturn, 1) := by decide +kernel
theorem d_r_token_0 : decode b_r_token 0 = .ok (.aload_n 0, 1) := by decide +kernel
theorem d_r_token_1 : decode b_r_token 1 = .ok (.getfield 33, 3) := by decide +kernel
theorem d_r_token_4 : decode b_r_token 4 = .ok (.aload_n 0, 1) := by decide +kernel
theorem d_r_token_5 : decode b_r_token 5 = .ok (.getfield 116, 3) := by decide +kernel
theorem d_r_token_8 : decode b_r_token 8 = .ok (.iload_n 1, 1) := by decide +kernel
theorem d_r_token_9 : decode b_r_token 9 = .ok (.iastore, 1) := by decide +kernel
theorem d_r_token_10 : decode b_r_token 10 = .ok (.aload_n 0, 1) := by decide +kernel
theorem d_r_token_11 : decode b_r_token 11 = .ok (.getfield 36, 3) := by decide +kernel
theorem d_r_token_14 : decode b_r_token 14 = .ok (.aload_n 0, 1) := by decide +kernel
theorem d_r_token_15 : decode b_r_token 15 = .ok (.getfield 116, 3) := by decide +kernel
theorem d_r_token_18 : decode b_r_token 18 = .ok (.iload_n 2, 1) := by decide +kernel
theorem d_r_token_19 : decode b_r_token 19 = .ok (.iastore, 1) := by decide +kernel
theorem d_r_token_20 : decode b_r_token 20 = .ok (.aload_n 0, 1) := by decide +kernel
theorem d_r_token_21 : decode b_r_token 21 = .ok (.getfield 39, 3) := by decide +kernel
theorem d_r_token_24 : decode b_r_token 24 = .ok (.aload_n 0, 1) := by decide +kernel
theorem d_r_token_25 : decode b_r_token 25 = .ok (.getfield 116, 3) := by decide +kernel
theorem d_r_token_28 : decode b_r_token 28 = .ok (.iload_n 2, 1) := by decide +kernel
theorem d_r_token_29 : decode b_r_token 29 = .ok (.iastore, 1) := by decide +kernel
theorem d_r_token_30 : decode b_r_token 30 = .ok (.aload_n 0, 1) := by decide +kernel
theorem d_r_token_31 : decode b_r_token 31 = .ok (.dup, 1) := by decide +kernel
theorem d_r_token_32 : decode b_r_token 32 = .ok (.getfield 116, 3) := by decide +kernel
theorem d_r_token_35 : decode b_r_token 35 = .ok (.iconst 1, 1) := by decide +kernel
theorem d_r_token_36 : decode b_r_token 36 = .ok (.iadd, 1) := by decide +kernel
theorem d_r_token_37 : decode b_r_token 37 = .ok (.putfield 116, 3) := by decide +kernel
theorem d_r_token_40 : decode b_r_token 40 = .ok (.return_, 1) := by decide +kernel
theorem d_r_cut_0 : decode b_r_cut 0 = .ok (.aload_n 0, 1) := by decide +kernel
theorem d_r_cut_1 : decode b_r_cut 1 = .ok (.iconst 0, 1) := by decide +kernel
theorem d_r_cut_2 : decode b_r_cut 2 = .ok (.putfield 116, 3) := by decide +kernel
theorem d_r_cut_5 : decode b_r_cut 5 = .ok (.iconst 0, 1) := by decide +kernel
theorem d_r_cut_6 : decode b_r_cut 6 = .ok (.istore_n 1, 1) := by decide +kernel
theorem d_r_cut_7 : decode b_r_cut 7 = .ok (.iconst 0, 1) := by decide +kernel
theorem d_r_cut_8 : decode b_r_cut 8 = .ok (.istore_n 2, 1) := by decide +kernel
theorem d_r_cut_9 : decode b_r_cut 9 = .ok (.iconst 0, 1) := by decide +kernel
theorem d_r_cut_10 : decode b_r_cut 10 = .ok (.istore_n 3, 1) := by decide +kernel
theorem d_r_cut_11 : decode b_r_cut 11 = .ok (.iload_n 3, 1) := by decide +kernel
theorem d_r_cut_12 : decode b_r_cut 12 = .ok (.aload_n 0, 1) := by decide +kernel
theorem d_r_cut_13 : decode b_r_cut 13 = .ok (.getfield 109, 3) := by decide +kernel
theorem d_r_cut_16 : decode b_r_cut 16 = .ok (.if_icmp .ge 168, 3) := by decide +kernel
theorem d_r_cut_19 : decode b_r_cut 19 = .ok (.aload_n 0, 1) := by decide +kernel
theorem d_r_cut_20 : decode b_r_cut 20 = .ok (.getfield 30, 3) := by decide +kernel
theorem d_r_cut_23 : decode b_r_cut 23 = .ok (.iload_n 3, 1) := by decide +kernel
theorem d_r_cut_24 : decode b_r_cut 24 = .ok (.iaload, 1) := by decide +kernel
theorem d_r_cut_25 : decode b_r_cut 25 = .ok (.istore 4, 2) := by decide +kernel
theorem d_r_cut_27 : decode b_r_cut 27 = .ok (.iload_n 2, 1) := by decide +kernel
theorem d_r_cut_28 : decode b_r_cut 28 = .ok (.ifCond .eq 7, 3) := by decide +kernel
theorem d_r_cut_31 : decode b_r_cut 31 = .ok (.iconst 0, 1) := by decide +kernel
theorem d_r_cut_32 : decode b_r_cut 32 = .ok (.goto 8, 3) := by decide +kernel
theorem d_r_cut_35 : decode b_r_cut 35 = .ok (.aload_n 0, 1) := by decide +kernel
theorem d_r_cut_36 : decode b_r_cut 36 = .ok (.iload_n 3, 1) := by decide +kernel
theorem d_r_cut_37 : decode b_r_cut 37 = .ok (.invokevirtual 119, 3) := by decide +kernel
theorem d_r_cut_40 : decode b_r_cut 40 = .ok (.istore 5, 2) := by decide +kernel
theorem d_r_cut_42 : decode b_r_cut 42 = .ok (.iload_n 2, 1) := by decide +kernel
theorem d_r_cut_43 : decode b_r_cut 43 = .ok (.ifCond .eq 33, 3) := by decide +kernel
theorem d_r_cut_46 : decode b_r_cut 46 = .ok (.iload 4, 2) := by decide +kernel
theorem d_r_cut_48 : decode b_r_cut 48 = .ok (.bipush 39, 2) := by decide +kernel
theorem d_r_cut_50 : decode b_r_cut 50 = .ok (.if_icmp .eq 7, 3) := by decide +kernel
theorem d_r_cut_53 : decode b_r_cut 53 = .ok (.iconst 1, 1) := by decide +kernel
theorem d_r_cut_54 : decode b_r_cut 54 = .ok (.goto 4, 3) := by decide +kernel
theorem d_r_cut_57 : decode b_r_cut 57 = .ok (.iconst 0, 1) := by decide +kernel
theorem d_r_cut_58 : decode b_r_cut 58 = .ok (.istore_n 2, 1) := by decide +kernel
theorem d_r_cut_59 : decode b_r_cut 59 = .ok (.aload_n 0, 1) := by decide +kernel
theorem d_r_cut_60 : decode b_r_cut 60 = .ok (.getfield 39, 3) := by decide +kernel
theorem d_r_cut_63 : decode b_r_cut 63 = .ok (.aload_n 0, 1) := by decide +kernel
theorem d_r_cut_64 : decode b_r_cut 64 = .ok (.getfield 116, 3) := by decide +kernel
theorem d_r_cut_67 : decode b_r_cut 67 = .ok (.iconst 1, 1) := by decide +kernel
theorem d_r_cut_68 : decode b_r_cut 68 = .ok (.isub, 1) := by decide +kernel
theorem d_r_cut_69 : decode b_r_cut 69 = .ok (.iload_n 3, 1) := by decide +kernel
theorem d_r_cut_70 : decode b_r_cut 70 = .ok (.iconst 1, 1) := by decide +kernel
theorem d_r_cut_71 : decode b_r_cut 71 = .ok (.iadd, 1) := by decide +kernel
theorem d_r_cut_72 : decode b_r_cut 72 = .ok (.iastore, 1) := by decide +kernel
theorem d_r_cut_73 : decode b_r_cut 73 = .ok (.goto 105, 3) := by decide +kernel
theorem d_r_cut_76 : decode b_r_cut 76 = .ok (.iload 4, 2) := by decide +kernel
theorem d_r_cut_78 : decode b_r_cut 78 = .ok (.bipush 32, 2) := by decide +kernel
theorem d_r_cut_80 : decode b_r_cut 80 = .ok (.if_icmp .ne 8, 3) := by decide +kernel
theorem d_r_cut_83 : decode b_r_cut 83 = .ok (.iconst 0, 1) := by decide +kernel
theorem d_r_cut_84 : decode b_r_cut 84 = .ok (.istore_n 1, 1) := by decide +kernel
theorem d_r_cut_85 : decode b_r_cut 85 = .ok (.goto 93, 3) := by decide +kernel
theorem d_r_cut_88 : decode b_r_cut 88 = .ok (.iload 5, 2) := by decide +kernel
theorem d_r_cut_90 : decode b_r_cut 90 = .ok (.ifCond .ge 5, 3) := by decide +kernel
theorem d_r_cut_93 : decode b_r_cut 93 = .ok (.iconst 0, 1) := by decide +kernel
theorem d_r_cut_94 : decode b_r_cut 94 = .ok (.ireturn, 1) := by decide +kernel
theorem d_r_cut_95 : decode b_r_cut 95 = .ok (.iload 5, 2) := by decide +kernel
theorem d_r_cut_97 : decode b_r_cut 97 = .ok (.ifCond .eq 42, 3) := by decide +kernel
theorem d_r_cut_100 : decode b_r_cut 100 = .ok (.iconst 0, 1) := by decide +kernel
theorem d_r_cut_101 : decode b_r_cut 101 = .ok (.istore_n 1, 1) := by decide +kernel
theorem d_r_cut_102 : decode b_r_cut 102 = .ok (.aload_n 0, 1) := by decide +kernel
theorem d_r_cut_103 : decode b_r_cut 103 = .ok (.iload 5, 2) := by decide +kernel
theorem d_r_cut_105 : decode b_r_cut 105 = .ok (.iload_n 3, 1) := by decide +kernel
theorem d_r_cut_106 : decode b_r_cut 106 = .ok (.invokevirtual 122, 3) := by decide +kernel
theorem d_r_cut_109 : decode b_r_cut 109 = .ok (.iload 5, 2) := by decide +kernel
theorem d_r_cut_111 : decode b_r_cut 111 = .ok (.iconst 2, 1) := by decide +kernel
theorem d_r_cut_112 : decode b_r_cut 112 = .ok (.if_icmp .eq 16, 3) := by decide +kernel
theorem d_r_cut_115 : decode b_r_cut 115 = .ok (.iload 5, 2) := by decide +kernel
theorem d_r_cut_117 : decode b_r_cut 117 = .ok (.iconst 3, 1) := by decide +kernel
theorem d_r_cut_118 : decode b_r_cut 118 = .ok (.if_icmp .eq 10, 3) := by decide +kernel
theorem d_r_cut_121 : decode b_r_cut 121 = .ok (.iload 5, 2) := by decide +kernel
theorem d_r_cut_123 : decode b_r_cut 123 = .ok (.bipush 6, 2) := by decide +kernel
theorem d_r_cut_125 : decode b_r_cut 125 = .ok (.if_icmp .ne 9, 3) := by decide +kernel
theorem d_r_cut_128 : decode b_r_cut 128 = .ok (.iload_n 3, 1) := by decide +kernel
theorem d_r_cut_129 : decode b_r_cut 129 = .ok (.iconst 1, 1) := by decide +kernel
theorem d_r_cut_130 : decode b_r_cut 130 = .ok (.iadd, 1) := by decide +kernel
theorem d_r_cut_131 : decode b_r_cut 131 = .ok (.goto 4, 3) := by decide +kernel
theorem d_r_cut_134 : decode b_r_cut 134 = .ok (.iload_n 3, 1) := by decide +kernel
theorem d_r_cut_135 : decode b_r_cut 135 = .ok (.istore_n 3, 1) := by decide +kernel
theorem d_r_cut_136 : decode b_r_cut 136 = .ok (.goto 42, 3) := by decide +kernel
theorem d_r_cut_139 : decode b_r_cut 139 = .ok (.iload_n 1, 1) := by decide +kernel
theorem d_r_cut_140 : decode b_r_cut 140 = .ok (.ifCond .ne 11, 3) := by decide +kernel
theorem d_r_cut_143 : decode b_r_cut 143 = .ok (.aload_n 0, 1) := by decide +kernel
theorem d_r_cut_144 : decode b_r_cut 144 = .ok (.iconst 0, 1) := by decide +kernel
theorem d_r_cut_145 : decode b_r_cut 145 = .ok (.iload_n 3, 1) := by decide +kernel
theorem d_r_cut_146 : decode b_r_cut 146 = .ok (.invokevirtual 122, 3) := by decide +kernel
theorem d_r_cut_149 : decode b_r_cut 149 = .ok (.iconst 1, 1) := by decide +kernel
theorem d_r_cut_150 : decode b_r_cut 150 = .ok (.istore_n 1, 1) := by decide +kernel
theorem d_r_cut_151 : decode b_r_cut 151 = .ok (.iload 4, 2) := by decide +kernel
theorem d_r_cut_153 : decode b_r_cut 153 = .ok (.bipush 39, 2) := by decide +kernel
theorem d_r_cut_155 : decode b_r_cut 155 = .ok (.if_icmp .ne 7, 3) := by decide +kernel
theorem d_r_cut_158 : decode b_r_cut 158 = .ok (.iconst 1, 1) := by decide +kernel
theorem d_r_cut_159 : decode b_r_cut 159 = .ok (.goto 4, 3) := by decide +kernel
theorem d_r_cut_162 : decode b_r_cut 162 = .ok (.iconst 0, 1) := by decide +kernel
theorem d_r_cut_163 : decode b_r_cut 163 = .ok (.istore_n 2, 1) := by decide +kernel
theorem d_r_cut_164 : decode b_r_cut 164 = .ok (.aload_n 0, 1) := by decide +kernel
theorem d_r_cut_165 : decode b_r_cut 165 = .ok (.getfield 39, 3) := by decide +kernel
theorem d_r_cut_168 : decode b_r_cut 168 = .ok (.aload_n 0, 1) := by decide +kernel
theorem d_r_cut_169 : decode b_r_cut 169 = .ok (.getfield 116, 3) := by decide +kernel
theorem d_r_cut_172 : decode b_r_cut 172 = .ok (.iconst 1, 1) := by decide +kernel
theorem d_r_cut_173 : decode b_r_cut 173 = .ok (.isub, 1) := by decide +kernel
theorem d_r_cut_174 : decode b_r_cut 174 = .ok (.iload_n 3, 1) := by decide +kernel
theorem d_r_cut_175 : decode b_r_cut 175 = .ok (.iconst 1, 1) := by decide +kernel
theorem d_r_cut_176 : decode b_r_cut 176 = .ok (.iadd, 1) := by decide +kernel
theorem d_r_cut_177 : decode b_r_cut 177 = .ok (.iastore, 1) := by decide +kernel
theorem d_r_cut_178 : decode b_r_cut 178 = .ok (.iinc 3 1, 3) := by decide +kernel
theorem d_r_cut_181 : decode b_r_cut 181 = .ok (.goto (-170), 3) := by decide +kernel
theorem d_r_cut_184 : decode b_r_cut 184 = .ok (.iload_n 2, 1) := by decide +kernel
theorem d_r_cut_185 : decode b_r_cut 185 = .ok (.ifCond .ne 7, 3) := by decide +kernel
theorem d_r_cut_188 : decode b_r_cut 188 = .ok (.iconst 1, 1) := by decide +kernel
theorem d_r_cut_189 : decode b_r_cut 189 = .ok (.goto 4, 3) := by decide +kernel
theorem d_r_cut_192 : decode b_r_cut 192 = .ok (.iconst 0, 1) := by decide +kernel
theorem d_r_cut_193 : decode b_r_cut 193 = .ok (.ireturn, 1) := by decide +kernel
theorem d_r_redirects_0 : decode b_r_redirects 0 = .ok (.iload_n 0, 1) := by decide +kernel
theorem d_r_redirects_1 : decode b_r_redirects 1 = .ok (.iconst 5, 1) := by decide +kernel
theorem d_r_redirects_2 : decode b_r_redirects 2 = .ok (.if_icmp .eq 15, 3) := by decide +kernel
theorem d_r_redirects_5 : decode b_r_redirects 5 = .ok (.iload_n 0, 1) := by decide +kernel
theorem d_r_redirects_6 : decode b_r_redirects 6 = .ok (.bipush 6, 2) := by decide +kernel
theorem d_r_redirects_8 : decode b_r_redirects 8 = .ok (.if_icmp .eq 9, 3) := by decide +kernel
theorem d_r_redirects_11 : decode b_r_redirects 11 = .ok (.iload_n 0, 1) := by decide +kernel
theorem d_r_redirects_12 : decode b_r_redirects 12 = .ok (.bipush 7, 2) := by decide +kernel
theorem d_r_redirects_14 : decode b_r_redirects 14 = .ok (.if_icmp .ne 7, 3) := by decide +kernel
theorem d_r_redirects_17 : decode b_r_redirects 17 = .ok (.iconst 1, 1) := by decide +kernel
theorem d_r_redirects_18 : decode b_r_redirects 18 = .ok (.goto 4, 3) := by decide +kernel
theorem d_r_redirects_21 : decode b_r_redirects 21 = .ok (.iconst 0, 1) := by decide +kernel
theorem d_r_redirects_22 : decode b_r_redirects 22 = .ok (.ireturn, 1) := by decide +kernel
theorem d_r_next_0 : decode b_r_next 0 = .ok (.iload_n 0, 1) := by decide +kernel
theorem d_r_next_1 : decode b_r_next 1 = .ok (.bipush 7, 2) := by decide +kernel
theorem d_r_next_3 : decode b_r_next 3 = .ok (.if_icmp .lt 15, 3) := by decide +kernel
theorem d_r_next_6 : decode b_r_next 6 = .ok (.iload_n 1, 1) := by decide +kernel
theorem d_r_next_7 : decode b_r_next 7 = .ok (.ifCond .ne 9, 3) := by decide +kernel
theorem d_r_next_10 : decode b_r_next 10 = .ok (.iload_n 0, 1) := by decide +kernel
theorem d_r_next_11 : decode b_r_next 11 = .ok (.iconst 3, 1) := by decide +kernel
theorem d_r_next_12 : decode b_r_next 12 = .ok (.isub, 1) := by decide +kernel
theorem d_r_next_13 : decode b_r_next 13 = .ok (.goto 4, 3) := by decide +kernel
theorem d_r_next_16 : decode b_r_next 16 = .ok (.iconst (-1), 1) := by decide +kernel
theorem d_r_next_17 : decode b_r_next 17 = .ok (.ireturn, 1) := by decide +kernel
theorem d_r_next_18 : decode b_r_next 18 = .ok (.iload_n 1, 1) := by decide +kernel
theorem d_r_next_19 : decode b_r_next 19 = .ok (.invokestatic 126, 3) := by decide +kernel
theorem d_r_next_22 : decode b_r_next 22 = .ok (.ifCond .eq 17, 3) := by decide +kernel
theorem d_r_next_25 : decode b_r_next 25 = .ok (.iload_n 0, 1) := by decide +kernel
theorem d_r_next_26 : decode b_r_next 26 = .ok (.iconst 4, 1) := by decide +kernel
theorem d_r_next_27 : decode b_r_next 27 = .ok (.if_icmp .ge 8, 3) := by decide +kernel
theorem d_r_next_30 : decode b_r_next 30 = .ok (.bipush 7, 2) := by decide +kernel
theorem d_r_next_32 : decode b_r_next 32 = .ok (.goto 6, 3) := by decide +kernel
theorem d_r_next_35 : decode b_r_next 35 = .ok (.iload_n 0, 1) := by decide +kernel
theorem d_r_next_36 : decode b_r_next 36 = .ok (.iconst 3, 1) := by decide +kernel
theorem d_r_next_37 : decode b_r_next 37 = .ok (.iadd, 1) := by decide +kernel
theorem d_r_next_38 : decode b_r_next 38 = .ok (.ireturn, 1) := by decide +kernel
theorem d_r_next_39 : decode b_r_next 39 = .ok (.iload_n 1, 1) := by decide +kernel
theorem d_r_next_40 : decode b_r_next 40 = .ok (.ifCond .ne 15, 3) := by decide +kernel
theorem d_r_next_43 : decode b_r_next 43 = .ok (.iload_n 0, 1) := by decide +kernel
theorem d_r_next_44 : decode b_r_next 44 = .ok (.bipush 6, 2) := by decide +kernel
theorem d_r_next_46 : decode b_r_next 46 = .ok (.if_icmp .ne 7, 3) := by decide +kernel
theorem d_r_next_49 : decode b_r_next 49 = .ok (.iconst (-1), 1) := by decide +kernel
theorem d_r_next_50 : decode b_r_next 50 = .ok (.goto 4, 3) := by decide +kernel
theorem d_r_next_53 : decode b_r_next 53 = .ok (.iconst 5, 1) := by decide +kernel
theorem d_r_next_54 : decode b_r_next 54 = .ok (.ireturn, 1) := by decide +kernel
theorem d_r_next_55 : decode b_r_next 55 = .ok (.iload_n 1, 1) := by decide +kernel
theorem d_r_next_56 : decode b_r_next 56 = .ok (.bipush 8, 2) := by decide +kernel
theorem d_r_next_58 : decode b_r_next 58 = .ok (.if_icmp .ne 19, 3) := by decide +kernel
theorem d_r_next_61 : decode b_r_next 61 = .ok (.iload_n 0, 1) := by decide +kernel
theorem d_r_next_62 : decode b_r_next 62 = .ok (.iconst 4, 1) := by decide +kernel
theorem d_r_next_63 : decode b_r_next 63 = .ok (.if_icmp .ge 12, 3) := by decide +kernel
theorem d_r_next_66 : decode b_r_next 66 = .ok (.iload_n 2, 1) := by decide +kernel
theorem d_r_next_67 : decode b_r_next 67 = .ok (.iconst 4, 1) := by decide +kernel
theorem d_r_next_68 : decode b_r_next 68 = .ok (.if_icmp .ge 7, 3) := by decide +kernel
theorem d_r_next_71 : decode b_r_next 71 = .ok (.iconst 0, 1) := by decide +kernel
theorem d_r_next_72 : decode b_r_next 72 = .ok (.goto 4, 3) := by decide +kernel
theorem d_r_next_75 : decode b_r_next 75 = .ok (.iconst (-1), 1) := by decide +kernel
theorem d_r_next_76 : decode b_r_next 76 = .ok (.ireturn, 1) := by decide +kernel
theorem d_r_next_77 : decode b_r_next 77 = .ok (.iload_n 1, 1) := by decide +kernel
theorem d_r_next_78 : decode b_r_next 78 = .ok (.bipush 10, 2) := by decide +kernel
theorem d_r_next_80 : decode b_r_next 80 = .ok (.if_icmp .ne 14, 3) := by decide +kernel
theorem d_r_next_83 : decode b_r_next 83 = .ok (.iload_n 0, 1) := by decide +kernel
theorem d_r_next_84 : decode b_r_next 84 = .ok (.iconst 3, 1) := by decide +kernel
theorem d_r_next_85 : decode b_r_next 85 = .ok (.if_icmp .ge 7, 3) := by decide +kernel
theorem d_r_next_88 : decode b_r_next 88 = .ok (.iconst 3, 1) := by decide +kernel
theorem d_r_next_89 : decode b_r_next 89 = .ok (.goto 4, 3) := by decide +kernel
theorem d_r_next_92 : decode b_r_next 92 = .ok (.iconst (-1), 1) := by decide +kernel
theorem d_r_next_93 : decode b_r_next 93 = .ok (.ireturn, 1) := by decide +kernel
theorem d_r_next_94 : decode b_r_next 94 = .ok (.iload_n 1, 1) := by decide +kernel
theorem d_r_next_95 : decode b_r_next 95 = .ok (.bipush 9, 2) := by decide +kernel
theorem d_r_next_97 : decode b_r_next 97 = .ok (.if_icmp .ne 24, 3) := by decide +kernel
theorem d_r_next_100 : decode b_r_next 100 = .ok (.iload_n 2, 1) := by decide +kernel
theorem d_r_next_101 : decode b_r_next 101 = .ok (.ifCond .le 18, 3) := by decide +kernel
theorem d_r_next_104 : decode b_r_next 104 = .ok (.iload_n 0, 1) := by decide +kernel
theorem d_r_next_105 : decode b_r_next 105 = .ok (.iconst 1, 1) := by decide +kernel
theorem d_r_next_106 : decode b_r_next 106 = .ok (.if_icmp .eq 8, 3) := by decide +kernel
theorem d_r_next_109 : decode b_r_next 109 = .ok (.iload_n 0, 1) := by decide +kernel
theorem d_r_next_110 : decode b_r_next 110 = .ok (.iconst 5, 1) := by decide +kernel
theorem d_r_next_111 : decode b_r_next 111 = .ok (.if_icmp .lt 8, 3) := by decide +kernel
theorem d_r_next_114 : decode b_r_next 114 = .ok (.bipush 6, 2) := by decide +kernel
theorem d_r_next_116 : decode b_r_next 116 = .ok (.goto 4, 3) := by decide +kernel
theorem d_r_next_119 : decode b_r_next 119 = .ok (.iconst (-1), 1) := by decide +kernel
theorem d_r_next_120 : decode b_r_next 120 = .ok (.ireturn, 1) := by decide +kernel
theorem d_r_next_121 : decode b_r_next 121 = .ok (.iload_n 0, 1) := by decide +kernel
theorem d_r_next_122 : decode b_r_next 122 = .ok (.iconst 5, 1) := by decide +kernel
theorem d_r_next_123 : decode b_r_next 123 = .ok (.if_icmp .ge 7, 3) := by decide +kernel
theorem d_r_next_126 : decode b_r_next 126 = .ok (.iconst (-1), 1) := by decide +kernel
theorem d_r_next_127 : decode b_r_next 127 = .ok (.goto 22, 3) := by decide +kernel
theorem d_r_next_130 : decode b_r_next 130 = .ok (.iload_n 1, 1) := by decide +kernel
theorem d_r_next_131 : decode b_r_next 131 = .ok (.iconst 1, 1) := by decide +kernel
theorem d_r_next_132 : decode b_r_next 132 = .ok (.if_icmp .ne 7, 3) := by decide +kernel
theorem d_r_next_135 : decode b_r_next 135 = .ok (.iconst 1, 1) := by decide +kernel
theorem d_r_next_136 : decode b_r_next 136 = .ok (.goto 13, 3) := by decide +kernel
theorem d_r_next_139 : decode b_r_next 139 = .ok (.iload_n 1, 1) := by decide +kernel
theorem d_r_next_140 : decode b_r_next 140 = .ok (.iconst 4, 1) := by decide +kernel
theorem d_r_next_141 : decode b_r_next 141 = .ok (.if_icmp .ne 7, 3) := by decide +kernel
theorem d_r_next_144 : decode b_r_next 144 = .ok (.iconst 3, 1) := by decide +kernel
theorem d_r_next_145 : decode b_r_next 145 = .ok (.goto 4, 3) := by decide +kernel
theorem d_r_next_148 : decode b_r_next 148 = .ok (.iconst 2, 1) := by decide +kernel
theorem d_r_next_149 : decode b_r_next 149 = .ok (.ireturn, 1) := by decide +kernel
theorem d_r_grammar_0 : decode b_r_grammar 0 = .ok (.aload_n 0, 1) := by decide +kernel
theorem d_r_grammar_1 : decode b_r_grammar 1 = .ok (.invokevirtual 130, 3) := by decide +kernel
theorem d_r_grammar_4 : decode b_r_grammar 4 = .ok (.ifCond .ne 5, 3) := by decide +kernel
theorem d_r_grammar_7 : decode b_r_grammar 7 = .ok (.iconst 0, 1) := by decide +kernel
theorem d_r_grammar_8 : decode b_r_grammar 8 = .ok (.ireturn, 1) := by decide +kernel
theorem d_r_grammar_9 : decode b_r_grammar 9 = .ok (.iconst 0, 1) := by decide +kernel
theorem d_r_grammar_10 : decode b_r_grammar 10 = .ok (.istore_n 1, 1) := by decide +kernel
theorem d_r_grammar_11 : decode b_r_grammar 11 = .ok (.iconst 0, 1) := by decide +kernel
theorem d_r_grammar_12 : decode b_r_grammar 12 = .ok (.istore_n 2, 1) := by decide +kernel
theorem d_r_grammar_13 : decode b_r_grammar 13 = .ok (.iconst 0, 1) := by decide +kernel
theorem d_r_grammar_14 : decode b_r_grammar 14 = .ok (.istore_n 3, 1) := by decide +kernel
theorem d_r_grammar_15 : decode b_r_grammar 15 = .ok (.iload_n 3, 1) := by decide +kernel
theorem d_r_grammar_16 : decode b_r_grammar 16 = .ok (.aload_n 0, 1) := by decide +kernel
theorem d_r_grammar_17 : decode b_r_grammar 17 = .ok (.getfield 116, 3) := by decide +kernel
theorem d_r_grammar_20 : decode b_r_grammar 20 = .ok (.if_icmp .ge 63, 3) := by decide +kernel
theorem d_r_grammar_23 : decode b_r_grammar 23 = .ok (.iload_n 1, 1) := by decide +kernel
theorem d_r_grammar_24 : decode b_r_grammar 24 = .ok (.aload_n 0, 1) := by decide +kernel
theorem d_r_grammar_25 : decode b_r_grammar 25 = .ok (.getfield 33, 3) := by decide +kernel
theorem d_r_grammar_28 : decode b_r_grammar 28 = .ok (.iload_n 3, 1) := by decide +kernel
theorem d_r_grammar_29 : decode b_r_grammar 29 = .ok (.iaload, 1) := by decide +kernel
theorem d_r_grammar_30 : decode b_r_grammar 30 = .ok (.iload_n 2, 1) := by decide +kernel
theorem d_r_grammar_31 : decode b_r_grammar 31 = .ok (.invokestatic 134, 3) := by decide +kernel
theorem d_r_grammar_34 : decode b_r_grammar 34 = .ok (.istore_n 1, 1) := by decide +kernel
theorem d_r_grammar_35 : decode b_r_grammar 35 = .ok (.iload_n 1, 1) := by decide +kernel
theorem d_r_grammar_36 : decode b_r_grammar 36 = .ok (.ifCond .ge 5, 3) := by decide +kernel
theorem d_r_grammar_39 : decode b_r_grammar 39 = .ok (.iconst 0, 1) := by decide +kernel
theorem d_r_grammar_40 : decode b_r_grammar 40 = .ok (.ireturn, 1) := by decide +kernel
theorem d_r_grammar_41 : decode b_r_grammar 41 = .ok (.aload_n 0, 1) := by decide +kernel
theorem d_r_grammar_42 : decode b_r_grammar 42 = .ok (.getfield 33, 3) := by decide +kernel
theorem d_r_grammar_45 : decode b_r_grammar 45 = .ok (.iload_n 3, 1) := by decide +kernel
theorem d_r_grammar_46 : decode b_r_grammar 46 = .ok (.iaload, 1) := by decide +kernel
theorem d_r_grammar_47 : decode b_r_grammar 47 = .ok (.bipush 8, 2) := by decide +kernel
theorem d_r_grammar_49 : decode b_r_grammar 49 = .ok (.if_icmp .ne 9, 3) := by decide +kernel
theorem d_r_grammar_52 : decode b_r_grammar 52 = .ok (.iload_n 2, 1) := by decide +kernel
theorem d_r_grammar_53 : decode b_r_grammar 53 = .ok (.iconst 1, 1) := by decide +kernel
theorem d_r_grammar_54 : decode b_r_grammar 54 = .ok (.iadd, 1) := by decide +kernel
theorem d_r_grammar_55 : decode b_r_grammar 55 = .ok (.goto 21, 3) := by decide +kernel
theorem d_r_grammar_58 : decode b_r_grammar 58 = .ok (.aload_n 0, 1) := by decide +kernel
theorem d_r_grammar_59 : decode b_r_grammar 59 = .ok (.getfield 33, 3) := by decide +kernel
theorem d_r_grammar_62 : decode b_r_grammar 62 = .ok (.iload_n 3, 1) := by decide +kernel
theorem d_r_grammar_63 : decode b_r_grammar 63 = .ok (.iaload, 1) := by decide +kernel
theorem d_r_grammar_64 : decode b_r_grammar 64 = .ok (.bipush 9, 2) := by decide +kernel
theorem d_r_grammar_66 : decode b_r_grammar 66 = .ok (.if_icmp .ne 9, 3) := by decide +kernel
theorem d_r_grammar_69 : decode b_r_grammar 69 = .ok (.iload_n 2, 1) := by decide +kernel
theorem d_r_grammar_70 : decode b_r_grammar 70 = .ok (.iconst 1, 1) := by decide +kernel
theorem d_r_grammar_71 : decode b_r_grammar 71 = .ok (.isub, 1) := by decide +kernel
theorem d_r_grammar_72 : decode b_r_grammar 72 = .ok (.goto 4, 3) := by decide +kernel
theorem d_r_grammar_75 : decode b_r_grammar 75 = .ok (.iload_n 2, 1) := by decide +kernel
theorem d_r_grammar_76 : decode b_r_grammar 76 = .ok (.istore_n 2, 1) := by decide +kernel
theorem d_r_grammar_77 : decode b_r_grammar 77 = .ok (.iinc 3 1, 3) := by decide +kernel
theorem d_r_grammar_80 : decode b_r_grammar 80 = .ok (.goto (-65), 3) := by decide +kernel
theorem d_r_grammar_83 : decode b_r_grammar 83 = .ok (.aload_n 0, 1) := by decide +kernel
theorem d_r_grammar_84 : decode b_r_grammar 84 = .ok (.getfield 116, 3) := by decide +kernel
theorem d_r_grammar_87 : decode b_r_grammar 87 = .ok (.ifCond .eq 23, 3) := by decide +kernel
theorem d_r_grammar_90 : decode b_r_grammar 90 = .ok (.iload_n 2, 1) := by decide +kernel
theorem d_r_grammar_91 : decode b_r_grammar 91 = .ok (.ifCond .ne 23, 3) := by decide +kernel
theorem d_r_grammar_94 : decode b_r_grammar 94 = .ok (.iload_n 1, 1) := by decide +kernel
theorem d_r_grammar_95 : decode b_r_grammar 95 = .ok (.iconst 1, 1) := by decide +kernel
theorem d_r_grammar_96 : decode b_r_grammar 96 = .ok (.if_icmp .eq 14, 3) := by decide +kernel
theorem d_r_grammar_99 : decode b_r_grammar 99 = .ok (.iload_n 1, 1) := by decide +kernel
theorem d_r_grammar_100 : decode b_r_grammar 100 = .ok (.iconst 5, 1) := by decide +kernel
theorem d_r_grammar_101 : decode b_r_grammar 101 = .ok (.if_icmp .eq 9, 3) := by decide +kernel
theorem d_r_grammar_104 : decode b_r_grammar 104 = .ok (.iload_n 1, 1) := by decide +kernel
theorem d_r_grammar_105 : decode b_r_grammar 105 = .ok (.bipush 6, 2) := by decide +kernel
theorem d_r_grammar_107 : decode b_r_grammar 107 = .ok (.if_icmp .ne 7, 3) := by decide +kernel
theorem d_r_grammar_110 : decode b_r_grammar 110 = .ok (.iconst 1, 1) := by decide +kernel
theorem d_r_grammar_111 : decode b_r_grammar 111 = .ok (.goto 4, 3) := by decide +kernel
theorem d_r_grammar_114 : decode b_r_grammar 114 = .ok (.iconst 0, 1) := by decide +kernel
theorem d_r_grammar_115 : decode b_r_grammar 115 = .ok (.ireturn, 1) := by decide +kernel
theorem d_r_check_0 : decode b_r_check 0 = .ok (.aload_n 0, 1) := by decide +kernel
theorem d_r_check_1 : decode b_r_check 1 = .ok (.invokevirtual 138, 3) := by decide +kernel
theorem d_r_check_4 : decode b_r_check 4 = .ok (.ifCond .ne 5, 3) := by decide +kernel
theorem d_r_check_7 : decode b_r_check 7 = .ok (.iconst (-1), 1) := by decide +kernel
theorem d_r_check_8 : decode b_r_check 8 = .ok (.ireturn, 1) := by decide +kernel
theorem d_r_check_9 : decode b_r_check 9 = .ok (.iconst 0, 1) := by decide +kernel
theorem d_r_check_10 : decode b_r_check 10 = .ok (.istore_n 1, 1) := by decide +kernel
theorem d_r_check_11 : decode b_r_check 11 = .ok (.iconst 0, 1) := by decide +kernel
theorem d_r_check_12 : decode b_r_check 12 = .ok (.istore_n 2, 1) := by decide +kernel
theorem d_r_check_13 : decode b_r_check 13 = .ok (.iload_n 2, 1) := by decide +kernel
theorem d_r_check_14 : decode b_r_check 14 = .ok (.aload_n 0, 1) := by decide +kernel
theorem d_r_check_15 : decode b_r_check 15 = .ok (.getfield 116, 3) := by decide +kernel
theorem d_r_check_18 : decode b_r_check 18 = .ok (.if_icmp .ge 26, 3) := by decide +kernel
theorem d_r_check_21 : decode b_r_check 21 = .ok (.aload_n 0, 1) := by decide +kernel
theorem d_r_check_22 : decode b_r_check 22 = .ok (.getfield 33, 3) := by decide +kernel
theorem d_r_check_25 : decode b_r_check 25 = .ok (.iload_n 2, 1) := by decide +kernel
theorem d_r_check_26 : decode b_r_check 26 = .ok (.iaload, 1) := by decide +kernel
theorem d_r_check_27 : decode b_r_check 27 = .ok (.ifCond .ne 9, 3) := by decide +kernel
theorem d_r_check_30 : decode b_r_check 30 = .ok (.iload_n 1, 1) := by decide +kernel
theorem d_r_check_31 : decode b_r_check 31 = .ok (.iconst 1, 1) := by decide +kernel
theorem d_r_check_32 : decode b_r_check 32 = .ok (.iadd, 1) := by decide +kernel
theorem d_r_check_33 : decode b_r_check 33 = .ok (.goto 4, 3) := by decide +kernel
theorem d_r_check_36 : decode b_r_check 36 = .ok (.iload_n 1, 1) := by decide +kernel
theorem d_r_check_37 : decode b_r_check 37 = .ok (.istore_n 1, 1) := by decide +kernel
theorem d_r_check_38 : decode b_r_check 38 = .ok (.iinc 2 1, 3) := by decide +kernel
theorem d_r_check_41 : decode b_r_check 41 = .ok (.goto (-28), 3) := by decide +kernel
theorem d_r_check_44 : decode b_r_check 44 = .ok (.iload_n 1, 1) := by decide +kernel
theorem d_r_check_45 : decode b_r_check 45 = .ok (.ireturn, 1) := by decide +kernel
theorem d_r_kindAt_0 : decode b_r_kindAt 0 = .ok (.iload_n 1, 1) := by decide +kernel
theorem d_r_kindAt_1 : decode b_r_kindAt 1 = .ok (.aload_n 0, 1) := by decide +kernel
theorem d_r_kindAt_2 : decode b_r_kindAt 2 = .ok (.getfield 116, 3) := by decide +kernel
theorem d_r_kindAt_5 : decode b_r_kindAt 5 = .ok (.if_icmp .ge 12, 3) := by decide +kernel
theorem d_r_kindAt_8 : decode b_r_kindAt 8 = .ok (.aload_n 0, 1) := by decide +kernel
theorem d_r_kindAt_9 : decode b_r_kindAt 9 = .ok (.getfield 33, 3) := by decide +kernel
theorem d_r_kindAt_12 : decode b_r_kindAt 12 = .ok (.iload_n 1, 1) := by decide +kernel
theorem d_r_kindAt_13 : decode b_r_kindAt 13 = .ok (.iaload, 1) := by decide +kernel
theorem d_r_kindAt_14 : decode b_r_kindAt 14 = .ok (.goto 4, 3) := by decide +kernel
theorem d_r_kindAt_17 : decode b_r_kindAt 17 = .ok (.iconst (-1), 1) := by decide +kernel
theorem d_r_kindAt_18 : decode b_r_kindAt 18 = .ok (.ireturn, 1) := by decide +kernel
theorem d_r_pipelineEnd_0 : decode b_r_pipelineEnd 0 = .ok (.iconst 0, 1) := by decide +kernel
theorem d_r_pipelineEnd_1 : decode b_r_pipelineEnd 1 = .ok (.istore_n 3, 1) := by decide +kernel
theorem d_r_pipelineEnd_2 : decode b_r_pipelineEnd 2 = .ok (.iload_n 1, 1) := by decide +kernel
theorem d_r_pipelineEnd_3 : decode b_r_pipelineEnd 3 = .ok (.istore 4, 2) := by decide +kernel
theorem d_r_pipelineEnd_5 : decode b_r_pipelineEnd 5 = .ok (.iload 4, 2) := by decide +kernel
theorem d_r_pipelineEnd_7 : decode b_r_pipelineEnd 7 = .ok (.aload_n 0, 1) := by decide +kernel
theorem d_r_pipelineEnd_8 : decode b_r_pipelineEnd 8 = .ok (.getfield 116, 3) := by decide +kernel
theorem d_r_pipelineEnd_11 : decode b_r_pipelineEnd 11 = .ok (.if_icmp .ge 88, 3) := by decide +kernel
theorem d_r_pipelineEnd_14 : decode b_r_pipelineEnd 14 = .ok (.aload_n 0, 1) := by decide +kernel
theorem d_r_pipelineEnd_15 : decode b_r_pipelineEnd 15 = .ok (.getfield 33, 3) := by decide +kernel
theorem d_r_pipelineEnd_18 : decode b_r_pipelineEnd 18 = .ok (.iload 4, 2) := by decide +kernel
theorem d_r_pipelineEnd_20 : decode b_r_pipelineEnd 20 = .ok (.iaload, 1) := by decide +kernel
theorem d_r_pipelineEnd_21 : decode b_r_pipelineEnd 21 = .ok (.istore 5, 2) := by decide +kernel
theorem d_r_pipelineEnd_23 : decode b_r_pipelineEnd 23 = .ok (.iload_n 3, 1) := by decide +kernel
theorem d_r_pipelineEnd_24 : decode b_r_pipelineEnd 24 = .ok (.ifCond .ne 41, 3) := by decide +kernel
theorem d_r_pipelineEnd_27 : decode b_r_pipelineEnd 27 = .ok (.iload 5, 2) := by decide +kernel
theorem d_r_pipelineEnd_29 : decode b_r_pipelineEnd 29 = .ok (.iconst 1, 1) := by decide +kernel
theorem d_r_pipelineEnd_30 : decode b_r_pipelineEnd 30 = .ok (.if_icmp .eq 32, 3) := by decide +kernel
theorem d_r_pipelineEnd_33 : decode b_r_pipelineEnd 33 = .ok (.iload 5, 2) := by decide +kernel
theorem d_r_pipelineEnd_35 : decode b_r_pipelineEnd 35 = .ok (.iconst 2, 1) := by decide +kernel
theorem d_r_pipelineEnd_36 : decode b_r_pipelineEnd 36 = .ok (.if_icmp .eq 26, 3) := by decide +kernel
theorem d_r_pipelineEnd_39 : decode b_r_pipelineEnd 39 = .ok (.iload 5, 2) := by decide +kernel
theorem d_r_pipelineEnd_41 : decode b_r_pipelineEnd 41 = .ok (.iconst 3, 1) := by decide +kernel
theorem d_r_pipelineEnd_42 : decode b_r_pipelineEnd 42 = .ok (.if_icmp .eq 20, 3) := by decide +kernel
theorem d_r_pipelineEnd_45 : decode b_r_pipelineEnd 45 = .ok (.iload 5, 2) := by decide +kernel
theorem d_r_pipelineEnd_47 : decode b_r_pipelineEnd 47 = .ok (.bipush 9, 2) := by decide +kernel
theorem d_r_pipelineEnd_49 : decode b_r_pipelineEnd 49 = .ok (.if_icmp .eq 13, 3) := by decide +kernel
theorem d_r_pipelineEnd_52 : decode b_r_pipelineEnd 52 = .ok (.iload_n 2, 1) := by decide +kernel
theorem d_r_pipelineEnd_53 : decode b_r_pipelineEnd 53 = .ok (.ifCond .eq 12, 3) := by decide +kernel
theorem d_r_pipelineEnd_56 : decode b_r_pipelineEnd 56 = .ok (.iload 5, 2) := by decide +kernel
theorem d_r_pipelineEnd_58 : decode b_r_pipelineEnd 58 = .ok (.iconst 4, 1) := by decide +kernel
theorem d_r_pipelineEnd_59 : decode b_r_pipelineEnd 59 = .ok (.if_icmp .ne 6, 3) := by decide +kernel
theorem d_r_pipelineEnd_62 : decode b_r_pipelineEnd 62 = .ok (.iload 4, 2) := by decide +kernel
theorem d_r_pipelineEnd_64 : decode b_r_pipelineEnd 64 = .ok (.ireturn, 1) := by decide +kernel
theorem d_r_pipelineEnd_65 : decode b_r_pipelineEnd 65 = .ok (.iload 5, 2) := by decide +kernel
theorem d_r_pipelineEnd_67 : decode b_r_pipelineEnd 67 = .ok (.bipush 8, 2) := by decide +kernel
theorem d_r_pipelineEnd_69 : decode b_r_pipelineEnd 69 = .ok (.if_icmp .ne 9, 3) := by decide +kernel
theorem d_r_pipelineEnd_72 : decode b_r_pipelineEnd 72 = .ok (.iload_n 3, 1) := by decide +kernel
theorem d_r_pipelineEnd_73 : decode b_r_pipelineEnd 73 = .ok (.iconst 1, 1) := by decide +kernel
theorem d_r_pipelineEnd_74 : decode b_r_pipelineEnd 74 = .ok (.iadd, 1) := by decide +kernel
theorem d_r_pipelineEnd_75 : decode b_r_pipelineEnd 75 = .ok (.goto 17, 3) := by decide +kernel
theorem d_r_pipelineEnd_78 : decode b_r_pipelineEnd 78 = .ok (.iload 5, 2) := by decide +kernel
theorem d_r_pipelineEnd_80 : decode b_r_pipelineEnd 80 = .ok (.bipush 9, 2) := by decide +kernel
theorem d_r_pipelineEnd_82 : decode b_r_pipelineEnd 82 = .ok (.if_icmp .ne 9, 3) := by decide +kernel
theorem d_r_pipelineEnd_85 : decode b_r_pipelineEnd 85 = .ok (.iload_n 3, 1) := by decide +kernel
theorem d_r_pipelineEnd_86 : decode b_r_pipelineEnd 86 = .ok (.iconst 1, 1) := by decide +kernel
theorem d_r_pipelineEnd_87 : decode b_r_pipelineEnd 87 = .ok (.isub, 1) := by decide +kernel
theorem d_r_pipelineEnd_88 : decode b_r_pipelineEnd 88 = .ok (.goto 4, 3) := by decide +kernel
theorem d_r_pipelineEnd_91 : decode b_r_pipelineEnd 91 = .ok (.iload_n 3, 1) := by decide +kernel
theorem d_r_pipelineEnd_92 : decode b_r_pipelineEnd 92 = .ok (.istore_n 3, 1) := by decide +kernel
theorem d_r_pipelineEnd_93 : decode b_r_pipelineEnd 93 = .ok (.iinc 4 1, 3) := by decide +kernel
theorem d_r_pipelineEnd_96 : decode b_r_pipelineEnd 96 = .ok (.goto (-91), 3) := by decide +kernel
theorem d_r_pipelineEnd_99 : decode b_r_pipelineEnd 99 = .ok (.aload_n 0, 1) := by decide +kernel
theorem d_r_pipelineEnd_100 : decode b_r_pipelineEnd 100 = .ok (.getfield 116, 3) := by decide +kernel
theorem d_r_pipelineEnd_103 : decode b_r_pipelineEnd 103 = .ok (.ireturn, 1) := by decide +kernel
theorem d_r_startPipeline_0 : decode b_r_startPipeline 0 = .ok (.aload_n 0, 1) := by decide +kernel
theorem d_r_startPipeline_1 : decode b_r_startPipeline 1 = .ok (.getfield 69, 3) := by decide +kernel
theorem d_r_startPipeline_4 : decode b_r_startPipeline 4 = .ok (.aload_n 0, 1) := by decide +kernel
theorem d_r_startPipeline_5 : decode b_r_startPipeline 5 = .ok (.getfield 147, 3) := by decide +kernel
theorem d_r_startPipeline_8 : decode b_r_startPipeline 8 = .ok (.aload_n 0, 1) := by decide +kernel
theorem d_r_startPipeline_9 : decode b_r_startPipeline 9 = .ok (.aload_n 0, 1) := by decide +kernel
theorem d_r_startPipeline_10 : decode b_r_startPipeline 10 = .ok (.getfield 150, 3) := by decide +kernel
theorem d_r_startPipeline_13 : decode b_r_startPipeline 13 = .ok (.invokevirtual 176, 3) := by decide +kernel
theorem d_r_startPipeline_16 : decode b_r_startPipeline 16 = .ok (.bipush 10, 2) := by decide +kernel
theorem d_r_startPipeline_18 : decode b_r_startPipeline 18 = .ok (.if_icmp .ne 7, 3) := by decide +kernel
theorem d_r_startPipeline_21 : decode b_r_startPipeline 21 = .ok (.iconst 1, 1) := by decide +kernel
theorem d_r_startPipeline_22 : decode b_r_startPipeline 22 = .ok (.goto 4, 3) := by decide +kernel
theorem d_r_startPipeline_25 : decode b_r_startPipeline 25 = .ok (.iconst 0, 1) := by decide +kernel
theorem d_r_startPipeline_26 : decode b_r_startPipeline 26 = .ok (.bastore, 1) := by decide +kernel
theorem d_r_startPipeline_27 : decode b_r_startPipeline 27 = .ok (.aload_n 0, 1) := by decide +kernel
theorem d_r_startPipeline_28 : decode b_r_startPipeline 28 = .ok (.aload_n 0, 1) := by decide +kernel
theorem d_r_startPipeline_29 : decode b_r_startPipeline 29 = .ok (.getfield 69, 3) := by decide +kernel
theorem d_r_startPipeline_32 : decode b_r_startPipeline 32 = .ok (.aload_n 0, 1) := by decide +kernel
theorem d_r_startPipeline_33 : decode b_r_startPipeline 33 = .ok (.getfield 147, 3) := by decide +kernel
theorem d_r_startPipeline_36 : decode b_r_startPipeline 36 = .ok (.baload, 1) := by decide +kernel
theorem d_r_startPipeline_37 : decode b_r_startPipeline 37 = .ok (.ifCond .eq 12, 3) := by decide +kernel
theorem d_r_startPipeline_40 : decode b_r_startPipeline 40 = .ok (.aload_n 0, 1) := by decide +kernel
theorem d_r_startPipeline_41 : decode b_r_startPipeline 41 = .ok (.getfield 150, 3) := by decide +kernel
theorem d_r_startPipeline_44 : decode b_r_startPipeline 44 = .ok (.iconst 1, 1) := by decide +kernel
theorem d_r_startPipeline_45 : decode b_r_startPipeline 45 = .ok (.iadd, 1) := by decide +kernel
theorem d_r_startPipeline_46 : decode b_r_startPipeline 46 = .ok (.goto 7, 3) := by decide +kernel
theorem d_r_startPipeline_49 : decode b_r_startPipeline 49 = .ok (.aload_n 0, 1) := by decide +kernel
theorem d_r_startPipeline_50 : decode b_r_startPipeline 50 = .ok (.getfield 150, 3) := by decide +kernel
theorem d_r_startPipeline_53 : decode b_r_startPipeline 53 = .ok (.putfield 150, 3) := by decide +kernel
theorem d_r_startPipeline_56 : decode b_r_startPipeline 56 = .ok (.aload_n 0, 1) := by decide +kernel
theorem d_r_startPipeline_57 : decode b_r_startPipeline 57 = .ok (.getfield 66, 3) := by decide +kernel
theorem d_r_startPipeline_60 : decode b_r_startPipeline 60 = .ok (.aload_n 0, 1) := by decide +kernel
theorem d_r_startPipeline_61 : decode b_r_startPipeline 61 = .ok (.getfield 147, 3) := by decide +kernel
theorem d_r_startPipeline_64 : decode b_r_startPipeline 64 = .ok (.aload_n 0, 1) := by decide +kernel
theorem d_r_startPipeline_65 : decode b_r_startPipeline 65 = .ok (.aload_n 0, 1) := by decide +kernel
theorem d_r_startPipeline_66 : decode b_r_startPipeline 66 = .ok (.aload_n 0, 1) := by decide +kernel
theorem d_r_startPipeline_67 : decode b_r_startPipeline 67 = .ok (.getfield 150, 3) := by decide +kernel
theorem d_r_startPipeline_70 : decode b_r_startPipeline 70 = .ok (.iconst 1, 1) := by decide +kernel
theorem d_r_startPipeline_71 : decode b_r_startPipeline 71 = .ok (.invokevirtual 182, 3) := by decide +kernel
theorem d_r_startPipeline_74 : decode b_r_startPipeline 74 = .ok (.invokevirtual 176, 3) := by decide +kernel
theorem d_r_startPipeline_77 : decode b_r_startPipeline 77 = .ok (.iconst 4, 1) := by decide +kernel
theorem d_r_startPipeline_78 : decode b_r_startPipeline 78 = .ok (.if_icmp .ne 7, 3) := by decide +kernel
theorem d_r_startPipeline_81 : decode b_r_startPipeline 81 = .ok (.iconst 1, 1) := by decide +kernel
theorem d_r_startPipeline_82 : decode b_r_startPipeline 82 = .ok (.goto 4, 3) := by decide +kernel
theorem d_r_startPipeline_85 : decode b_r_startPipeline 85 = .ok (.iconst 0, 1) := by decide +kernel
theorem d_r_startPipeline_86 : decode b_r_startPipeline 86 = .ok (.bastore, 1) := by decide +kernel
theorem d_r_startPipeline_87 : decode b_r_startPipeline 87 = .ok (.aload_n 0, 1) := by decide +kernel
theorem d_r_startPipeline_88 : decode b_r_startPipeline 88 = .ok (.getfield 57, 3) := by decide +kernel
theorem d_r_startPipeline_91 : decode b_r_startPipeline 91 = .ok (.aload_n 0, 1) := by decide +kernel
theorem d_r_startPipeline_92 : decode b_r_startPipeline 92 = .ok (.getfield 147, 3) := by decide +kernel
theorem d_r_startPipeline_95 : decode b_r_startPipeline 95 = .ok (.aload_n 0, 1) := by decide +kernel
theorem d_r_startPipeline_96 : decode b_r_startPipeline 96 = .ok (.getfield 51, 3) := by decide +kernel
theorem d_r_startPipeline_99 : decode b_r_startPipeline 99 = .ok (.aload_n 0, 1) := by decide +kernel
theorem d_r_startPipeline_100 : decode b_r_startPipeline 100 = .ok (.getfield 147, 3) := by decide +kernel
theorem d_r_startPipeline_103 : decode b_r_startPipeline 103 = .ok (.iaload, 1) := by decide +kernel
theorem d_r_startPipeline_104 : decode b_r_startPipeline 104 = .ok (.iastore, 1) := by decide +kernel
theorem d_r_startPipeline_105 : decode b_r_startPipeline 105 = .ok (.return_, 1) := by decide +kernel
theorem d_r_letterOf_0 : decode b_r_letterOf 0 = .ok (.aload_n 0, 1) := by decide +kernel
theorem d_r_letterOf_1 : decode b_r_letterOf 1 = .ok (.getfield 48, 3) := by decide +kernel
theorem d_r_letterOf_4 : decode b_r_letterOf 4 = .ok (.aload_n 0, 1) := by decide +kernel
theorem d_r_letterOf_5 : decode b_r_letterOf 5 = .ok (.getfield 200, 3) := by decide +kernel
theorem d_r_letterOf_8 : decode b_r_letterOf 8 = .ok (.iload_n 1, 1) := by decide +kernel
theorem d_r_letterOf_9 : decode b_r_letterOf 9 = .ok (.iastore, 1) := by decide +kernel
theorem d_r_letterOf_10 : decode b_r_letterOf 10 = .ok (.aload_n 0, 1) := by decide +kernel
theorem d_r_letterOf_11 : decode b_r_letterOf 11 = .ok (.dup, 1) := by decide +kernel
theorem d_r_letterOf_12 : decode b_r_letterOf 12 = .ok (.getfield 200, 3) := by decide +kernel
theorem d_r_letterOf_15 : decode b_r_letterOf 15 = .ok (.iconst 1, 1) := by decide +kernel
theorem d_r_letterOf_16 : decode b_r_letterOf 16 = .ok (.iadd, 1) := by decide +kernel
theorem d_r_letterOf_17 : decode b_r_letterOf 17 = .ok (.putfield 200, 3) := by decide +kernel
theorem d_r_letterOf_20 : decode b_r_letterOf 20 = .ok (.return_, 1) := by decide +kernel
theorem d_r_scale_0 : decode b_r_scale 0 = .ok (.iload_n 0, 1) := by decide +kernel
theorem d_r_scale_1 : decode b_r_scale 1 = .ok (.bipush 100, 2) := by decide +kernel
theorem d_r_scale_3 : decode b_r_scale 3 = .ok (.if_icmp .lt 8, 3) := by decide +kernel
theorem d_r_scale_6 : decode b_r_scale 6 = .ok (.bipush 100, 2) := by decide +kernel
theorem d_r_scale_8 : decode b_r_scale 8 = .ok (.goto 15, 3) := by decide +kernel
theorem d_r_scale_11 : decode b_r_scale 11 = .ok (.iload_n 0, 1) := by decide +kernel
theorem d_r_scale_12 : decode b_r_scale 12 = .ok (.bipush 10, 2) := by decide +kernel
theorem d_r_scale_14 : decode b_r_scale 14 = .ok (.if_icmp .lt 8, 3) := by decide +kernel
theorem d_r_scale_17 : decode b_r_scale 17 = .ok (.bipush 10, 2) := by decide +kernel
theorem d_r_scale_19 : decode b_r_scale 19 = .ok (.goto 4, 3) := by decide +kernel
theorem d_r_scale_22 : decode b_r_scale 22 = .ok (.iconst 1, 1) := by decide +kernel
theorem d_r_scale_23 : decode b_r_scale 23 = .ok (.ireturn, 1) := by decide +kernel
theorem d_r_expand_0 : decode b_r_expand 0 = .ok (.aload_n 0, 1) := by decide +kernel
theorem d_r_expand_1 : decode b_r_expand 1 = .ok (.getfield 42, 3) := by decide +kernel
theorem d_r_expand_4 : decode b_r_expand 4 = .ok (.aload_n 0, 1) := by decide +kernel
theorem d_r_expand_5 : decode b_r_expand 5 = .ok (.getfield 197, 3) := by decide +kernel
theorem d_r_expand_8 : decode b_r_expand 8 = .ok (.aload_n 0, 1) := by decide +kernel
theorem d_r_expand_9 : decode b_r_expand 9 = .ok (.getfield 200, 3) := by decide +kernel
theorem d_r_expand_12 : decode b_r_expand 12 = .ok (.iastore, 1) := by decide +kernel
theorem d_r_expand_13 : decode b_r_expand 13 = .ok (.iconst 0, 1) := by decide +kernel
theorem d_r_expand_14 : decode b_r_expand 14 = .ok (.istore_n 2, 1) := by decide +kernel
theorem d_r_expand_15 : decode b_r_expand 15 = .ok (.aload_n 0, 1) := by decide +kernel
theorem d_r_expand_16 : decode b_r_expand 16 = .ok (.getfield 36, 3) := by decide +kernel
theorem d_r_expand_19 : decode b_r_expand 19 = .ok (.iload_n 1, 1) := by decide +kernel
theorem d_r_expand_20 : decode b_r_expand 20 = .ok (.iaload, 1) := by decide +kernel
theorem d_r_expand_21 : decode b_r_expand 21 = .ok (.istore_n 3, 1) := by decide +kernel
theorem d_r_expand_22 : decode b_r_expand 22 = .ok (.iload_n 3, 1) := by decide +kernel
theorem d_r_expand_23 : decode b_r_expand 23 = .ok (.aload_n 0, 1) := by decide +kernel
theorem d_r_expand_24 : decode b_r_expand 24 = .ok (.getfield 39, 3) := by decide +kernel
theorem d_r_expand_27 : decode b_r_expand 27 = .ok (.iload_n 1, 1) := by decide +kernel
theorem d_r_expand_28 : decode b_r_expand 28 = .ok (.iaload, 1) := by decide +kernel
theorem d_r_expand_29 : decode b_r_expand 29 = .ok (.if_icmp .ge 143, 3) := by decide +kernel
theorem d_r_expand_32 : decode b_r_expand 32 = .ok (.aload_n 0, 1) := by decide +kernel
theorem d_r_expand_33 : decode b_r_expand 33 = .ok (.getfield 30, 3) := by decide +kernel
theorem d_r_expand_36 : decode b_r_expand 36 = .ok (.iload_n 3, 1) := by decide +kernel
theorem d_r_expand_37 : decode b_r_expand 37 = .ok (.iaload, 1) := by decide +kernel
theorem d_r_expand_38 : decode b_r_expand 38 = .ok (.bipush 36, 2) := by decide +kernel
theorem d_r_expand_40 : decode b_r_expand 40 = .ok (.if_icmp .ne 36, 3) := by decide +kernel
theorem d_r_expand_43 : decode b_r_expand 43 = .ok (.iload_n 2, 1) := by decide +kernel
theorem d_r_expand_44 : decode b_r_expand 44 = .ok (.ifCond .ne 32, 3) := by decide +kernel
theorem d_r_expand_47 : decode b_r_expand 47 = .ok (.iload_n 3, 1) := by decide +kernel
theorem d_r_expand_48 : decode b_r_expand 48 = .ok (.iconst 1, 1) := by decide +kernel
theorem d_r_expand_49 : decode b_r_expand 49 = .ok (.iadd, 1) := by decide +kernel
theorem d_r_expand_50 : decode b_r_expand 50 = .ok (.aload_n 0, 1) := by decide +kernel
theorem d_r_expand_51 : decode b_r_expand 51 = .ok (.getfield 39, 3) := by decide +kernel
theorem d_r_expand_54 : decode b_r_expand 54 = .ok (.iload_n 1, 1) := by decide +kernel
theorem d_r_expand_55 : decode b_r_expand 55 = .ok (.iaload, 1) := by decide +kernel
theorem d_r_expand_56 : decode b_r_expand 56 = .ok (.if_icmp .ge 20, 3) := by decide +kernel
theorem d_r_expand_59 : decode b_r_expand 59 = .ok (.aload_n 0, 1) := by decide +kernel
theorem d_r_expand_60 : decode b_r_expand 60 = .ok (.getfield 30, 3) := by decide +kernel
theorem d_r_expand_63 : decode b_r_expand 63 = .ok (.iload_n 3, 1) := by decide +kernel
theorem d_r_expand_64 : decode b_r_expand 64 = .ok (.iconst 1, 1) := by decide +kernel
theorem d_r_expand_65 : decode b_r_expand 65 = .ok (.iadd, 1) := by decide +kernel
theorem d_r_expand_66 : decode b_r_expand 66 = .ok (.iaload, 1) := by decide +kernel
theorem d_r_expand_67 : decode b_r_expand 67 = .ok (.bipush 63, 2) := by decide +kernel
theorem d_r_expand_69 : decode b_r_expand 69 = .ok (.if_icmp .ne 7, 3) := by decide +kernel
theorem d_r_expand_72 : decode b_r_expand 72 = .ok (.iconst 1, 1) := by decide +kernel
theorem d_r_expand_73 : decode b_r_expand 73 = .ok (.goto 4, 3) := by decide +kernel
theorem d_r_expand_76 : decode b_r_expand 76 = .ok (.iconst 0, 1) := by decide +kernel
theorem d_r_expand_77 : decode b_r_expand 77 = .ok (.istore 4, 2) := by decide +kernel
theorem d_r_expand_79 : decode b_r_expand 79 = .ok (.aload_n 0, 1) := by decide +kernel
theorem d_r_expand_80 : decode b_r_expand 80 = .ok (.getfield 30, 3) := by decide +kernel
theorem d_r_expand_83 : decode b_r_expand 83 = .ok (.iload_n 3, 1) := by decide +kernel
theorem d_r_expand_84 : decode b_r_expand 84 = .ok (.iaload, 1) := by decide +kernel
theorem d_r_expand_85 : decode b_r_expand 85 = .ok (.bipush 39, 2) := by decide +kernel
theorem d_r_expand_87 : decode b_r_expand 87 = .ok (.if_icmp .ne 16, 3) := by decide +kernel
theorem d_r_expand_90 : decode b_r_expand 90 = .ok (.iload_n 2, 1) := by decide +kernel
theorem d_r_expand_91 : decode b_r_expand 91 = .ok (.ifCond .ne 7, 3) := by decide +kernel
theorem d_r_expand_94 : decode b_r_expand 94 = .ok (.iconst 1, 1) := by decide +kernel
theorem d_r_expand_95 : decode b_r_expand 95 = .ok (.goto 4, 3) := by decide +kernel
theorem d_r_expand_98 : decode b_r_expand 98 = .ok (.iconst 0, 1) := by decide +kernel
theorem d_r_expand_99 : decode b_r_expand 99 = .ok (.istore_n 2, 1) := by decide +kernel
theorem d_r_expand_100 : decode b_r_expand 100 = .ok (.goto 66, 3) := by decide +kernel
theorem d_r_expand_103 : decode b_r_expand 103 = .ok (.iload 4, 2) := by decide +kernel
theorem d_r_expand_105 : decode b_r_expand 105 = .ok (.ifCond .ne 16, 3) := by decide +kernel
theorem d_r_expand_108 : decode b_r_expand 108 = .ok (.aload_n 0, 1) := by decide +kernel
theorem d_r_expand_109 : decode b_r_expand 109 = .ok (.aload_n 0, 1) := by decide +kernel
theorem d_r_expand_110 : decode b_r_expand 110 = .ok (.getfield 30, 3) := by decide +kernel
theorem d_r_expand_113 : decode b_r_expand 113 = .ok (.iload_n 3, 1) := by decide +kernel
theorem d_r_expand_114 : decode b_r_expand 114 = .ok (.iaload, 1) := by decide +kernel
theorem d_r_expand_115 : decode b_r_expand 115 = .ok (.invokevirtual 235, 3) := by decide +kernel
theorem d_r_expand_118 : decode b_r_expand 118 = .ok (.goto 48, 3) := by decide +kernel
theorem d_r_expand_121 : decode b_r_expand 121 = .ok (.aload_n 0, 1) := by decide +kernel
theorem d_r_expand_122 : decode b_r_expand 122 = .ok (.getfield 159, 3) := by decide +kernel
theorem d_r_expand_125 : decode b_r_expand 125 = .ok (.invokestatic 238, 3) := by decide +kernel
theorem d_r_expand_128 : decode b_r_expand 128 = .ok (.istore 5, 2) := by decide +kernel
theorem d_r_expand_130 : decode b_r_expand 130 = .ok (.iload 5, 2) := by decide +kernel
theorem d_r_expand_132 : decode b_r_expand 132 = .ok (.ifCond .le 30, 3) := by decide +kernel
theorem d_r_expand_135 : decode b_r_expand 135 = .ok (.aload_n 0, 1) := by decide +kernel
theorem d_r_expand_136 : decode b_r_expand 136 = .ok (.bipush 48, 2) := by decide +kernel
theorem d_r_expand_138 : decode b_r_expand 138 = .ok (.aload_n 0, 1) := by decide +kernel
theorem d_r_expand_139 : decode b_r_expand 139 = .ok (.getfield 159, 3) := by decide +kernel
theorem d_r_expand_142 : decode b_r_expand 142 = .ok (.iload 5, 2) := by decide +kernel
theorem d_r_expand_144 : decode b_r_expand 144 = .ok (.idiv, 1) := by decide +kernel
theorem d_r_expand_145 : decode b_r_expand 145 = .ok (.bipush 10, 2) := by decide +kernel
theorem d_r_expand_147 : decode b_r_expand 147 = .ok (.irem, 1) := by decide +kernel
theorem d_r_expand_148 : decode b_r_expand 148 = .ok (.iadd, 1) := by decide +kernel
theorem d_r_expand_149 : decode b_r_expand 149 = .ok (.invokevirtual 235, 3) := by decide +kernel
theorem d_r_expand_152 : decode b_r_expand 152 = .ok (.iload 5, 2) := by decide +kernel
theorem d_r_expand_154 : decode b_r_expand 154 = .ok (.bipush 10, 2) := by decide +kernel
theorem d_r_expand_156 : decode b_r_expand 156 = .ok (.idiv, 1) := by decide +kernel
theorem d_r_expand_157 : decode b_r_expand 157 = .ok (.istore 5, 2) := by decide +kernel
theorem d_r_expand_159 : decode b_r_expand 159 = .ok (.goto (-29), 3) := by decide +kernel
theorem d_r_expand_162 : decode b_r_expand 162 = .ok (.iload_n 3, 1) := by decide +kernel
theorem d_r_expand_163 : decode b_r_expand 163 = .ok (.iconst 1, 1) := by decide +kernel
theorem d_r_expand_164 : decode b_r_expand 164 = .ok (.iadd, 1) := by decide +kernel
theorem d_r_expand_165 : decode b_r_expand 165 = .ok (.istore_n 3, 1) := by decide +kernel
theorem d_r_expand_166 : decode b_r_expand 166 = .ok (.iinc 3 1, 3) := by decide +kernel
theorem d_r_expand_169 : decode b_r_expand 169 = .ok (.goto (-147), 3) := by decide +kernel
theorem d_r_expand_172 : decode b_r_expand 172 = .ok (.aload_n 0, 1) := by decide +kernel
theorem d_r_expand_173 : decode b_r_expand 173 = .ok (.getfield 45, 3) := by decide +kernel
theorem d_r_expand_176 : decode b_r_expand 176 = .ok (.aload_n 0, 1) := by decide +kernel
theorem d_r_expand_177 : decode b_r_expand 177 = .ok (.getfield 197, 3) := by decide +kernel
theorem d_r_expand_180 : decode b_r_expand 180 = .ok (.aload_n 0, 1) := by decide +kernel
theorem d_r_expand_181 : decode b_r_expand 181 = .ok (.getfield 200, 3) := by decide +kernel
theorem d_r_expand_184 : decode b_r_expand 184 = .ok (.iastore, 1) := by decide +kernel
theorem d_r_expand_185 : decode b_r_expand 185 = .ok (.aload_n 0, 1) := by decide +kernel
theorem d_r_expand_186 : decode b_r_expand 186 = .ok (.dup, 1) := by decide +kernel
theorem d_r_expand_187 : decode b_r_expand 187 = .ok (.getfield 197, 3) := by decide +kernel
theorem d_r_expand_190 : decode b_r_expand 190 = .ok (.iconst 1, 1) := by decide +kernel
theorem d_r_expand_191 : decode b_r_expand 191 = .ok (.iadd, 1) := by decide +kernel
theorem d_r_expand_192 : decode b_r_expand 192 = .ok (.putfield 197, 3) := by decide +kernel
theorem d_r_expand_195 : decode b_r_expand 195 = .ok (.return_, 1) := by decide +kernel
theorem d_r_packed_0 : decode b_r_packed 0 = .ok (.iload_n 2, 1) := by decide +kernel
theorem d_r_packed_1 : decode b_r_packed 1 = .ok (.iload_n 1, 1) := by decide +kernel
theorem d_r_packed_2 : decode b_r_packed 2 = .ok (.isub, 1) := by decide +kernel
theorem d_r_packed_3 : decode b_r_packed 3 = .ok (.bipush 7, 2) := by decide +kernel
theorem d_r_packed_5 : decode b_r_packed 5 = .ok (.if_icmp .le 7, 3) := by decide +kernel
theorem d_r_packed_8 : decode b_r_packed 8 = .ok (.ldc2_w 241, 3) := by decide +kernel
theorem d_r_packed_11 : decode b_r_packed 11 = .ok (.lreturn, 1) := by decide +kernel
theorem d_r_packed_12 : decode b_r_packed 12 = .ok (.lconst 0, 1) := by decide +kernel
theorem d_r_packed_13 : decode b_r_packed 13 = .ok (.lstore_n 3, 1) := by decide +kernel
theorem d_r_packed_14 : decode b_r_packed 14 = .ok (.iconst 0, 1) := by decide +kernel
theorem d_r_packed_15 : decode b_r_packed 15 = .ok (.istore 5, 2) := by decide +kernel
theorem d_r_packed_17 : decode b_r_packed 17 = .ok (.iload 5, 2) := by decide +kernel
theorem d_r_packed_19 : decode b_r_packed 19 = .ok (.bipush 7, 2) := by decide +kernel
theorem d_r_packed_21 : decode b_r_packed 21 = .ok (.if_icmp .ge 37, 3) := by decide +kernel
theorem d_r_packed_24 : decode b_r_packed 24 = .ok (.lload_n 3, 1) := by decide +kernel
theorem d_r_packed_25 : decode b_r_packed 25 = .ok (.bipush 8, 2) := by decide +kernel
theorem d_r_packed_27 : decode b_r_packed 27 = .ok (.lshl, 1) := by decide +kernel
theorem d_r_packed_28 : decode b_r_packed 28 = .ok (.iload_n 1, 1) := by decide +kernel
theorem d_r_packed_29 : decode b_r_packed 29 = .ok (.iload 5, 2) := by decide +kernel
theorem d_r_packed_31 : decode b_r_packed 31 = .ok (.iadd, 1) := by decide +kernel
theorem d_r_packed_32 : decode b_r_packed 32 = .ok (.iload_n 2, 1) := by decide +kernel
theorem d_r_packed_33 : decode b_r_packed 33 = .ok (.if_icmp .ge 15, 3) := by decide +kernel
theorem d_r_packed_36 : decode b_r_packed 36 = .ok (.aload_n 0, 1) := by decide +kernel
theorem d_r_packed_37 : decode b_r_packed 37 = .ok (.getfield 48, 3) := by decide +kernel
theorem d_r_packed_40 : decode b_r_packed 40 = .ok (.iload_n 1, 1) := by decide +kernel
theorem d_r_packed_41 : decode b_r_packed 41 = .ok (.iload 5, 2) := by decide +kernel
theorem d_r_packed_43 : decode b_r_packed 43 = .ok (.iadd, 1) := by decide +kernel
theorem d_r_packed_44 : decode b_r_packed 44 = .ok (.iaload, 1) := by decide +kernel
theorem d_r_packed_45 : decode b_r_packed 45 = .ok (.goto 4, 3) := by decide +kernel
theorem d_r_packed_48 : decode b_r_packed 48 = .ok (.iconst 0, 1) := by decide +kernel
theorem d_r_packed_49 : decode b_r_packed 49 = .ok (.i2l, 1) := by decide +kernel
theorem d_r_packed_50 : decode b_r_packed 50 = .ok (.lor, 1) := by decide +kernel
theorem d_r_packed_51 : decode b_r_packed 51 = .ok (.lstore_n 3, 1) := by decide +kernel
theorem d_r_packed_52 : decode b_r_packed 52 = .ok (.iinc 5 1, 3) := by decide +kernel
theorem d_r_packed_55 : decode b_r_packed 55 = .ok (.goto (-38), 3) := by decide +kernel
theorem d_r_packed_58 : decode b_r_packed 58 = .ok (.lload_n 3, 1) := by decide +kernel
theorem d_r_packed_59 : decode b_r_packed 59 = .ok (.lreturn, 1) := by decide +kernel
theorem d_r_isDots_0 : decode b_r_isDots 0 = .ok (.iload_n 2, 1) := by decide +kernel
theorem d_r_isDots_1 : decode b_r_isDots 1 = .ok (.iload_n 1, 1) := by decide +kernel
theorem d_r_isDots_2 : decode b_r_isDots 2 = .ok (.isub, 1) := by decide +kernel
theorem d_r_isDots_3 : decode b_r_isDots 3 = .ok (.iconst 1, 1) := by decide +kernel
theorem d_r_isDots_4 : decode b_r_isDots 4 = .ok (.if_icmp .ne 14, 3) := by decide +kernel
theorem d_r_isDots_7 : decode b_r_isDots 7 = .ok (.aload_n 0, 1) := by decide +kernel
theorem d_r_isDots_8 : decode b_r_isDots 8 = .ok (.getfield 48, 3) := by decide +kernel
theorem d_r_isDots_11 : decode b_r_isDots 11 = .ok (.iload_n 1, 1) := by decide +kernel
theorem d_r_isDots_12 : decode b_r_isDots 12 = .ok (.iaload, 1) := by decide +kernel
theorem d_r_isDots_13 : decode b_r_isDots 13 = .ok (.bipush 46, 2) := by decide +kernel
theorem d_r_isDots_15 : decode b_r_isDots 15 = .ok (.if_icmp .eq 34, 3) := by decide +kernel
theorem d_r_isDots_18 : decode b_r_isDots 18 = .ok (.iload_n 2, 1) := by decide +kernel
theorem d_r_isDots_19 : decode b_r_isDots 19 = .ok (.iload_n 1, 1) := by decide +kernel
theorem d_r_isDots_20 : decode b_r_isDots 20 = .ok (.isub, 1) := by decide +kernel
theorem d_r_isDots_21 : decode b_r_isDots 21 = .ok (.iconst 2, 1) := by decide +kernel
theorem d_r_isDots_22 : decode b_r_isDots 22 = .ok (.if_icmp .ne 31, 3) := by decide +kernel
theorem d_r_isDots_25 : decode b_r_isDots 25 = .ok (.aload_n 0, 1) := by decide +kernel
theorem d_r_isDots_26 : decode b_r_isDots 26 = .ok (.getfield 48, 3) := by decide +kernel
theorem d_r_isDots_29 : decode b_r_isDots 29 = .ok (.iload_n 1, 1) := by decide +kernel
theorem d_r_isDots_30 : decode b_r_isDots 30 = .ok (.iaload, 1) := by decide +kernel
theorem d_r_isDots_31 : decode b_r_isDots 31 = .ok (.bipush 46, 2) := by decide +kernel
theorem d_r_isDots_33 : decode b_r_isDots 33 = .ok (.if_icmp .ne 20, 3) := by decide +kernel
theorem d_r_isDots_36 : decode b_r_isDots 36 = .ok (.aload_n 0, 1) := by decide +kernel
theorem d_r_isDots_37 : decode b_r_isDots 37 = .ok (.getfield 48, 3) := by decide +kernel
theorem d_r_isDots_40 : decode b_r_isDots 40 = .ok (.iload_n 1, 1) := by decide +kernel
theorem d_r_isDots_41 : decode b_r_isDots 41 = .ok (.iconst 1, 1) := by decide +kernel
theorem d_r_isDots_42 : decode b_r_isDots 42 = .ok (.iadd, 1) := by decide +kernel
theorem d_r_isDots_43 : decode b_r_isDots 43 = .ok (.iaload, 1) := by decide +kernel
theorem d_r_isDots_44 : decode b_r_isDots 44 = .ok (.bipush 46, 2) := by decide +kernel
theorem d_r_isDots_46 : decode b_r_isDots 46 = .ok (.if_icmp .ne 7, 3) := by decide +kernel
theorem d_r_isDots_49 : decode b_r_isDots 49 = .ok (.iconst 1, 1) := by decide +kernel
theorem d_r_isDots_50 : decode b_r_isDots 50 = .ok (.goto 4, 3) := by decide +kernel
theorem d_r_isDots_53 : decode b_r_isDots 53 = .ok (.iconst 0, 1) := by decide +kernel
theorem d_r_isDots_54 : decode b_r_isDots 54 = .ok (.ireturn, 1) := by decide +kernel
theorem d_r_child_0 : decode b_r_child 0 = .ok (.iconst 1, 1) := by decide +kernel
theorem d_r_child_1 : decode b_r_child 1 = .ok (.istore 4, 2) := by decide +kernel
theorem d_r_child_3 : decode b_r_child 3 = .ok (.iload 4, 2) := by decide +kernel
theorem d_r_child_5 : decode b_r_child 5 = .ok (.bipush 13, 2) := by decide +kernel
theorem d_r_child_7 : decode b_r_child 7 = .ok (.if_icmp .ge 45, 3) := by decide +kernel
theorem d_r_child_10 : decode b_r_child 10 = .ok (.aload_n 0, 1) := by decide +kernel
theorem d_r_child_11 : decode b_r_child 11 = .ok (.getfield 7, 3) := by decide +kernel
theorem d_r_child_14 : decode b_r_child 14 = .ok (.iload 4, 2) := by decide +kernel
theorem d_r_child_16 : decode b_r_child 16 = .ok (.baload, 1) := by decide +kernel
theorem d_r_child_17 : decode b_r_child 17 = .ok (.ifCond .eq 29, 3) := by decide +kernel
theorem d_r_child_20 : decode b_r_child 20 = .ok (.aload_n 0, 1) := by decide +kernel
theorem d_r_child_21 : decode b_r_child 21 = .ok (.getfield 16, 3) := by decide +kernel
theorem d_r_child_24 : decode b_r_child 24 = .ok (.iload 4, 2) := by decide +kernel
theorem d_r_child_26 : decode b_r_child 26 = .ok (.iaload, 1) := by decide +kernel
theorem d_r_child_27 : decode b_r_child 27 = .ok (.iload_n 1, 1) := by decide +kernel
theorem d_r_child_28 : decode b_r_child 28 = .ok (.if_icmp .ne 18, 3) := by decide +kernel
theorem d_r_child_31 : decode b_r_child 31 = .ok (.aload_n 0, 1) := by decide +kernel
theorem d_r_child_32 : decode b_r_child 32 = .ok (.getfield 20, 3) := by decide +kernel
theorem d_r_child_35 : decode b_r_child 35 = .ok (.iload 4, 2) := by decide +kernel
theorem d_r_child_37 : decode b_r_child 37 = .ok (.laload, 1) := by decide +kernel
theorem d_r_child_38 : decode b_r_child 38 = .ok (.lload_n 2, 1) := by decide +kernel
theorem d_r_child_39 : decode b_r_child 39 = .ok (.lcmp, 1) := by decide +kernel
theorem d_r_child_40 : decode b_r_child 40 = .ok (.ifCond .ne 6, 3) := by decide +kernel
theorem d_r_child_43 : decode b_r_child 43 = .ok (.iload 4, 2) := by decide +kernel
theorem d_r_child_45 : decode b_r_child 45 = .ok (.ireturn, 1) := by decide +kernel
