theorem w_640 : (Jvm.Cond.static ({ cls := "TreeShell$Tools", name := "contentOf", desc := "(LTreeShell$Node;)LTreeShell$Text;" } : Jvm.MethodName)) ∈ zt := List.mem_filter.mpr ⟨List.mem_of_getElem? (i := 640) (by decide +kernel), rfl⟩
theorem w_641 : (Jvm.Cond.code ({ cls := "TreeShell$Tools", name := "contentOf", desc := "(LTreeShell$Node;)LTreeShell$Text;" } : Jvm.MethodName) prog_8_method_5_code (1 : Nat) (Option.some (Jvm.ClassFile.FieldType.object "TreeShell$Text"))) ∈ zt := List.mem_filter.mpr ⟨List.mem_of_getElem? (i := 641) (by decide +kernel), rfl⟩
theorem d_cTools_contentOf_0 : decode b_cTools_contentOf 0 = .ok (.aload_n 0, 1) := by decide +kernel
theorem d_cTools_contentOf_1 : decode b_cTools_contentOf 1 = .ok (.ifnonnull 7, 3) := by decide +kernel
theorem d_cTools_contentOf_4 : decode b_cTools_contentOf 4 = .ok (.aconst_null, 1) := by decide +kernel
theorem d_cTools_contentOf_5 : decode b_cTools_contentOf 5 = .ok (.goto 7, 3) := by decide +kernel
theorem d_cTools_contentOf_8 : decode b_cTools_contentOf 8 = .ok (.aload_n 0, 1) := by decide +kernel
theorem d_cTools_contentOf_9 : decode b_cTools_contentOf 9 = .ok (.getfield 100, 3) := by decide +kernel
theorem d_cTools_contentOf_12 : decode b_cTools_contentOf 12 = .ok (.areturn, 1) := by decide +kernel
theorem d_cTools_cat_0 : decode b_cTools_cat 0 = .ok (.aload_n 0, 1) := by decide +kernel
theorem d_cTools_cat_1 : decode b_cTools_cat 1 = .ok (.getfield 9, 3) := by decide +kernel
theorem d_cTools_cat_4 : decode b_cTools_cat 4 = .ok (.getfield 58, 3) := by decide +kernel
theorem d_cTools_cat_7 : decode b_cTools_cat 7 = .ok (.iconst 1, 1) := by decide +kernel
theorem d_cTools_cat_8 : decode b_cTools_cat 8 = .ok (.if_icmp .ne 15, 3) := by decide +kernel
theorem d_cTools_cat_11 : decode b_cTools_cat 11 = .ok (.aload_n 2, 1) := by decide +kernel
theorem d_cTools_cat_12 : decode b_cTools_cat 12 = .ok (.aload_n 1, 1) := by decide +kernel
theorem d_cTools_cat_13 : decode b_cTools_cat 13 = .ok (.invokevirtual 83, 3) := by decide +kernel
theorem d_cTools_cat_16 : decode b_cTools_cat 16 = .ok (.pop, 1) := by decide +kernel
theorem d_cTools_cat_17 : decode b_cTools_cat 17 = .ok (.aload_n 1, 1) := by decide +kernel
theorem d_cTools_cat_18 : decode b_cTools_cat 18 = .ok (.invokevirtual 87, 3) := by decide +kernel
theorem d_cTools_cat_21 : decode b_cTools_cat 21 = .ok (.iconst 0, 1) := by decide +kernel
theorem d_cTools_cat_22 : decode b_cTools_cat 22 = .ok (.ireturn, 1) := by decide +kernel
theorem d_cTools_cat_23 : decode b_cTools_cat 23 = .ok (.iconst 1, 1) := by decide +kernel
theorem d_cTools_cat_24 : decode b_cTools_cat 24 = .ok (.istore_n 3, 1) := by decide +kernel
theorem d_cTools_cat_25 : decode b_cTools_cat 25 = .ok (.iload_n 3, 1) := by decide +kernel
theorem d_cTools_cat_26 : decode b_cTools_cat 26 = .ok (.aload_n 0, 1) := by decide +kernel
theorem d_cTools_cat_27 : decode b_cTools_cat 27 = .ok (.getfield 9, 3) := by decide +kernel
theorem d_cTools_cat_30 : decode b_cTools_cat 30 = .ok (.getfield 58, 3) := by decide +kernel
theorem d_cTools_cat_33 : decode b_cTools_cat 33 = .ok (.if_icmp .ge 29, 3) := by decide +kernel
theorem d_cTools_cat_36 : decode b_cTools_cat 36 = .ok (.aload_n 0, 1) := by decide +kernel
theorem d_cTools_cat_37 : decode b_cTools_cat 37 = .ok (.getfield 15, 3) := by decide +kernel
theorem d_cTools_cat_40 : decode b_cTools_cat 40 = .ok (.aload_n 0, 1) := by decide +kernel
theorem d_cTools_cat_41 : decode b_cTools_cat 41 = .ok (.getfield 9, 3) := by decide +kernel
theorem d_cTools_cat_44 : decode b_cTools_cat 44 = .ok (.iload_n 3, 1) := by decide +kernel
theorem d_cTools_cat_45 : decode b_cTools_cat 45 = .ok (.invokevirtual 90, 3) := by decide +kernel
theorem d_cTools_cat_48 : decode b_cTools_cat 48 = .ok (.invokestatic 96, 3) := by decide +kernel
theorem d_cTools_cat_51 : decode b_cTools_cat 51 = .ok (.ifnonnull 5, 3) := by decide +kernel
theorem d_cTools_cat_54 : decode b_cTools_cat 54 = .ok (.iconst 1, 1) := by decide +kernel
theorem d_cTools_cat_55 : decode b_cTools_cat 55 = .ok (.ireturn, 1) := by decide +kernel
theorem d_cTools_cat_56 : decode b_cTools_cat 56 = .ok (.iinc 3 1, 3) := by decide +kernel
theorem d_cTools_cat_59 : decode b_cTools_cat 59 = .ok (.goto (-34), 3) := by decide +kernel
theorem d_cTools_cat_62 : decode b_cTools_cat 62 = .ok (.iconst 1, 1) := by decide +kernel
theorem d_cTools_cat_63 : decode b_cTools_cat 63 = .ok (.istore_n 3, 1) := by decide +kernel
theorem d_cTools_cat_64 : decode b_cTools_cat 64 = .ok (.iload_n 3, 1) := by decide +kernel
theorem d_cTools_cat_65 : decode b_cTools_cat 65 = .ok (.aload_n 0, 1) := by decide +kernel
theorem d_cTools_cat_66 : decode b_cTools_cat 66 = .ok (.getfield 9, 3) := by decide +kernel
theorem d_cTools_cat_69 : decode b_cTools_cat 69 = .ok (.getfield 58, 3) := by decide +kernel
theorem d_cTools_cat_72 : decode b_cTools_cat 72 = .ok (.if_icmp .ge 38, 3) := by decide +kernel
theorem d_cTools_cat_75 : decode b_cTools_cat 75 = .ok (.aload_n 0, 1) := by decide +kernel
theorem d_cTools_cat_76 : decode b_cTools_cat 76 = .ok (.getfield 15, 3) := by decide +kernel
theorem d_cTools_cat_79 : decode b_cTools_cat 79 = .ok (.aload_n 0, 1) := by decide +kernel
theorem d_cTools_cat_80 : decode b_cTools_cat 80 = .ok (.getfield 9, 3) := by decide +kernel
theorem d_cTools_cat_83 : decode b_cTools_cat 83 = .ok (.iload_n 3, 1) := by decide +kernel
theorem d_cTools_cat_84 : decode b_cTools_cat 84 = .ok (.invokevirtual 90, 3) := by decide +kernel
theorem d_cTools_cat_87 : decode b_cTools_cat 87 = .ok (.invokestatic 96, 3) := by decide +kernel
theorem d_cTools_cat_90 : decode b_cTools_cat 90 = .ok (.astore 4, 2) := by decide +kernel
theorem d_cTools_cat_92 : decode b_cTools_cat 92 = .ok (.aload 4, 2) := by decide +kernel
theorem d_cTools_cat_94 : decode b_cTools_cat 94 = .ok (.ifnull 10, 3) := by decide +kernel
theorem d_cTools_cat_97 : decode b_cTools_cat 97 = .ok (.aload_n 2, 1) := by decide +kernel
theorem d_cTools_cat_98 : decode b_cTools_cat 98 = .ok (.aload 4, 2) := by decide +kernel
theorem d_cTools_cat_100 : decode b_cTools_cat 100 = .ok (.invokevirtual 83, 3) := by decide +kernel
theorem d_cTools_cat_103 : decode b_cTools_cat 103 = .ok (.pop, 1) := by decide +kernel
theorem d_cTools_cat_104 : decode b_cTools_cat 104 = .ok (.iinc 3 1, 3) := by decide +kernel
theorem d_cTools_cat_107 : decode b_cTools_cat 107 = .ok (.goto (-43), 3) := by decide +kernel
theorem d_cTools_cat_110 : decode b_cTools_cat 110 = .ok (.iconst 0, 1) := by decide +kernel
theorem d_cTools_cat_111 : decode b_cTools_cat 111 = .ok (.ireturn, 1) := by decide +kernel
theorem d_cTools_wc_0 : decode b_cTools_wc 0 = .ok (.aload_n 0, 1) := by decide +kernel
theorem d_cTools_wc_1 : decode b_cTools_wc 1 = .ok (.getfield 9, 3) := by decide +kernel
theorem d_cTools_wc_4 : decode b_cTools_wc 4 = .ok (.getfield 58, 3) := by decide +kernel
theorem d_cTools_wc_7 : decode b_cTools_wc 7 = .ok (.iconst 2, 1) := by decide +kernel
theorem d_cTools_wc_8 : decode b_cTools_wc 8 = .ok (.if_icmp .le 5, 3) := by decide +kernel
theorem d_cTools_wc_11 : decode b_cTools_wc 11 = .ok (.iconst 2, 1) := by decide +kernel
theorem d_cTools_wc_12 : decode b_cTools_wc 12 = .ok (.ireturn, 1) := by decide +kernel
theorem d_cTools_wc_13 : decode b_cTools_wc 13 = .ok (.aload_n 0, 1) := by decide +kernel
theorem d_cTools_wc_14 : decode b_cTools_wc 14 = .ok (.getfield 9, 3) := by decide +kernel
theorem d_cTools_wc_17 : decode b_cTools_wc 17 = .ok (.getfield 58, 3) := by decide +kernel
theorem d_cTools_wc_20 : decode b_cTools_wc 20 = .ok (.iconst 1, 1) := by decide +kernel
theorem d_cTools_wc_21 : decode b_cTools_wc 21 = .ok (.if_icmp .ne 7, 3) := by decide +kernel
theorem d_cTools_wc_24 : decode b_cTools_wc 24 = .ok (.iconst 1, 1) := by decide +kernel
theorem d_cTools_wc_25 : decode b_cTools_wc 25 = .ok (.goto 4, 3) := by decide +kernel
theorem d_cTools_wc_28 : decode b_cTools_wc 28 = .ok (.iconst 0, 1) := by decide +kernel
theorem d_cTools_wc_29 : decode b_cTools_wc 29 = .ok (.istore_n 3, 1) := by decide +kernel
theorem d_cTools_wc_30 : decode b_cTools_wc 30 = .ok (.iload_n 3, 1) := by decide +kernel
theorem d_cTools_wc_31 : decode b_cTools_wc 31 = .ok (.ifCond .eq 7, 3) := by decide +kernel
theorem d_cTools_wc_34 : decode b_cTools_wc 34 = .ok (.aload_n 1, 1) := by decide +kernel
theorem d_cTools_wc_35 : decode b_cTools_wc 35 = .ok (.goto 18, 3) := by decide +kernel
theorem d_cTools_wc_38 : decode b_cTools_wc 38 = .ok (.aload_n 0, 1) := by decide +kernel
theorem d_cTools_wc_39 : decode b_cTools_wc 39 = .ok (.getfield 15, 3) := by decide +kernel
theorem d_cTools_wc_42 : decode b_cTools_wc 42 = .ok (.aload_n 0, 1) := by decide +kernel
theorem d_cTools_wc_43 : decode b_cTools_wc 43 = .ok (.getfield 9, 3) := by decide +kernel
theorem d_cTools_wc_46 : decode b_cTools_wc 46 = .ok (.iconst 1, 1) := by decide +kernel
theorem d_cTools_wc_47 : decode b_cTools_wc 47 = .ok (.invokevirtual 90, 3) := by decide +kernel
theorem d_cTools_wc_50 : decode b_cTools_wc 50 = .ok (.invokestatic 96, 3) := by decide +kernel
theorem d_cTools_wc_53 : decode b_cTools_wc 53 = .ok (.astore 4, 2) := by decide +kernel
theorem d_cTools_wc_55 : decode b_cTools_wc 55 = .ok (.aload 4, 2) := by decide +kernel
theorem d_cTools_wc_57 : decode b_cTools_wc 57 = .ok (.ifnonnull 5, 3) := by decide +kernel
theorem d_cTools_wc_60 : decode b_cTools_wc 60 = .ok (.iconst 1, 1) := by decide +kernel
theorem d_cTools_wc_61 : decode b_cTools_wc 61 = .ok (.ireturn, 1) := by decide +kernel
theorem d_cTools_wc_62 : decode b_cTools_wc 62 = .ok (.iconst 0, 1) := by decide +kernel
theorem d_cTools_wc_63 : decode b_cTools_wc 63 = .ok (.istore 5, 2) := by decide +kernel
theorem d_cTools_wc_65 : decode b_cTools_wc 65 = .ok (.iconst 0, 1) := by decide +kernel
theorem d_cTools_wc_66 : decode b_cTools_wc 66 = .ok (.istore 6, 2) := by decide +kernel
theorem d_cTools_wc_68 : decode b_cTools_wc 68 = .ok (.iconst 1, 1) := by decide +kernel
theorem d_cTools_wc_69 : decode b_cTools_wc 69 = .ok (.istore 7, 2) := by decide +kernel
theorem d_cTools_wc_71 : decode b_cTools_wc 71 = .ok (.iconst 0, 1) := by decide +kernel
theorem d_cTools_wc_72 : decode b_cTools_wc 72 = .ok (.istore 8, 2) := by decide +kernel
theorem d_cTools_wc_74 : decode b_cTools_wc 74 = .ok (.iload 8, 2) := by decide +kernel
theorem d_cTools_wc_76 : decode b_cTools_wc 76 = .ok (.aload 4, 2) := by decide +kernel
theorem d_cTools_wc_78 : decode b_cTools_wc 78 = .ok (.getfield 105, 3) := by decide +kernel
theorem d_cTools_wc_81 : decode b_cTools_wc 81 = .ok (.if_icmp .ge 81, 3) := by decide +kernel
theorem d_cTools_wc_84 : decode b_cTools_wc 84 = .ok (.aload 4, 2) := by decide +kernel
theorem d_cTools_wc_86 : decode b_cTools_wc 86 = .ok (.getfield 108, 3) := by decide +kernel
theorem d_cTools_wc_89 : decode b_cTools_wc 89 = .ok (.iload 8, 2) := by decide +kernel
theorem d_cTools_wc_91 : decode b_cTools_wc 91 = .ok (.caload, 1) := by decide +kernel
theorem d_cTools_wc_92 : decode b_cTools_wc 92 = .ok (.istore 9, 2) := by decide +kernel
theorem d_cTools_wc_94 : decode b_cTools_wc 94 = .ok (.iload 9, 2) := by decide +kernel
theorem d_cTools_wc_96 : decode b_cTools_wc 96 = .ok (.bipush 32, 2) := by decide +kernel
theorem d_cTools_wc_98 : decode b_cTools_wc 98 = .ok (.if_icmp .eq 10, 3) := by decide +kernel
theorem d_cTools_wc_101 : decode b_cTools_wc 101 = .ok (.iload 9, 2) := by decide +kernel
theorem d_cTools_wc_103 : decode b_cTools_wc 103 = .ok (.bipush 10, 2) := by decide +kernel
theorem d_cTools_wc_105 : decode b_cTools_wc 105 = .ok (.if_icmp .ne 7, 3) := by decide +kernel
theorem d_cTools_wc_108 : decode b_cTools_wc 108 = .ok (.iconst 1, 1) := by decide +kernel
theorem d_cTools_wc_109 : decode b_cTools_wc 109 = .ok (.goto 4, 3) := by decide +kernel
theorem d_cTools_wc_112 : decode b_cTools_wc 112 = .ok (.iconst 0, 1) := by decide +kernel
theorem d_cTools_wc_113 : decode b_cTools_wc 113 = .ok (.istore 10, 2) := by decide +kernel
theorem d_cTools_wc_115 : decode b_cTools_wc 115 = .ok (.iload 5, 2) := by decide +kernel
theorem d_cTools_wc_117 : decode b_cTools_wc 117 = .ok (.iload 9, 2) := by decide +kernel
theorem d_cTools_wc_119 : decode b_cTools_wc 119 = .ok (.bipush 10, 2) := by decide +kernel
theorem d_cTools_wc_121 : decode b_cTools_wc 121 = .ok (.if_icmp .ne 7, 3) := by decide +kernel
theorem d_cTools_wc_124 : decode b_cTools_wc 124 = .ok (.iconst 1, 1) := by decide +kernel
theorem d_cTools_wc_125 : decode b_cTools_wc 125 = .ok (.goto 4, 3) := by decide +kernel
theorem d_cTools_wc_128 : decode b_cTools_wc 128 = .ok (.iconst 0, 1) := by decide +kernel
theorem d_cTools_wc_129 : decode b_cTools_wc 129 = .ok (.iadd, 1) := by decide +kernel
theorem d_cTools_wc_130 : decode b_cTools_wc 130 = .ok (.istore 5, 2) := by decide +kernel
theorem d_cTools_wc_132 : decode b_cTools_wc 132 = .ok (.iload 6, 2) := by decide +kernel
theorem d_cTools_wc_134 : decode b_cTools_wc 134 = .ok (.iload 7, 2) := by decide +kernel
theorem d_cTools_wc_136 : decode b_cTools_wc 136 = .ok (.ifCond .eq 12, 3) := by decide +kernel
theorem d_cTools_wc_139 : decode b_cTools_wc 139 = .ok (.iload 10, 2) := by decide +kernel
theorem d_cTools_wc_141 : decode b_cTools_wc 141 = .ok (.ifCond .ne 7, 3) := by decide +kernel
theorem d_cTools_wc_144 : decode b_cTools_wc 144 = .ok (.iconst 1, 1) := by decide +kernel
theorem d_cTools_wc_145 : decode b_cTools_wc 145 = .ok (.goto 4, 3) := by decide +kernel
theorem d_cTools_wc_148 : decode b_cTools_wc 148 = .ok (.iconst 0, 1) := by decide +kernel
theorem d_cTools_wc_149 : decode b_cTools_wc 149 = .ok (.iadd, 1) := by decide +kernel
theorem d_cTools_wc_150 : decode b_cTools_wc 150 = .ok (.istore 6, 2) := by decide +kernel
theorem d_cTools_wc_152 : decode b_cTools_wc 152 = .ok (.iload 10, 2) := by decide +kernel
theorem d_cTools_wc_154 : decode b_cTools_wc 154 = .ok (.istore 7, 2) := by decide +kernel
theorem d_cTools_wc_156 : decode b_cTools_wc 156 = .ok (.iinc 8 1, 3) := by decide +kernel
theorem d_cTools_wc_159 : decode b_cTools_wc 159 = .ok (.goto (-85), 3) := by decide +kernel
theorem d_cTools_wc_162 : decode b_cTools_wc 162 = .ok (.aload_n 2, 1) := by decide +kernel
theorem d_cTools_wc_163 : decode b_cTools_wc 163 = .ok (.iload 5, 2) := by decide +kernel
theorem d_cTools_wc_165 : decode b_cTools_wc 165 = .ok (.invokevirtual 112, 3) := by decide +kernel
theorem d_cTools_wc_168 : decode b_cTools_wc 168 = .ok (.aload_n 2, 1) := by decide +kernel
theorem d_cTools_wc_169 : decode b_cTools_wc 169 = .ok (.bipush 32, 2) := by decide +kernel
theorem d_cTools_wc_171 : decode b_cTools_wc 171 = .ok (.invokevirtual 62, 3) := by decide +kernel
theorem d_cTools_wc_174 : decode b_cTools_wc 174 = .ok (.aload_n 2, 1) := by decide +kernel
theorem d_cTools_wc_175 : decode b_cTools_wc 175 = .ok (.iload 6, 2) := by decide +kernel
theorem d_cTools_wc_177 : decode b_cTools_wc 177 = .ok (.invokevirtual 112, 3) := by decide +kernel
theorem d_cTools_wc_180 : decode b_cTools_wc 180 = .ok (.aload_n 2, 1) := by decide +kernel
theorem d_cTools_wc_181 : decode b_cTools_wc 181 = .ok (.bipush 32, 2) := by decide +kernel
theorem d_cTools_wc_183 : decode b_cTools_wc 183 = .ok (.invokevirtual 62, 3) := by decide +kernel
theorem d_cTools_wc_186 : decode b_cTools_wc 186 = .ok (.aload_n 2, 1) := by decide +kernel
theorem d_cTools_wc_187 : decode b_cTools_wc 187 = .ok (.aload 4, 2) := by decide +kernel
theorem d_cTools_wc_189 : decode b_cTools_wc 189 = .ok (.getfield 105, 3) := by decide +kernel
theorem d_cTools_wc_192 : decode b_cTools_wc 192 = .ok (.invokevirtual 112, 3) := by decide +kernel
theorem d_cTools_wc_195 : decode b_cTools_wc 195 = .ok (.aload_n 2, 1) := by decide +kernel
theorem d_cTools_wc_196 : decode b_cTools_wc 196 = .ok (.bipush 10, 2) := by decide +kernel
theorem d_cTools_wc_198 : decode b_cTools_wc 198 = .ok (.invokevirtual 62, 3) := by decide +kernel
theorem d_cTools_wc_201 : decode b_cTools_wc 201 = .ok (.iload_n 3, 1) := by decide +kernel
theorem d_cTools_wc_202 : decode b_cTools_wc 202 = .ok (.ifCond .eq 7, 3) := by decide +kernel
theorem d_cTools_wc_205 : decode b_cTools_wc 205 = .ok (.aload_n 1, 1) := by decide +kernel
theorem d_cTools_wc_206 : decode b_cTools_wc 206 = .ok (.invokevirtual 87, 3) := by decide +kernel
theorem d_cTools_wc_209 : decode b_cTools_wc 209 = .ok (.iconst 0, 1) := by decide +kernel
theorem d_cTools_wc_210 : decode b_cTools_wc 210 = .ok (.ireturn, 1) := by decide +kernel
theorem d_cTools_fits_0 : decode b_cTools_fits 0 = .ok (.iload_n 3, 1) := by decide +kernel
theorem d_cTools_fits_1 : decode b_cTools_fits 1 = .ok (.istore 5, 2) := by decide +kernel
theorem d_cTools_fits_3 : decode b_cTools_fits 3 = .ok (.iload 5, 2) := by decide +kernel
theorem d_cTools_fits_5 : decode b_cTools_fits 5 = .ok (.iload 4, 2) := by decide +kernel
theorem d_cTools_fits_7 : decode b_cTools_fits 7 = .ok (.if_icmp .ge 49, 3) := by decide +kernel
theorem d_cTools_fits_10 : decode b_cTools_fits 10 = .ok (.aload_n 0, 1) := by decide +kernel
theorem d_cTools_fits_11 : decode b_cTools_fits 11 = .ok (.getfield 9, 3) := by decide +kernel
theorem d_cTools_fits_14 : decode b_cTools_fits 14 = .ok (.getfield 68, 3) := by decide +kernel
theorem d_cTools_fits_17 : decode b_cTools_fits 17 = .ok (.getfield 108, 3) := by decide +kernel
theorem d_cTools_fits_20 : decode b_cTools_fits 20 = .ok (.iload 5, 2) := by decide +kernel
theorem d_cTools_fits_22 : decode b_cTools_fits 22 = .ok (.caload, 1) := by decide +kernel
theorem d_cTools_fits_23 : decode b_cTools_fits 23 = .ok (.istore 6, 2) := by decide +kernel
theorem d_cTools_fits_25 : decode b_cTools_fits 25 = .ok (.iload 6, 2) := by decide +kernel
theorem d_cTools_fits_27 : decode b_cTools_fits 27 = .ok (.bipush 46, 2) := by decide +kernel
theorem d_cTools_fits_29 : decode b_cTools_fits 29 = .ok (.if_icmp .eq 21, 3) := by decide +kernel
theorem d_cTools_fits_32 : decode b_cTools_fits 32 = .ok (.iload 6, 2) := by decide +kernel
theorem d_cTools_fits_34 : decode b_cTools_fits 34 = .ok (.aload_n 1, 1) := by decide +kernel
theorem d_cTools_fits_35 : decode b_cTools_fits 35 = .ok (.getfield 108, 3) := by decide +kernel
theorem d_cTools_fits_38 : decode b_cTools_fits 38 = .ok (.iload_n 2, 1) := by decide +kernel
theorem d_cTools_fits_39 : decode b_cTools_fits 39 = .ok (.iload 5, 2) := by decide +kernel
theorem d_cTools_fits_41 : decode b_cTools_fits 41 = .ok (.iadd, 1) := by decide +kernel
theorem d_cTools_fits_42 : decode b_cTools_fits 42 = .ok (.iload_n 3, 1) := by decide +kernel
theorem d_cTools_fits_43 : decode b_cTools_fits 43 = .ok (.isub, 1) := by decide +kernel
theorem d_cTools_fits_44 : decode b_cTools_fits 44 = .ok (.caload, 1) := by decide +kernel
theorem d_cTools_fits_45 : decode b_cTools_fits 45 = .ok (.if_icmp .eq 5, 3) := by decide +kernel
theorem d_cTools_fits_48 : decode b_cTools_fits 48 = .ok (.iconst 0, 1) := by decide +kernel
theorem d_cTools_fits_49 : decode b_cTools_fits 49 = .ok (.ireturn, 1) := by decide +kernel
theorem d_cTools_fits_50 : decode b_cTools_fits 50 = .ok (.iinc 5 1, 3) := by decide +kernel
theorem d_cTools_fits_53 : decode b_cTools_fits 53 = .ok (.goto (-50), 3) := by decide +kernel
theorem d_cTools_fits_56 : decode b_cTools_fits 56 = .ok (.iconst 1, 1) := by decide +kernel
theorem d_cTools_fits_57 : decode b_cTools_fits 57 = .ok (.ireturn, 1) := by decide +kernel
theorem d_cTools_matches_0 : decode b_cTools_matches 0 = .ok (.aload_n 0, 1) := by decide +kernel
theorem d_cTools_matches_1 : decode b_cTools_matches 1 = .ok (.getfield 9, 3) := by decide +kernel
theorem d_cTools_matches_4 : decode b_cTools_matches 4 = .ok (.getfield 68, 3) := by decide +kernel
theorem d_cTools_matches_7 : decode b_cTools_matches 7 = .ok (.getfield 108, 3) := by decide +kernel
theorem d_cTools_matches_10 : decode b_cTools_matches 10 = .ok (.astore 5, 2) := by decide +kernel
theorem d_cTools_matches_12 : decode b_cTools_matches 12 = .ok (.aload_n 0, 1) := by decide +kernel
theorem d_cTools_matches_13 : decode b_cTools_matches 13 = .ok (.getfield 9, 3) := by decide +kernel
theorem d_cTools_matches_16 : decode b_cTools_matches 16 = .ok (.iload 4, 2) := by decide +kernel
theorem d_cTools_matches_18 : decode b_cTools_matches 18 = .ok (.invokevirtual 72, 3) := by decide +kernel
theorem d_cTools_matches_21 : decode b_cTools_matches 21 = .ok (.istore 6, 2) := by decide +kernel
theorem d_cTools_matches_23 : decode b_cTools_matches 23 = .ok (.aload_n 0, 1) := by decide +kernel
theorem d_cTools_matches_24 : decode b_cTools_matches 24 = .ok (.getfield 9, 3) := by decide +kernel
theorem d_cTools_matches_27 : decode b_cTools_matches 27 = .ok (.iload 4, 2) := by decide +kernel
theorem d_cTools_matches_29 : decode b_cTools_matches 29 = .ok (.invokevirtual 76, 3) := by decide +kernel
theorem d_cTools_matches_32 : decode b_cTools_matches 32 = .ok (.istore 7, 2) := by decide +kernel
theorem d_cTools_matches_34 : decode b_cTools_matches 34 = .ok (.iload 6, 2) := by decide +kernel
theorem d_cTools_matches_36 : decode b_cTools_matches 36 = .ok (.iload 7, 2) := by decide +kernel
theorem d_cTools_matches_38 : decode b_cTools_matches 38 = .ok (.if_icmp .ge 17, 3) := by decide +kernel
theorem d_cTools_matches_41 : decode b_cTools_matches 41 = .ok (.aload 5, 2) := by decide +kernel
theorem d_cTools_matches_43 : decode b_cTools_matches 43 = .ok (.iload 6, 2) := by decide +kernel
theorem d_cTools_matches_45 : decode b_cTools_matches 45 = .ok (.caload, 1) := by decide +kernel
theorem d_cTools_matches_46 : decode b_cTools_matches 46 = .ok (.bipush 94, 2) := by decide +kernel
theorem d_cTools_matches_48 : decode b_cTools_matches 48 = .ok (.if_icmp .ne 7, 3) := by decide +kernel
theorem d_cTools_matches_51 : decode b_cTools_matches 51 = .ok (.iconst 1, 1) := by decide +kernel
theorem d_cTools_matches_52 : decode b_cTools_matches 52 = .ok (.goto 4, 3) := by decide +kernel
theorem d_cTools_matches_55 : decode b_cTools_matches 55 = .ok (.iconst 0, 1) := by decide +kernel
theorem d_cTools_matches_56 : decode b_cTools_matches 56 = .ok (.istore 8, 2) := by decide +kernel
theorem d_cTools_matches_58 : decode b_cTools_matches 58 = .ok (.iload 6, 2) := by decide +kernel
theorem d_cTools_matches_60 : decode b_cTools_matches 60 = .ok (.iload 8, 2) := by decide +kernel
theorem d_cTools_matches_62 : decode b_cTools_matches 62 = .ok (.ifCond .eq 7, 3) := by decide +kernel
theorem d_cTools_matches_65 : decode b_cTools_matches 65 = .ok (.iconst 1, 1) := by decide +kernel
theorem d_cTools_matches_66 : decode b_cTools_matches 66 = .ok (.goto 4, 3) := by decide +kernel
theorem d_cTools_matches_69 : decode b_cTools_matches 69 = .ok (.iconst 0, 1) := by decide +kernel
theorem d_cTools_matches_70 : decode b_cTools_matches 70 = .ok (.iadd, 1) := by decide +kernel
theorem d_cTools_matches_71 : decode b_cTools_matches 71 = .ok (.istore 6, 2) := by decide +kernel
theorem d_cTools_matches_73 : decode b_cTools_matches 73 = .ok (.iload 6, 2) := by decide +kernel
theorem d_cTools_matches_75 : decode b_cTools_matches 75 = .ok (.iload 7, 2) := by decide +kernel
theorem d_cTools_matches_77 : decode b_cTools_matches 77 = .ok (.if_icmp .ge 19, 3) := by decide +kernel
theorem d_cTools_matches_80 : decode b_cTools_matches 80 = .ok (.aload 5, 2) := by decide +kernel
theorem d_cTools_matches_82 : decode b_cTools_matches 82 = .ok (.iload 7, 2) := by decide +kernel
theorem d_cTools_matches_84 : decode b_cTools_matches 84 = .ok (.iconst 1, 1) := by decide +kernel
theorem d_cTools_matches_85 : decode b_cTools_matches 85 = .ok (.isub, 1) := by decide +kernel
theorem d_cTools_matches_86 : decode b_cTools_matches 86 = .ok (.caload, 1) := by decide +kernel
theorem d_cTools_matches_87 : decode b_cTools_matches 87 = .ok (.bipush 36, 2) := by decide +kernel
theorem d_cTools_matches_89 : decode b_cTools_matches 89 = .ok (.if_icmp .ne 7, 3) := by decide +kernel
theorem d_cTools_matches_92 : decode b_cTools_matches 92 = .ok (.iconst 1, 1) := by decide +kernel
theorem d_cTools_matches_93 : decode b_cTools_matches 93 = .ok (.goto 4, 3) := by decide +kernel
theorem d_cTools_matches_96 : decode b_cTools_matches 96 = .ok (.iconst 0, 1) := by decide +kernel
theorem d_cTools_matches_97 : decode b_cTools_matches 97 = .ok (.istore 9, 2) := by decide +kernel
theorem d_cTools_matches_99 : decode b_cTools_matches 99 = .ok (.iload 7, 2) := by decide +kernel
theorem d_cTools_matches_101 : decode b_cTools_matches 101 = .ok (.iload 9, 2) := by decide +kernel
theorem d_cTools_matches_103 : decode b_cTools_matches 103 = .ok (.ifCond .eq 7, 3) := by decide +kernel
theorem d_cTools_matches_106 : decode b_cTools_matches 106 = .ok (.iconst 1, 1) := by decide +kernel
theorem d_cTools_matches_107 : decode b_cTools_matches 107 = .ok (.goto 4, 3) := by decide +kernel
theorem d_cTools_matches_110 : decode b_cTools_matches 110 = .ok (.iconst 0, 1) := by decide +kernel
theorem d_cTools_matches_111 : decode b_cTools_matches 111 = .ok (.isub, 1) := by decide +kernel
theorem d_cTools_matches_112 : decode b_cTools_matches 112 = .ok (.istore 7, 2) := by decide +kernel
theorem d_cTools_matches_114 : decode b_cTools_matches 114 = .ok (.iload_n 3, 1) := by decide +kernel
theorem d_cTools_matches_115 : decode b_cTools_matches 115 = .ok (.iload 7, 2) := by decide +kernel
theorem d_cTools_matches_117 : decode b_cTools_matches 117 = .ok (.iload 6, 2) := by decide +kernel
theorem d_cTools_matches_119 : decode b_cTools_matches 119 = .ok (.isub, 1) := by decide +kernel
theorem d_cTools_matches_120 : decode b_cTools_matches 120 = .ok (.isub, 1) := by decide +kernel
theorem d_cTools_matches_121 : decode b_cTools_matches 121 = .ok (.istore 10, 2) := by decide +kernel
theorem d_cTools_matches_123 : decode b_cTools_matches 123 = .ok (.iload 9, 2) := by decide +kernel
theorem d_cTools_matches_125 : decode b_cTools_matches 125 = .ok (.ifCond .eq 12, 3) := by decide +kernel
theorem d_cTools_matches_128 : decode b_cTools_matches 128 = .ok (.iload_n 2, 1) := by decide +kernel
theorem d_cTools_matches_129 : decode b_cTools_matches 129 = .ok (.iload 10, 2) := by decide +kernel
theorem d_cTools_matches_131 : decode b_cTools_matches 131 = .ok (.invokestatic 122, 3) := by decide +kernel
theorem d_cTools_matches_134 : decode b_cTools_matches 134 = .ok (.goto 4, 3) := by decide +kernel
theorem d_cTools_matches_137 : decode b_cTools_matches 137 = .ok (.iload_n 2, 1) := by decide +kernel
theorem d_cTools_matches_138 : decode b_cTools_matches 138 = .ok (.istore 11, 2) := by decide +kernel
theorem d_cTools_matches_140 : decode b_cTools_matches 140 = .ok (.iload 8, 2) := by decide +kernel
theorem d_cTools_matches_142 : decode b_cTools_matches 142 = .ok (.ifCond .eq 12, 3) := by decide +kernel
theorem d_cTools_matches_145 : decode b_cTools_matches 145 = .ok (.iload_n 2, 1) := by decide +kernel
theorem d_cTools_matches_146 : decode b_cTools_matches 146 = .ok (.iload 10, 2) := by decide +kernel
theorem d_cTools_matches_148 : decode b_cTools_matches 148 = .ok (.invokestatic 128, 3) := by decide +kernel
theorem d_cTools_matches_151 : decode b_cTools_matches 151 = .ok (.goto 5, 3) := by decide +kernel
theorem d_cTools_matches_154 : decode b_cTools_matches 154 = .ok (.iload 10, 2) := by decide +kernel
theorem d_cTools_matches_156 : decode b_cTools_matches 156 = .ok (.istore 12, 2) := by decide +kernel
theorem d_cTools_matches_158 : decode b_cTools_matches 158 = .ok (.iload 11, 2) := by decide +kernel
theorem d_cTools_matches_160 : decode b_cTools_matches 160 = .ok (.istore 13, 2) := by decide +kernel
theorem d_cTools_matches_162 : decode b_cTools_matches 162 = .ok (.iload 13, 2) := by decide +kernel
theorem d_cTools_matches_164 : decode b_cTools_matches 164 = .ok (.iload 12, 2) := by decide +kernel
theorem d_cTools_matches_166 : decode b_cTools_matches 166 = .ok (.if_icmp .gt 25, 3) := by decide +kernel
theorem d_cTools_matches_169 : decode b_cTools_matches 169 = .ok (.aload_n 0, 1) := by decide +kernel
theorem d_cTools_matches_170 : decode b_cTools_matches 170 = .ok (.aload_n 1, 1) := by decide +kernel
theorem d_cTools_matches_171 : decode b_cTools_matches 171 = .ok (.iload 13, 2) := by decide +kernel
theorem d_cTools_matches_173 : decode b_cTools_matches 173 = .ok (.iload 6, 2) := by decide +kernel
theorem d_cTools_matches_175 : decode b_cTools_matches 175 = .ok (.iload 7, 2) := by decide +kernel
theorem d_cTools_matches_177 : decode b_cTools_matches 177 = .ok (.invokevirtual 131, 3) := by decide +kernel
theorem d_cTools_matches_180 : decode b_cTools_matches 180 = .ok (.ifCond .eq 5, 3) := by decide +kernel
theorem d_cTools_matches_183 : decode b_cTools_matches 183 = .ok (.iconst 1, 1) := by decide +kernel
theorem d_cTools_matches_184 : decode b_cTools_matches 184 = .ok (.ireturn, 1) := by decide +kernel
theorem d_cTools_matches_185 : decode b_cTools_matches 185 = .ok (.iinc 13 1, 3) := by decide +kernel
theorem d_cTools_matches_188 : decode b_cTools_matches 188 = .ok (.goto (-26), 3) := by decide +kernel
theorem d_cTools_matches_191 : decode b_cTools_matches 191 = .ok (.iconst 0, 1) := by decide +kernel
theorem d_cTools_matches_192 : decode b_cTools_matches 192 = .ok (.ireturn, 1) := by decide +kernel
theorem d_cTools_ls_0 : decode b_cTools_ls 0 = .ok (.aload_n 0, 1) := by decide +kernel
theorem d_cTools_ls_1 : decode b_cTools_ls 1 = .ok (.getfield 9, 3) := by decide +kernel
theorem d_cTools_ls_4 : decode b_cTools_ls 4 = .ok (.getfield 58, 3) := by decide +kernel
theorem d_cTools_ls_7 : decode b_cTools_ls 7 = .ok (.iconst 2, 1) := by decide +kernel
theorem d_cTools_ls_8 : decode b_cTools_ls 8 = .ok (.if_icmp .le 5, 3) := by decide +kernel
theorem d_cTools_ls_11 : decode b_cTools_ls 11 = .ok (.iconst 2, 1) := by decide +kernel
theorem d_cTools_ls_12 : decode b_cTools_ls 12 = .ok (.ireturn, 1) := by decide +kernel
theorem d_cTools_ls_13 : decode b_cTools_ls 13 = .ok (.aload_n 0, 1) := by decide +kernel
theorem d_cTools_ls_14 : decode b_cTools_ls 14 = .ok (.getfield 9, 3) := by decide +kernel
theorem d_cTools_ls_17 : decode b_cTools_ls 17 = .ok (.getfield 58, 3) := by decide +kernel
theorem d_cTools_ls_20 : decode b_cTools_ls 20 = .ok (.iconst 1, 1) := by decide +kernel
theorem d_cTools_ls_21 : decode b_cTools_ls 21 = .ok (.if_icmp .ne 13, 3) := by decide +kernel
theorem d_cTools_ls_24 : decode b_cTools_ls 24 = .ok (.aload_n 0, 1) := by decide +kernel
theorem d_cTools_ls_25 : decode b_cTools_ls 25 = .ok (.getfield 15, 3) := by decide +kernel
theorem d_cTools_ls_28 : decode b_cTools_ls 28 = .ok (.getfield 134, 3) := by decide +kernel
theorem d_cTools_ls_31 : decode b_cTools_ls 31 = .ok (.goto 15, 3) := by decide +kernel
theorem d_cTools_ls_34 : decode b_cTools_ls 34 = .ok (.aload_n 0, 1) := by decide +kernel
theorem d_cTools_ls_35 : decode b_cTools_ls 35 = .ok (.getfield 15, 3) := by decide +kernel
theorem d_cTools_ls_38 : decode b_cTools_ls 38 = .ok (.aload_n 0, 1) := by decide +kernel
theorem d_cTools_ls_39 : decode b_cTools_ls 39 = .ok (.getfield 9, 3) := by decide +kernel
theorem d_cTools_ls_42 : decode b_cTools_ls 42 = .ok (.iconst 1, 1) := by decide +kernel
theorem d_cTools_ls_43 : decode b_cTools_ls 43 = .ok (.invokevirtual 90, 3) := by decide +kernel
theorem d_cTools_ls_46 : decode b_cTools_ls 46 = .ok (.astore_n 2, 1) := by decide +kernel
theorem d_cTools_ls_47 : decode b_cTools_ls 47 = .ok (.aload_n 2, 1) := by decide +kernel
theorem d_cTools_ls_48 : decode b_cTools_ls 48 = .ok (.ifnonnull 5, 3) := by decide +kernel
theorem d_cTools_ls_51 : decode b_cTools_ls 51 = .ok (.iconst 1, 1) := by decide +kernel
theorem d_cTools_ls_52 : decode b_cTools_ls 52 = .ok (.ireturn, 1) := by decide +kernel
theorem d_cTools_ls_53 : decode b_cTools_ls 53 = .ok (.aload_n 2, 1) := by decide +kernel
theorem d_cTools_ls_54 : decode b_cTools_ls 54 = .ok (.getfield 100, 3) := by decide +kernel
theorem d_cTools_ls_57 : decode b_cTools_ls 57 = .ok (.ifnull 19, 3) := by decide +kernel
theorem d_cTools_ls_60 : decode b_cTools_ls 60 = .ok (.aload_n 1, 1) := by decide +kernel
theorem d_cTools_ls_61 : decode b_cTools_ls 61 = .ok (.aload_n 2, 1) := by decide +kernel
theorem d_cTools_ls_62 : decode b_cTools_ls 62 = .ok (.getfield 138, 3) := by decide +kernel
theorem d_cTools_ls_65 : decode b_cTools_ls 65 = .ok (.invokevirtual 142, 3) := by decide +kernel
theorem d_cTools_ls_68 : decode b_cTools_ls 68 = .ok (.aload_n 1, 1) := by decide +kernel
theorem d_cTools_ls_69 : decode b_cTools_ls 69 = .ok (.bipush 10, 2) := by decide +kernel
theorem d_cTools_ls_71 : decode b_cTools_ls 71 = .ok (.invokevirtual 62, 3) := by decide +kernel
theorem d_cTools_ls_74 : decode b_cTools_ls 74 = .ok (.iconst 0, 1) := by decide +kernel
theorem d_cTools_ls_75 : decode b_cTools_ls 75 = .ok (.ireturn, 1) := by decide +kernel
theorem d_cTools_ls_76 : decode b_cTools_ls 76 = .ok (.aload_n 0, 1) := by decide +kernel
theorem d_cTools_ls_77 : decode b_cTools_ls 77 = .ok (.getfield 15, 3) := by decide +kernel
theorem d_cTools_ls_80 : decode b_cTools_ls 80 = .ok (.aload_n 2, 1) := by decide +kernel
theorem d_cTools_ls_81 : decode b_cTools_ls 81 = .ok (.lconst 0, 1) := by decide +kernel
theorem d_cTools_ls_82 : decode b_cTools_ls 82 = .ok (.invokevirtual 146, 3) := by decide +kernel
theorem d_cTools_ls_85 : decode b_cTools_ls 85 = .ok (.astore_n 3, 1) := by decide +kernel
theorem d_cTools_ls_86 : decode b_cTools_ls 86 = .ok (.iconst 0, 1) := by decide +kernel
theorem d_cTools_ls_87 : decode b_cTools_ls 87 = .ok (.istore 4, 2) := by decide +kernel
theorem d_cTools_ls_89 : decode b_cTools_ls 89 = .ok (.iload 4, 2) := by decide +kernel
theorem d_cTools_ls_91 : decode b_cTools_ls 91 = .ok (.aload_n 0, 1) := by decide +kernel
theorem d_cTools_ls_92 : decode b_cTools_ls 92 = .ok (.getfield 15, 3) := by decide +kernel
theorem d_cTools_ls_95 : decode b_cTools_ls 95 = .ok (.getfield 150, 3) := by decide +kernel
theorem d_cTools_ls_98 : decode b_cTools_ls 98 = .ok (.if_icmp .ge 53, 3) := by decide +kernel
theorem d_cTools_ls_101 : decode b_cTools_ls 101 = .ok (.aload_n 3, 1) := by decide +kernel
theorem d_cTools_ls_102 : decode b_cTools_ls 102 = .ok (.ifnull 49, 3) := by decide +kernel
theorem d_cTools_ls_105 : decode b_cTools_ls 105 = .ok (.aload_n 1, 1) := by decide +kernel
theorem d_cTools_ls_106 : decode b_cTools_ls 106 = .ok (.aload_n 3, 1) := by decide +kernel
theorem d_cTools_ls_107 : decode b_cTools_ls 107 = .ok (.getfield 138, 3) := by decide +kernel
theorem d_cTools_ls_110 : decode b_cTools_ls 110 = .ok (.invokevirtual 142, 3) := by decide +kernel
theorem d_cTools_ls_113 : decode b_cTools_ls 113 = .ok (.aload_n 3, 1) := by decide +kernel
theorem d_cTools_ls_114 : decode b_cTools_ls 114 = .ok (.getfield 100, 3) := by decide +kernel
theorem d_cTools_ls_117 : decode b_cTools_ls 117 = .ok (.ifnonnull 9, 3) := by decide +kernel
theorem d_cTools_ls_120 : decode b_cTools_ls 120 = .ok (.aload_n 1, 1) := by decide +kernel
theorem d_cTools_ls_121 : decode b_cTools_ls 121 = .ok (.bipush 47, 2) := by decide +kernel
theorem d_cTools_ls_123 : decode b_cTools_ls 123 = .ok (.invokevirtual 62, 3) := by decide +kernel
theorem d_cTools_ls_126 : decode b_cTools_ls 126 = .ok (.aload_n 1, 1) := by decide +kernel
theorem d_cTools_ls_127 : decode b_cTools_ls 127 = .ok (.bipush 10, 2) := by decide +kernel
theorem d_cTools_ls_129 : decode b_cTools_ls 129 = .ok (.invokevirtual 62, 3) := by decide +kernel
theorem d_cTools_ls_132 : decode b_cTools_ls 132 = .ok (.aload_n 0, 1) := by decide +kernel
theorem d_cTools_ls_133 : decode b_cTools_ls 133 = .ok (.getfield 15, 3) := by decide +kernel
theorem d_cTools_ls_136 : decode b_cTools_ls 136 = .ok (.aload_n 2, 1) := by decide +kernel
theorem d_cTools_ls_137 : decode b_cTools_ls 137 = .ok (.aload_n 3, 1) := by decide +kernel
theorem d_cTools_ls_138 : decode b_cTools_ls 138 = .ok (.getfield 138, 3) := by decide +kernel
theorem d_cTools_ls_141 : decode b_cTools_ls 141 = .ok (.invokevirtual 146, 3) := by decide +kernel
theorem d_cTools_ls_144 : decode b_cTools_ls 144 = .ok (.astore_n 3, 1) := by decide +kernel
theorem d_cTools_ls_145 : decode b_cTools_ls 145 = .ok (.iinc 4 1, 3) := by decide +kernel
theorem d_cTools_ls_148 : decode b_cTools_ls 148 = .ok (.goto (-59), 3) := by decide +kernel
theorem d_cTools_ls_151 : decode b_cTools_ls 151 = .ok (.iconst 0, 1) := by decide +kernel
theorem d_cTools_ls_152 : decode b_cTools_ls 152 = .ok (.ireturn, 1) := by decide +kernel
theorem d_cTools_cd_0 : decode b_cTools_cd 0 = .ok (.aload_n 0, 1) := by decide +kernel
theorem d_cTools_cd_1 : decode b_cTools_cd 1 = .ok (.getfield 9, 3) := by decide +kernel
theorem d_cTools_cd_4 : decode b_cTools_cd 4 = .ok (.getfield 58, 3) := by decide +kernel
theorem d_cTools_cd_7 : decode b_cTools_cd 7 = .ok (.iconst 2, 1) := by decide +kernel
theorem d_cTools_cd_8 : decode b_cTools_cd 8 = .ok (.if_icmp .le 5, 3) := by decide +kernel
theorem d_cTools_cd_11 : decode b_cTools_cd 11 = .ok (.iconst 2, 1) := by decide +kernel
theorem d_cTools_cd_12 : decode b_cTools_cd 12 = .ok (.ireturn, 1) := by decide +kernel
theorem d_cTools_cd_13 : decode b_cTools_cd 13 = .ok (.aload_n 0, 1) := by decide +kernel
theorem d_cTools_cd_14 : decode b_cTools_cd 14 = .ok (.getfield 9, 3) := by decide +kernel
theorem d_cTools_cd_17 : decode b_cTools_cd 17 = .ok (.getfield 58, 3) := by decide +kernel
theorem d_cTools_cd_20 : decode b_cTools_cd 20 = .ok (.iconst 1, 1) := by decide +kernel
theorem d_cTools_cd_21 : decode b_cTools_cd 21 = .ok (.if_icmp .ne 13, 3) := by decide +kernel
theorem d_cTools_cd_24 : decode b_cTools_cd 24 = .ok (.aload_n 0, 1) := by decide +kernel
theorem d_cTools_cd_25 : decode b_cTools_cd 25 = .ok (.getfield 15, 3) := by decide +kernel
theorem d_cTools_cd_28 : decode b_cTools_cd 28 = .ok (.getfield 158, 3) := by decide +kernel
theorem d_cTools_cd_31 : decode b_cTools_cd 31 = .ok (.goto 15, 3) := by decide +kernel
theorem d_cTools_cd_34 : decode b_cTools_cd 34 = .ok (.aload_n 0, 1) := by decide +kernel
theorem d_cTools_cd_35 : decode b_cTools_cd 35 = .ok (.getfield 15, 3) := by decide +kernel
theorem d_cTools_cd_38 : decode b_cTools_cd 38 = .ok (.aload_n 0, 1) := by decide +kernel
theorem d_cTools_cd_39 : decode b_cTools_cd 39 = .ok (.getfield 9, 3) := by decide +kernel
theorem d_cTools_cd_42 : decode b_cTools_cd 42 = .ok (.iconst 1, 1) := by decide +kernel
theorem d_cTools_cd_43 : decode b_cTools_cd 43 = .ok (.invokevirtual 90, 3) := by decide +kernel
theorem d_cTools_cd_46 : decode b_cTools_cd 46 = .ok (.astore_n 1, 1) := by decide +kernel
theorem d_cTools_cd_47 : decode b_cTools_cd 47 = .ok (.aload_n 1, 1) := by decide +kernel
theorem d_cTools_cd_48 : decode b_cTools_cd 48 = .ok (.ifnull 10, 3) := by decide +kernel
theorem d_cTools_cd_51 : decode b_cTools_cd 51 = .ok (.aload_n 1, 1) := by decide +kernel
theorem d_cTools_cd_52 : decode b_cTools_cd 52 = .ok (.getfield 100, 3) := by decide +kernel
theorem d_cTools_cd_55 : decode b_cTools_cd 55 = .ok (.ifnull 5, 3) := by decide +kernel
theorem d_cTools_cd_58 : decode b_cTools_cd 58 = .ok (.iconst 1, 1) := by decide +kernel
theorem d_cTools_cd_59 : decode b_cTools_cd 59 = .ok (.ireturn, 1) := by decide +kernel
theorem d_cTools_cd_60 : decode b_cTools_cd 60 = .ok (.aload_n 0, 1) := by decide +kernel
theorem d_cTools_cd_61 : decode b_cTools_cd 61 = .ok (.getfield 15, 3) := by decide +kernel
theorem d_cTools_cd_64 : decode b_cTools_cd 64 = .ok (.aload_n 1, 1) := by decide +kernel
theorem d_cTools_cd_65 : decode b_cTools_cd 65 = .ok (.putfield 134, 3) := by decide +kernel
theorem d_cTools_cd_68 : decode b_cTools_cd 68 = .ok (.iconst 0, 1) := by decide +kernel
theorem d_cTools_cd_69 : decode b_cTools_cd 69 = .ok (.ireturn, 1) := by decide +kernel
theorem cw_cTools_contentOf {R : Room} {s : State} {args : Array Value} {ix : Nat} (hts : ∀ w ∈ zt, w.before args s = true) (hl : (Cond.methodLink "TreeShell$Tools" ix y_cTools_contentOf).before args s = true) (h1 : 1 ≤ R.frames) (h2 : 20 ≤ R.locals) : CallB R s args "TreeShell$Tools" ix y_cTools_contentOf b_cTools_contentOf 1 (some (.object "TreeShell$Text")) (.code y_cTools_contentOf b_cTools_contentOf 1 (some (.object "TreeShell$Text")) :: zt) { frames := 0, cells := 0, slots := 0, locals := 0 } 0 0 1 ∧ (Cond.static y_cTools_contentOf).before args s = true := ⟨callB_of 1 hts (zgood w_641) rfl rfl rfl (hts _ w_77) hl ⟨by decide, by decide, by decide +kernel⟩ ⟨h1, h2⟩, hts _ w_640⟩
theorem cw_cTools_cat {R : Room} {s : State} {args : Array Value} {own : String} {ix : Nat} (hts : ∀ w ∈ zt, w.before args s = true) (hl : (Cond.methodLink own ix y_cTools_cat).before args s = true) (h1 : 8 ≤ R.frames) (h2 : 214 ≤ R.locals) : CallW R s args own "TreeShell$Tools" ix y_cTools_cat b_cTools_cat 5 (some .int) (.code y_cTools_cat b_cTools_cat 5 (some .int) :: zt) { frames := 7, cells := 0, slots := 0, locals := 190 } 0 0 2 := ⟨callB_of 2 hts (zgood w_635) rfl rfl rfl (hts _ w_77) hl ⟨by decide, by decide, by decide +kernel⟩ ⟨h1, h2⟩, hts _ w_634, hts _ w_19⟩
theorem cw_cTools_wc {R : Room} {s : State} {args : Array Value} {own : String} {ix : Nat} (hts : ∀ w ∈ zt, w.before args s = true) (hl : (Cond.methodLink own ix y_cTools_wc).before args s = true) (h1 : 3 ≤ R.frames) (h2 : 86 ≤ R.locals) : CallW R s args own "TreeShell$Tools" ix y_cTools_wc b_cTools_wc 11 (some .int) (.code y_cTools_wc b_cTools_wc 11 (some .int) :: zt) { frames := 2, cells := 0, slots := 0, locals := 56 } 0 0 2 := ⟨callB_of 2 hts (zgood w_646) rfl rfl rfl (hts _ w_77) hl ⟨by decide, by decide, by decide +kernel⟩ ⟨h1, h2⟩, hts _ w_645, hts _ w_20⟩
theorem cw_cTools_fits {R : Room} {s : State} {args : Array Value} {own : String} {ix : Nat} (hts : ∀ w ∈ zt, w.before args s = true) (hl : (Cond.methodLink own ix y_cTools_fits).before args s = true) (h1 : 1 ≤ R.frames) (h2 : 26 ≤ R.locals) : CallW R s args own "TreeShell$Tools" ix y_cTools_fits b_cTools_fits 7 (some .boolean) (.code y_cTools_fits b_cTools_fits 7 (some .boolean) :: zt) { frames := 0, cells := 0, slots := 0, locals := 0 } 0 0 4 := ⟨callB_of 4 hts (zgood w_663) rfl rfl rfl (hts _ w_77) hl ⟨by decide, by decide, by decide +kernel⟩ ⟨h1, h2⟩, hts _ w_662, hts _ w_23⟩
theorem cw_cTools_matches {R : Room} {s : State} {args : Array Value} {own : String} {ix : Nat} (hts : ∀ w ∈ zt, w.before args s = true) (hl : (Cond.methodLink own ix y_cTools_matches).before args s = true) (h1 : 2 ≤ R.frames) (h2 : 59 ≤ R.locals) : CallW R s args own "TreeShell$Tools" ix y_cTools_matches b_cTools_matches 14 (some .boolean) (.code y_cTools_matches b_cTools_matches 14 (some .boolean) :: zt) { frames := 1, cells := 0, slots := 0, locals := 26 } 0 0 4 := ⟨callB_of 4 hts (zgood w_657) rfl rfl rfl (hts _ w_77) hl ⟨by decide, by decide, by decide +kernel⟩ ⟨h1, h2⟩, hts _ w_656, hts _ w_22⟩
theorem cw_cTools_ls {R : Room} {s : State} {args : Array Value} {own : String} {ix : Nat} (hts : ∀ w ∈ zt, w.before args s = true) (hl : (Cond.methodLink own ix y_cTools_ls).before args s = true) (h1 : 3 ≤ R.frames) (h2 : 80 ≤ R.locals) : CallW R s args own "TreeShell$Tools" ix y_cTools_ls b_cTools_ls 5 (some .int) (.code y_cTools_ls b_cTools_ls 5 (some .int) :: zt) { frames := 2, cells := 0, slots := 0, locals := 56 } 0 0 1 := ⟨callB_of 1 hts (zgood w_668) rfl rfl rfl (hts _ w_77) hl ⟨by decide, by decide, by decide +kernel⟩ ⟨h1, h2⟩, hts _ w_667, hts _ w_24⟩
theorem cw_cTools_cd {R : Room} {s : State} {args : Array Value} {own : String} {ix : Nat} (hts : ∀ w ∈ zt, w.before args s = true) (hl : (Cond.methodLink own ix y_cTools_cd).before args s = true) (h1 : 3 ≤ R.frames) (h2 : 77 ≤ R.locals) : CallW R s args own "TreeShell$Tools" ix y_cTools_cd b_cTools_cd 2 (some .int) (.code y_cTools_cd b_cTools_cd 2 (some .int) :: zt) { frames := 2, cells := 0, slots := 0, locals := 56 } 0 0 0 := ⟨callB_of 0 hts (zgood w_684) rfl rfl rfl (hts _ w_77) hl ⟨by decide, by decide, by decide +kernel⟩ ⟨h1, h2⟩, hts _ w_683, hts _ w_26⟩
