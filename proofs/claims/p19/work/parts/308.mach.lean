theorem dX9_factor_0 : decode cX9_factor 0 = .ok (.iload_n 1, 1) := by decide +kernel
theorem dX9_factor_1 : decode cX9_factor 1 = .ok (.i2l, 1) := by decide +kernel
theorem dX9_factor_2 : decode cX9_factor 2 = .ok (.lconst 0, 1) := by decide +kernel
theorem dX9_factor_3 : decode cX9_factor 3 = .ok (.ldc2_w 202, 3) := by decide +kernel
theorem dX9_factor_6 : decode cX9_factor 6 = .ok (.invokestatic 75, 3) := by decide +kernel
theorem dX9_factor_9 : decode cX9_factor 9 = .ok (.ifCond .eq 17, 3) := by decide +kernel
theorem dX9_factor_12 : decode cX9_factor 12 = .ok (.iload_n 2, 1) := by decide +kernel
theorem dX9_factor_13 : decode cX9_factor 13 = .ok (.i2l, 1) := by decide +kernel
theorem dX9_factor_14 : decode cX9_factor 14 = .ok (.ldc2_w 141, 3) := by decide +kernel
theorem dX9_factor_17 : decode cX9_factor 17 = .ok (.ldc2_w 136, 3) := by decide +kernel
theorem dX9_factor_20 : decode cX9_factor 20 = .ok (.invokestatic 75, 3) := by decide +kernel
theorem dX9_factor_23 : decode cX9_factor 23 = .ok (.ifCond .ne 7, 3) := by decide +kernel
theorem dX9_factor_26 : decode cX9_factor 26 = .ok (.ldc2_w 109, 3) := by decide +kernel
theorem dX9_factor_29 : decode cX9_factor 29 = .ok (.lreturn, 1) := by decide +kernel
theorem dX9_factor_30 : decode cX9_factor 30 = .ok (.aload_n 0, 1) := by decide +kernel
theorem dX9_factor_31 : decode cX9_factor 31 = .ok (.getfield 45, 3) := by decide +kernel
theorem dX9_factor_34 : decode cX9_factor 34 = .ok (.iload_n 1, 1) := by decide +kernel
theorem dX9_factor_35 : decode cX9_factor 35 = .ok (.laload, 1) := by decide +kernel
theorem dX9_factor_36 : decode cX9_factor 36 = .ok (.lstore_n 3, 1) := by decide +kernel
theorem dX9_factor_37 : decode cX9_factor 37 = .ok (.aload_n 0, 1) := by decide +kernel
theorem dX9_factor_38 : decode cX9_factor 38 = .ok (.getfield 45, 3) := by decide +kernel
theorem dX9_factor_41 : decode cX9_factor 41 = .ok (.iload_n 1, 1) := by decide +kernel
theorem dX9_factor_42 : decode cX9_factor 42 = .ok (.iload_n 2, 1) := by decide +kernel
theorem dX9_factor_43 : decode cX9_factor 43 = .ok (.i2l, 1) := by decide +kernel
theorem dX9_factor_44 : decode cX9_factor 44 = .ok (.lastore, 1) := by decide +kernel
theorem dX9_factor_45 : decode cX9_factor 45 = .ok (.lload_n 3, 1) := by decide +kernel
theorem dX9_factor_46 : decode cX9_factor 46 = .ok (.lreturn, 1) := by decide +kernel
theorem dX9_drop_0 : decode cX9_drop 0 = .ok (.aload_n 0, 1) := by decide +kernel
theorem dX9_drop_1 : decode cX9_drop 1 = .ok (.iload_n 1, 1) := by decide +kernel
theorem dX9_drop_2 : decode cX9_drop 2 = .ok (.invokevirtual 179, 3) := by decide +kernel
theorem dX9_drop_5 : decode cX9_drop 5 = .ok (.ifCond .eq 7, 3) := by decide +kernel
theorem dX9_drop_8 : decode cX9_drop 8 = .ok (.ldc2_w 183, 3) := by decide +kernel
theorem dX9_drop_11 : decode cX9_drop 11 = .ok (.lreturn, 1) := by decide +kernel
theorem dX9_drop_12 : decode cX9_drop 12 = .ok (.aload_n 0, 1) := by decide +kernel
theorem dX9_drop_13 : decode cX9_drop 13 = .ok (.getfield 7, 3) := by decide +kernel
theorem dX9_drop_16 : decode cX9_drop 16 = .ok (.iload_n 1, 1) := by decide +kernel
theorem dX9_drop_17 : decode cX9_drop 17 = .ok (.iconst 0, 1) := by decide +kernel
theorem dX9_drop_18 : decode cX9_drop 18 = .ok (.bastore, 1) := by decide +kernel
theorem dX9_drop_19 : decode cX9_drop 19 = .ok (.aload_n 0, 1) := by decide +kernel
theorem dX9_drop_20 : decode cX9_drop 20 = .ok (.dup, 1) := by decide +kernel
theorem dX9_drop_21 : decode cX9_drop 21 = .ok (.getfield 79, 3) := by decide +kernel
theorem dX9_drop_24 : decode cX9_drop 24 = .ok (.iconst 1, 1) := by decide +kernel
theorem dX9_drop_25 : decode cX9_drop 25 = .ok (.isub, 1) := by decide +kernel
theorem dX9_drop_26 : decode cX9_drop 26 = .ok (.putfield 79, 3) := by decide +kernel
theorem dX9_drop_29 : decode cX9_drop 29 = .ok (.aload_n 0, 1) := by decide +kernel
theorem dX9_drop_30 : decode cX9_drop 30 = .ok (.getfield 79, 3) := by decide +kernel
theorem dX9_drop_33 : decode cX9_drop 33 = .ok (.i2l, 1) := by decide +kernel
theorem dX9_drop_34 : decode cX9_drop 34 = .ok (.lreturn, 1) := by decide +kernel
theorem dX9_isOpenMade_0 : decode cX9_isOpenMade 0 = .ok (.aload_n 0, 1) := by decide +kernel
theorem dX9_isOpenMade_1 : decode cX9_isOpenMade 1 = .ok (.getfield 13, 3) := by decide +kernel
theorem dX9_isOpenMade_4 : decode cX9_isOpenMade 4 = .ok (.iload_n 1, 1) := by decide +kernel
theorem dX9_isOpenMade_5 : decode cX9_isOpenMade 5 = .ok (.iaload, 1) := by decide +kernel
theorem dX9_isOpenMade_6 : decode cX9_isOpenMade 6 = .ok (.iconst 3, 1) := by decide +kernel
theorem dX9_isOpenMade_7 : decode cX9_isOpenMade 7 = .ok (.if_icmp .ne 27, 3) := by decide +kernel
theorem dX9_isOpenMade_10 : decode cX9_isOpenMade 10 = .ok (.aload_n 0, 1) := by decide +kernel
theorem dX9_isOpenMade_11 : decode cX9_isOpenMade 11 = .ok (.getfield 20, 3) := by decide +kernel
theorem dX9_isOpenMade_14 : decode cX9_isOpenMade 14 = .ok (.iload_n 1, 1) := by decide +kernel
theorem dX9_isOpenMade_15 : decode cX9_isOpenMade 15 = .ok (.baload, 1) := by decide +kernel
theorem dX9_isOpenMade_16 : decode cX9_isOpenMade 16 = .ok (.ifCond .ne 18, 3) := by decide +kernel
theorem dX9_isOpenMade_19 : decode cX9_isOpenMade 19 = .ok (.aload_n 0, 1) := by decide +kernel
theorem dX9_isOpenMade_20 : decode cX9_isOpenMade 20 = .ok (.getfield 17, 3) := by decide +kernel
theorem dX9_isOpenMade_23 : decode cX9_isOpenMade 23 = .ok (.iload_n 1, 1) := by decide +kernel
theorem dX9_isOpenMade_24 : decode cX9_isOpenMade 24 = .ok (.iaload, 1) := by decide +kernel
theorem dX9_isOpenMade_25 : decode cX9_isOpenMade 25 = .ok (.bipush 60, 2) := by decide +kernel
theorem dX9_isOpenMade_27 : decode cX9_isOpenMade 27 = .ok (.if_icmp .ge 7, 3) := by decide +kernel
theorem dX9_isOpenMade_30 : decode cX9_isOpenMade 30 = .ok (.iconst 1, 1) := by decide +kernel
theorem dX9_isOpenMade_31 : decode cX9_isOpenMade 31 = .ok (.goto 4, 3) := by decide +kernel
theorem dX9_isOpenMade_34 : decode cX9_isOpenMade 34 = .ok (.iconst 0, 1) := by decide +kernel
theorem dX9_isOpenMade_35 : decode cX9_isOpenMade 35 = .ok (.ireturn, 1) := by decide +kernel
theorem dX9_exact_0 : decode cX9_exact 0 = .ok (.aload_n 0, 1) := by decide +kernel
theorem dX9_exact_1 : decode cX9_exact 1 = .ok (.iload_n 1, 1) := by decide +kernel
theorem dX9_exact_2 : decode cX9_exact 2 = .ok (.invokevirtual 179, 3) := by decide +kernel
theorem dX9_exact_5 : decode cX9_exact 5 = .ok (.ifCond .eq 7, 3) := by decide +kernel
theorem dX9_exact_8 : decode cX9_exact 8 = .ok (.ldc2_w 183, 3) := by decide +kernel
theorem dX9_exact_11 : decode cX9_exact 11 = .ok (.lreturn, 1) := by decide +kernel
theorem dX9_exact_12 : decode cX9_exact 12 = .ok (.iload_n 2, 1) := by decide +kernel
theorem dX9_exact_13 : decode cX9_exact 13 = .ok (.i2l, 1) := by decide +kernel
theorem dX9_exact_14 : decode cX9_exact 14 = .ok (.lconst 0, 1) := by decide +kernel
theorem dX9_exact_15 : decode cX9_exact 15 = .ok (.aload_n 0, 1) := by decide +kernel
theorem dX9_exact_16 : decode cX9_exact 16 = .ok (.getfield 13, 3) := by decide +kernel
theorem dX9_exact_19 : decode cX9_exact 19 = .ok (.iload_n 1, 1) := by decide +kernel
theorem dX9_exact_20 : decode cX9_exact 20 = .ok (.iaload, 1) := by decide +kernel
theorem dX9_exact_21 : decode cX9_exact 21 = .ok (.ifCond .ne 7, 3) := by decide +kernel
theorem dX9_exact_24 : decode cX9_exact 24 = .ok (.lconst 1, 1) := by decide +kernel
theorem dX9_exact_25 : decode cX9_exact 25 = .ok (.goto 6, 3) := by decide +kernel
theorem dX9_exact_28 : decode cX9_exact 28 = .ok (.ldc2_w 185, 3) := by decide +kernel
theorem dX9_exact_31 : decode cX9_exact 31 = .ok (.invokestatic 75, 3) := by decide +kernel
theorem dX9_exact_34 : decode cX9_exact 34 = .ok (.ifCond .ne 7, 3) := by decide +kernel
theorem dX9_exact_37 : decode cX9_exact 37 = .ok (.ldc2_w 109, 3) := by decide +kernel
theorem dX9_exact_40 : decode cX9_exact 40 = .ok (.lreturn, 1) := by decide +kernel
theorem dX9_exact_41 : decode cX9_exact 41 = .ok (.aload_n 0, 1) := by decide +kernel
theorem dX9_exact_42 : decode cX9_exact 42 = .ok (.getfield 13, 3) := by decide +kernel
theorem dX9_exact_45 : decode cX9_exact 45 = .ok (.iload_n 1, 1) := by decide +kernel
theorem dX9_exact_46 : decode cX9_exact 46 = .ok (.iaload, 1) := by decide +kernel
theorem dX9_exact_47 : decode cX9_exact 47 = .ok (.iconst 1, 1) := by decide +kernel
theorem dX9_exact_48 : decode cX9_exact 48 = .ok (.if_icmp .le 9, 3) := by decide +kernel
theorem dX9_exact_51 : decode cX9_exact 51 = .ok (.ldc2_w 143, 3) := by decide +kernel
theorem dX9_exact_54 : decode cX9_exact 54 = .ok (.goto 13, 3) := by decide +kernel
theorem dX9_exact_57 : decode cX9_exact 57 = .ok (.aload_n 0, 1) := by decide +kernel
theorem dX9_exact_58 : decode cX9_exact 58 = .ok (.getfield 30, 3) := by decide +kernel
theorem dX9_exact_61 : decode cX9_exact 61 = .ok (.iconst 4, 1) := by decide +kernel
theorem dX9_exact_62 : decode cX9_exact 62 = .ok (.iload_n 1, 1) := by decide +kernel
theorem dX9_exact_63 : decode cX9_exact 63 = .ok (.imul, 1) := by decide +kernel
theorem dX9_exact_64 : decode cX9_exact 64 = .ok (.iload_n 2, 1) := by decide +kernel
theorem dX9_exact_65 : decode cX9_exact 65 = .ok (.iadd, 1) := by decide +kernel
theorem dX9_exact_66 : decode cX9_exact 66 = .ok (.laload, 1) := by decide +kernel
theorem dX9_exact_67 : decode cX9_exact 67 = .ok (.lreturn, 1) := by decide +kernel
theorem dX9_compare_0 : decode cX9_compare 0 = .ok (.aload_n 0, 1) := by decide +kernel
theorem dX9_compare_1 : decode cX9_compare 1 = .ok (.iload_n 1, 1) := by decide +kernel
theorem dX9_compare_2 : decode cX9_compare 2 = .ok (.invokevirtual 179, 3) := by decide +kernel
theorem dX9_compare_5 : decode cX9_compare 5 = .ok (.ifCond .ne 11, 3) := by decide +kernel
theorem dX9_compare_8 : decode cX9_compare 8 = .ok (.aload_n 0, 1) := by decide +kernel
theorem dX9_compare_9 : decode cX9_compare 9 = .ok (.iload_n 2, 1) := by decide +kernel
theorem dX9_compare_10 : decode cX9_compare 10 = .ok (.invokevirtual 179, 3) := by decide +kernel
theorem dX9_compare_13 : decode cX9_compare 13 = .ok (.ifCond .eq 7, 3) := by decide +kernel
theorem dX9_compare_16 : decode cX9_compare 16 = .ok (.ldc2_w 183, 3) := by decide +kernel
theorem dX9_compare_19 : decode cX9_compare 19 = .ok (.lreturn, 1) := by decide +kernel
theorem dX9_compare_20 : decode cX9_compare 20 = .ok (.aload_n 0, 1) := by decide +kernel
theorem dX9_compare_21 : decode cX9_compare 21 = .ok (.getfield 13, 3) := by decide +kernel
theorem dX9_compare_24 : decode cX9_compare 24 = .ok (.iload_n 1, 1) := by decide +kernel
theorem dX9_compare_25 : decode cX9_compare 25 = .ok (.iaload, 1) := by decide +kernel
theorem dX9_compare_26 : decode cX9_compare 26 = .ok (.iconst 1, 1) := by decide +kernel
theorem dX9_compare_27 : decode cX9_compare 27 = .ok (.if_icmp .ne 72, 3) := by decide +kernel
theorem dX9_compare_30 : decode cX9_compare 30 = .ok (.aload_n 0, 1) := by decide +kernel
theorem dX9_compare_31 : decode cX9_compare 31 = .ok (.getfield 13, 3) := by decide +kernel
theorem dX9_compare_34 : decode cX9_compare 34 = .ok (.iload_n 2, 1) := by decide +kernel
theorem dX9_compare_35 : decode cX9_compare 35 = .ok (.iaload, 1) := by decide +kernel
theorem dX9_compare_36 : decode cX9_compare 36 = .ok (.iconst 1, 1) := by decide +kernel
theorem dX9_compare_37 : decode cX9_compare 37 = .ok (.if_icmp .ne 62, 3) := by decide +kernel
theorem dX9_compare_40 : decode cX9_compare 40 = .ok (.iconst 1, 1) := by decide +kernel
theorem dX9_compare_41 : decode cX9_compare 41 = .ok (.istore_n 3, 1) := by decide +kernel
theorem dX9_compare_42 : decode cX9_compare 42 = .ok (.iconst 0, 1) := by decide +kernel
theorem dX9_compare_43 : decode cX9_compare 43 = .ok (.istore 4, 2) := by decide +kernel
theorem dX9_compare_45 : decode cX9_compare 45 = .ok (.iload 4, 2) := by decide +kernel
theorem dX9_compare_47 : decode cX9_compare 47 = .ok (.iconst 4, 1) := by decide +kernel
theorem dX9_compare_48 : decode cX9_compare 48 = .ok (.if_icmp .ge 45, 3) := by decide +kernel
theorem dX9_compare_51 : decode cX9_compare 51 = .ok (.iload_n 3, 1) := by decide +kernel
theorem dX9_compare_52 : decode cX9_compare 52 = .ok (.ifCond .eq 33, 3) := by decide +kernel
theorem dX9_compare_55 : decode cX9_compare 55 = .ok (.aload_n 0, 1) := by decide +kernel
theorem dX9_compare_56 : decode cX9_compare 56 = .ok (.getfield 30, 3) := by decide +kernel
theorem dX9_compare_59 : decode cX9_compare 59 = .ok (.iconst 4, 1) := by decide +kernel
theorem dX9_compare_60 : decode cX9_compare 60 = .ok (.iload_n 1, 1) := by decide +kernel
theorem dX9_compare_61 : decode cX9_compare 61 = .ok (.imul, 1) := by decide +kernel
theorem dX9_compare_62 : decode cX9_compare 62 = .ok (.iload 4, 2) := by decide +kernel
theorem dX9_compare_64 : decode cX9_compare 64 = .ok (.iadd, 1) := by decide +kernel
theorem dX9_compare_65 : decode cX9_compare 65 = .ok (.laload, 1) := by decide +kernel
theorem dX9_compare_66 : decode cX9_compare 66 = .ok (.aload_n 0, 1) := by decide +kernel
theorem dX9_compare_67 : decode cX9_compare 67 = .ok (.getfield 30, 3) := by decide +kernel
theorem dX9_compare_70 : decode cX9_compare 70 = .ok (.iconst 4, 1) := by decide +kernel
theorem dX9_compare_71 : decode cX9_compare 71 = .ok (.iload_n 2, 1) := by decide +kernel
theorem dX9_compare_72 : decode cX9_compare 72 = .ok (.imul, 1) := by decide +kernel
theorem dX9_compare_73 : decode cX9_compare 73 = .ok (.iload 4, 2) := by decide +kernel
theorem dX9_compare_75 : decode cX9_compare 75 = .ok (.iadd, 1) := by decide +kernel
theorem dX9_compare_76 : decode cX9_compare 76 = .ok (.laload, 1) := by decide +kernel
theorem dX9_compare_77 : decode cX9_compare 77 = .ok (.lcmp, 1) := by decide +kernel
theorem dX9_compare_78 : decode cX9_compare 78 = .ok (.ifCond .ne 7, 3) := by decide +kernel
theorem dX9_compare_81 : decode cX9_compare 81 = .ok (.iconst 1, 1) := by decide +kernel
theorem dX9_compare_82 : decode cX9_compare 82 = .ok (.goto 4, 3) := by decide +kernel
theorem dX9_compare_85 : decode cX9_compare 85 = .ok (.iconst 0, 1) := by decide +kernel
theorem dX9_compare_86 : decode cX9_compare 86 = .ok (.istore_n 3, 1) := by decide +kernel
theorem dX9_compare_87 : decode cX9_compare 87 = .ok (.iinc 4 1, 3) := by decide +kernel
theorem dX9_compare_90 : decode cX9_compare 90 = .ok (.goto (-45), 3) := by decide +kernel
theorem dX9_compare_93 : decode cX9_compare 93 = .ok (.iload_n 3, 1) := by decide +kernel
theorem dX9_compare_94 : decode cX9_compare 94 = .ok (.ifCond .eq 5, 3) := by decide +kernel
theorem dX9_compare_97 : decode cX9_compare 97 = .ok (.lconst 0, 1) := by decide +kernel
theorem dX9_compare_98 : decode cX9_compare 98 = .ok (.lreturn, 1) := by decide +kernel
theorem dX9_compare_99 : decode cX9_compare 99 = .ok (.iconst 0, 1) := by decide +kernel
theorem dX9_compare_100 : decode cX9_compare 100 = .ok (.istore_n 3, 1) := by decide +kernel
theorem dX9_compare_101 : decode cX9_compare 101 = .ok (.iload_n 3, 1) := by decide +kernel
theorem dX9_compare_102 : decode cX9_compare 102 = .ok (.bipush 60, 2) := by decide +kernel
theorem dX9_compare_104 : decode cX9_compare 104 = .ok (.if_icmp .gt 178, 3) := by decide +kernel
theorem dX9_compare_107 : decode cX9_compare 107 = .ok (.iload_n 3, 1) := by decide +kernel
theorem dX9_compare_108 : decode cX9_compare 108 = .ok (.aload_n 0, 1) := by decide +kernel
theorem dX9_compare_109 : decode cX9_compare 109 = .ok (.getfield 17, 3) := by decide +kernel
theorem dX9_compare_112 : decode cX9_compare 112 = .ok (.iload_n 1, 1) := by decide +kernel
theorem dX9_compare_113 : decode cX9_compare 113 = .ok (.iaload, 1) := by decide +kernel
theorem dX9_compare_114 : decode cX9_compare 114 = .ok (.if_icmp .ge 7, 3) := by decide +kernel
theorem dX9_compare_117 : decode cX9_compare 117 = .ok (.iconst 1, 1) := by decide +kernel
theorem dX9_compare_118 : decode cX9_compare 118 = .ok (.goto 4, 3) := by decide +kernel
theorem dX9_compare_121 : decode cX9_compare 121 = .ok (.iconst 0, 1) := by decide +kernel
theorem dX9_compare_122 : decode cX9_compare 122 = .ok (.istore 4, 2) := by decide +kernel
theorem dX9_compare_124 : decode cX9_compare 124 = .ok (.iload_n 3, 1) := by decide +kernel
theorem dX9_compare_125 : decode cX9_compare 125 = .ok (.aload_n 0, 1) := by decide +kernel
theorem dX9_compare_126 : decode cX9_compare 126 = .ok (.getfield 17, 3) := by decide +kernel
theorem dX9_compare_129 : decode cX9_compare 129 = .ok (.iload_n 2, 1) := by decide +kernel
theorem dX9_compare_130 : decode cX9_compare 130 = .ok (.iaload, 1) := by decide +kernel
theorem dX9_compare_131 : decode cX9_compare 131 = .ok (.if_icmp .ge 7, 3) := by decide +kernel
theorem dX9_compare_134 : decode cX9_compare 134 = .ok (.iconst 1, 1) := by decide +kernel
theorem dX9_compare_135 : decode cX9_compare 135 = .ok (.goto 4, 3) := by decide +kernel
theorem dX9_compare_138 : decode cX9_compare 138 = .ok (.iconst 0, 1) := by decide +kernel
theorem dX9_compare_139 : decode cX9_compare 139 = .ok (.istore 5, 2) := by decide +kernel
theorem dX9_compare_141 : decode cX9_compare 141 = .ok (.iload 4, 2) := by decide +kernel
theorem dX9_compare_143 : decode cX9_compare 143 = .ok (.ifCond .ne 12, 3) := by decide +kernel
theorem dX9_compare_146 : decode cX9_compare 146 = .ok (.aload_n 0, 1) := by decide +kernel
theorem dX9_compare_147 : decode cX9_compare 147 = .ok (.getfield 20, 3) := by decide +kernel
theorem dX9_compare_150 : decode cX9_compare 150 = .ok (.iload_n 1, 1) := by decide +kernel
theorem dX9_compare_151 : decode cX9_compare 151 = .ok (.baload, 1) := by decide +kernel
theorem dX9_compare_152 : decode cX9_compare 152 = .ok (.ifCond .eq 17, 3) := by decide +kernel
theorem dX9_compare_155 : decode cX9_compare 155 = .ok (.iload 5, 2) := by decide +kernel
theorem dX9_compare_157 : decode cX9_compare 157 = .ok (.ifCond .ne 16, 3) := by decide +kernel
theorem dX9_compare_160 : decode cX9_compare 160 = .ok (.aload_n 0, 1) := by decide +kernel
theorem dX9_compare_161 : decode cX9_compare 161 = .ok (.getfield 20, 3) := by decide +kernel
theorem dX9_compare_164 : decode cX9_compare 164 = .ok (.iload_n 2, 1) := by decide +kernel
theorem dX9_compare_165 : decode cX9_compare 165 = .ok (.baload, 1) := by decide +kernel
theorem dX9_compare_166 : decode cX9_compare 166 = .ok (.ifCond .ne 7, 3) := by decide +kernel
theorem dX9_compare_169 : decode cX9_compare 169 = .ok (.ldc2_w 255, 3) := by decide +kernel
theorem dX9_compare_172 : decode cX9_compare 172 = .ok (.lreturn, 1) := by decide +kernel
theorem dX9_compare_173 : decode cX9_compare 173 = .ok (.iload 4, 2) := by decide +kernel
theorem dX9_compare_175 : decode cX9_compare 175 = .ok (.ifCond .ne 10, 3) := by decide +kernel
theorem dX9_compare_178 : decode cX9_compare 178 = .ok (.iload 5, 2) := by decide +kernel
theorem dX9_compare_180 : decode cX9_compare 180 = .ok (.ifCond .ne 5, 3) := by decide +kernel
theorem dX9_compare_183 : decode cX9_compare 183 = .ok (.lconst 0, 1) := by decide +kernel
theorem dX9_compare_184 : decode cX9_compare 184 = .ok (.lreturn, 1) := by decide +kernel
theorem dX9_compare_185 : decode cX9_compare 185 = .ok (.iload 4, 2) := by decide +kernel
theorem dX9_compare_187 : decode cX9_compare 187 = .ok (.ifCond .eq 17, 3) := by decide +kernel
theorem dX9_compare_190 : decode cX9_compare 190 = .ok (.aload_n 0, 1) := by decide +kernel
theorem dX9_compare_191 : decode cX9_compare 191 = .ok (.getfield 23, 3) := by decide +kernel
theorem dX9_compare_194 : decode cX9_compare 194 = .ok (.bipush 60, 2) := by decide +kernel
theorem dX9_compare_196 : decode cX9_compare 196 = .ok (.iload_n 1, 1) := by decide +kernel
theorem dX9_compare_197 : decode cX9_compare 197 = .ok (.imul, 1) := by decide +kernel
theorem dX9_compare_198 : decode cX9_compare 198 = .ok (.iload_n 3, 1) := by decide +kernel
theorem dX9_compare_199 : decode cX9_compare 199 = .ok (.iadd, 1) := by decide +kernel
theorem dX9_compare_200 : decode cX9_compare 200 = .ok (.laload, 1) := by decide +kernel
theorem dX9_compare_201 : decode cX9_compare 201 = .ok (.goto 6, 3) := by decide +kernel
theorem dX9_compare_204 : decode cX9_compare 204 = .ok (.ldc2_w 257, 3) := by decide +kernel
theorem dX9_compare_207 : decode cX9_compare 207 = .ok (.lstore 6, 2) := by decide +kernel
theorem dX9_compare_209 : decode cX9_compare 209 = .ok (.iload 5, 2) := by decide +kernel
theorem dX9_compare_211 : decode cX9_compare 211 = .ok (.ifCond .eq 17, 3) := by decide +kernel
theorem dX9_compare_214 : decode cX9_compare 214 = .ok (.aload_n 0, 1) := by decide +kernel
theorem dX9_compare_215 : decode cX9_compare 215 = .ok (.getfield 23, 3) := by decide +kernel
theorem dX9_compare_218 : decode cX9_compare 218 = .ok (.bipush 60, 2) := by decide +kernel
theorem dX9_compare_220 : decode cX9_compare 220 = .ok (.iload_n 2, 1) := by decide +kernel
theorem dX9_compare_221 : decode cX9_compare 221 = .ok (.imul, 1) := by decide +kernel
theorem dX9_compare_222 : decode cX9_compare 222 = .ok (.iload_n 3, 1) := by decide +kernel
theorem dX9_compare_223 : decode cX9_compare 223 = .ok (.iadd, 1) := by decide +kernel
theorem dX9_compare_224 : decode cX9_compare 224 = .ok (.laload, 1) := by decide +kernel
theorem dX9_compare_225 : decode cX9_compare 225 = .ok (.goto 6, 3) := by decide +kernel
theorem dX9_compare_228 : decode cX9_compare 228 = .ok (.ldc2_w 257, 3) := by decide +kernel
theorem dX9_compare_231 : decode cX9_compare 231 = .ok (.lstore 8, 2) := by decide +kernel
theorem dX9_compare_233 : decode cX9_compare 233 = .ok (.lload 6, 2) := by decide +kernel
theorem dX9_compare_235 : decode cX9_compare 235 = .ok (.lload 8, 2) := by decide +kernel
theorem dX9_compare_237 : decode cX9_compare 237 = .ok (.lcmp, 1) := by decide +kernel
theorem dX9_compare_238 : decode cX9_compare 238 = .ok (.ifCond .eq 38, 3) := by decide +kernel
theorem dX9_compare_241 : decode cX9_compare 241 = .ok (.lload 6, 2) := by decide +kernel
theorem dX9_compare_243 : decode cX9_compare 243 = .ok (.lload 8, 2) := by decide +kernel
theorem dX9_compare_245 : decode cX9_compare 245 = .ok (.lcmp, 1) := by decide +kernel
theorem dX9_compare_246 : decode cX9_compare 246 = .ok (.ifCond .ge 7, 3) := by decide +kernel
theorem dX9_compare_249 : decode cX9_compare 249 = .ok (.iconst 1, 1) := by decide +kernel
theorem dX9_compare_250 : decode cX9_compare 250 = .ok (.goto 4, 3) := by decide +kernel
theorem dX9_compare_253 : decode cX9_compare 253 = .ok (.iconst 0, 1) := by decide +kernel
theorem dX9_compare_254 : decode cX9_compare 254 = .ok (.iload_n 3, 1) := by decide +kernel
theorem dX9_compare_255 : decode cX9_compare 255 = .ok (.iconst 2, 1) := by decide +kernel
theorem dX9_compare_256 : decode cX9_compare 256 = .ok (.irem, 1) := by decide +kernel
theorem dX9_compare_257 : decode cX9_compare 257 = .ok (.ifCond .ne 7, 3) := by decide +kernel
theorem dX9_compare_260 : decode cX9_compare 260 = .ok (.iconst 1, 1) := by decide +kernel
theorem dX9_compare_261 : decode cX9_compare 261 = .ok (.goto 4, 3) := by decide +kernel
theorem dX9_compare_264 : decode cX9_compare 264 = .ok (.iconst 0, 1) := by decide +kernel
theorem dX9_compare_265 : decode cX9_compare 265 = .ok (.if_icmp .ne 9, 3) := by decide +kernel
theorem dX9_compare_268 : decode cX9_compare 268 = .ok (.ldc2_w 149, 3) := by decide +kernel
theorem dX9_compare_271 : decode cX9_compare 271 = .ok (.goto 4, 3) := by decide +kernel
theorem dX9_compare_274 : decode cX9_compare 274 = .ok (.lconst 1, 1) := by decide +kernel
theorem dX9_compare_275 : decode cX9_compare 275 = .ok (.lreturn, 1) := by decide +kernel
theorem dX9_compare_276 : decode cX9_compare 276 = .ok (.iinc 3 1, 3) := by decide +kernel
theorem dX9_compare_279 : decode cX9_compare 279 = .ok (.goto (-178), 3) := by decide +kernel
theorem dX9_compare_282 : decode cX9_compare 282 = .ok (.ldc2_w 255, 3) := by decide +kernel
theorem dX9_compare_285 : decode cX9_compare 285 = .ok (.lreturn, 1) := by decide +kernel
theorem dX9_findBoth_0 : decode cX9_findBoth 0 = .ok (.aload_n 0, 1) := by decide +kernel
theorem dX9_findBoth_1 : decode cX9_findBoth 1 = .ok (.invokevirtual 277, 3) := by decide +kernel
theorem dX9_findBoth_4 : decode cX9_findBoth 4 = .ok (.iconst 0, 1) := by decide +kernel
theorem dX9_findBoth_5 : decode cX9_findBoth 5 = .ok (.istore_n 3, 1) := by decide +kernel
theorem dX9_findBoth_6 : decode cX9_findBoth 6 = .ok (.iload_n 3, 1) := by decide +kernel
theorem dX9_findBoth_7 : decode cX9_findBoth 7 = .ok (.aload_n 0, 1) := by decide +kernel
theorem dX9_findBoth_8 : decode cX9_findBoth 8 = .ok (.getfield 17, 3) := by decide +kernel
theorem dX9_findBoth_11 : decode cX9_findBoth 11 = .ok (.iload_n 1, 1) := by decide +kernel
theorem dX9_findBoth_12 : decode cX9_findBoth 12 = .ok (.iaload, 1) := by decide +kernel
theorem dX9_findBoth_13 : decode cX9_findBoth 13 = .ok (.if_icmp .ge 41, 3) := by decide +kernel
theorem dX9_findBoth_16 : decode cX9_findBoth 16 = .ok (.aload_n 0, 1) := by decide +kernel
theorem dX9_findBoth_17 : decode cX9_findBoth 17 = .ok (.getfield 262, 3) := by decide +kernel
theorem dX9_findBoth_20 : decode cX9_findBoth 20 = .ok (.iload_n 2, 1) := by decide +kernel
theorem dX9_findBoth_21 : decode cX9_findBoth 21 = .ok (.i2l, 1) := by decide +kernel
theorem dX9_findBoth_22 : decode cX9_findBoth 22 = .ok (.lcmp, 1) := by decide +kernel
theorem dX9_findBoth_23 : decode cX9_findBoth 23 = .ok (.ifCond .gt 31, 3) := by decide +kernel
theorem dX9_findBoth_26 : decode cX9_findBoth 26 = .ok (.aload_n 0, 1) := by decide +kernel
theorem dX9_findBoth_27 : decode cX9_findBoth 27 = .ok (.getfield 69, 3) := by decide +kernel
theorem dX9_findBoth_30 : decode cX9_findBoth 30 = .ok (.ifCond .ne 24, 3) := by decide +kernel
theorem dX9_findBoth_33 : decode cX9_findBoth 33 = .ok (.aload_n 0, 1) := by decide +kernel
theorem dX9_findBoth_34 : decode cX9_findBoth 34 = .ok (.aload_n 0, 1) := by decide +kernel
theorem dX9_findBoth_35 : decode cX9_findBoth 35 = .ok (.getfield 23, 3) := by decide +kernel
theorem dX9_findBoth_38 : decode cX9_findBoth 38 = .ok (.bipush 60, 2) := by decide +kernel
theorem dX9_findBoth_40 : decode cX9_findBoth 40 = .ok (.iload_n 1, 1) := by decide +kernel
theorem dX9_findBoth_41 : decode cX9_findBoth 41 = .ok (.imul, 1) := by decide +kernel
theorem dX9_findBoth_42 : decode cX9_findBoth 42 = .ok (.iload_n 3, 1) := by decide +kernel
theorem dX9_findBoth_43 : decode cX9_findBoth 43 = .ok (.iadd, 1) := by decide +kernel
theorem dX9_findBoth_44 : decode cX9_findBoth 44 = .ok (.laload, 1) := by decide +kernel
theorem dX9_findBoth_45 : decode cX9_findBoth 45 = .ok (.invokevirtual 280, 3) := by decide +kernel
theorem dX9_findBoth_48 : decode cX9_findBoth 48 = .ok (.iinc 3 1, 3) := by decide +kernel
theorem dX9_findBoth_51 : decode cX9_findBoth 51 = .ok (.goto (-45), 3) := by decide +kernel
theorem dX9_findBoth_54 : decode cX9_findBoth 54 = .ok (.aload_n 0, 1) := by decide +kernel
theorem dX9_findBoth_55 : decode cX9_findBoth 55 = .ok (.getfield 69, 3) := by decide +kernel
theorem dX9_findBoth_58 : decode cX9_findBoth 58 = .ok (.ifCond .eq 7, 3) := by decide +kernel
theorem dX9_findBoth_61 : decode cX9_findBoth 61 = .ok (.ldc2_w 177, 3) := by decide +kernel
theorem dX9_findBoth_64 : decode cX9_findBoth 64 = .ok (.lreturn, 1) := by decide +kernel
theorem dX9_findBoth_65 : decode cX9_findBoth 65 = .ok (.aload_n 0, 1) := by decide +kernel
theorem dX9_findBoth_66 : decode cX9_findBoth 66 = .ok (.getfield 262, 3) := by decide +kernel
theorem dX9_findBoth_69 : decode cX9_findBoth 69 = .ok (.iload_n 2, 1) := by decide +kernel
theorem dX9_findBoth_70 : decode cX9_findBoth 70 = .ok (.i2l, 1) := by decide +kernel
theorem dX9_findBoth_71 : decode cX9_findBoth 71 = .ok (.lcmp, 1) := by decide +kernel
theorem dX9_findBoth_72 : decode cX9_findBoth 72 = .ok (.ifCond .gt 25, 3) := by decide +kernel
theorem dX9_findBoth_75 : decode cX9_findBoth 75 = .ok (.aload_n 0, 1) := by decide +kernel
theorem dX9_findBoth_76 : decode cX9_findBoth 76 = .ok (.getfield 20, 3) := by decide +kernel
theorem dX9_findBoth_79 : decode cX9_findBoth 79 = .ok (.iload_n 1, 1) := by decide +kernel
theorem dX9_findBoth_80 : decode cX9_findBoth 80 = .ok (.baload, 1) := by decide +kernel
theorem dX9_findBoth_81 : decode cX9_findBoth 81 = .ok (.ifCond .eq 12, 3) := by decide +kernel
theorem dX9_findBoth_84 : decode cX9_findBoth 84 = .ok (.aload_n 0, 1) := by decide +kernel
theorem dX9_findBoth_85 : decode cX9_findBoth 85 = .ok (.getfield 17, 3) := by decide +kernel
theorem dX9_findBoth_88 : decode cX9_findBoth 88 = .ok (.iload_n 1, 1) := by decide +kernel
theorem dX9_findBoth_89 : decode cX9_findBoth 89 = .ok (.iaload, 1) := by decide +kernel
theorem dX9_findBoth_90 : decode cX9_findBoth 90 = .ok (.ifCond .ne 7, 3) := by decide +kernel
theorem dX9_findBoth_93 : decode cX9_findBoth 93 = .ok (.ldc2_w 255, 3) := by decide +kernel
theorem dX9_findBoth_96 : decode cX9_findBoth 96 = .ok (.lreturn, 1) := by decide +kernel
theorem dX9_findBoth_97 : decode cX9_findBoth 97 = .ok (.aload_n 0, 1) := by decide +kernel
theorem dX9_findBoth_98 : decode cX9_findBoth 98 = .ok (.getfield 262, 3) := by decide +kernel
theorem dX9_findBoth_101 : decode cX9_findBoth 101 = .ok (.iload_n 2, 1) := by decide +kernel
theorem dX9_findBoth_102 : decode cX9_findBoth 102 = .ok (.i2l, 1) := by decide +kernel
theorem dX9_findBoth_103 : decode cX9_findBoth 103 = .ok (.lcmp, 1) := by decide +kernel
theorem dX9_findBoth_104 : decode cX9_findBoth 104 = .ok (.ifCond .gt 37, 3) := by decide +kernel
theorem dX9_findBoth_107 : decode cX9_findBoth 107 = .ok (.aload_n 0, 1) := by decide +kernel
theorem dX9_findBoth_108 : decode cX9_findBoth 108 = .ok (.aload_n 0, 1) := by decide +kernel
theorem dX9_findBoth_109 : decode cX9_findBoth 109 = .ok (.getfield 259, 3) := by decide +kernel
theorem dX9_findBoth_112 : decode cX9_findBoth 112 = .ok (.putfield 284, 3) := by decide +kernel
theorem dX9_findBoth_115 : decode cX9_findBoth 115 = .ok (.aload_n 0, 1) := by decide +kernel
theorem dX9_findBoth_116 : decode cX9_findBoth 116 = .ok (.aload_n 0, 1) := by decide +kernel
theorem dX9_findBoth_117 : decode cX9_findBoth 117 = .ok (.getfield 262, 3) := by decide +kernel
theorem dX9_findBoth_120 : decode cX9_findBoth 120 = .ok (.putfield 287, 3) := by decide +kernel
theorem dX9_findBoth_123 : decode cX9_findBoth 123 = .ok (.aload_n 0, 1) := by decide +kernel
theorem dX9_findBoth_124 : decode cX9_findBoth 124 = .ok (.aload_n 0, 1) := by decide +kernel
theorem dX9_findBoth_125 : decode cX9_findBoth 125 = .ok (.getfield 259, 3) := by decide +kernel
theorem dX9_findBoth_128 : decode cX9_findBoth 128 = .ok (.putfield 290, 3) := by decide +kernel
theorem dX9_findBoth_131 : decode cX9_findBoth 131 = .ok (.aload_n 0, 1) := by decide +kernel
theorem dX9_findBoth_132 : decode cX9_findBoth 132 = .ok (.aload_n 0, 1) := by decide +kernel
theorem dX9_findBoth_133 : decode cX9_findBoth 133 = .ok (.getfield 262, 3) := by decide +kernel
theorem dX9_findBoth_136 : decode cX9_findBoth 136 = .ok (.putfield 293, 3) := by decide +kernel
theorem dX9_findBoth_139 : decode cX9_findBoth 139 = .ok (.lconst 0, 1) := by decide +kernel
theorem dX9_findBoth_140 : decode cX9_findBoth 140 = .ok (.lreturn, 1) := by decide +kernel
theorem dX9_findBoth_141 : decode cX9_findBoth 141 = .ok (.iload_n 2, 1) := by decide +kernel
theorem dX9_findBoth_142 : decode cX9_findBoth 142 = .ok (.i2l, 1) := by decide +kernel
theorem dX9_findBoth_143 : decode cX9_findBoth 143 = .ok (.aload_n 0, 1) := by decide +kernel
theorem dX9_findBoth_144 : decode cX9_findBoth 144 = .ok (.getfield 274, 3) := by decide +kernel
theorem dX9_findBoth_147 : decode cX9_findBoth 147 = .ok (.lsub, 1) := by decide +kernel
theorem dX9_findBoth_148 : decode cX9_findBoth 148 = .ok (.aload_n 0, 1) := by decide +kernel
theorem dX9_findBoth_149 : decode cX9_findBoth 149 = .ok (.getfield 268, 3) := by decide +kernel
theorem dX9_findBoth_152 : decode cX9_findBoth 152 = .ok (.ldiv, 1) := by decide +kernel
theorem dX9_findBoth_153 : decode cX9_findBoth 153 = .ok (.lstore 4, 2) := by decide +kernel
theorem dX9_findBoth_155 : decode cX9_findBoth 155 = .ok (.lload 4, 2) := by decide +kernel
theorem dX9_findBoth_157 : decode cX9_findBoth 157 = .ok (.aload_n 0, 1) := by decide +kernel
theorem dX9_findBoth_158 : decode cX9_findBoth 158 = .ok (.getfield 265, 3) := by decide +kernel
theorem dX9_findBoth_161 : decode cX9_findBoth 161 = .ok (.lmul, 1) := by decide +kernel
theorem dX9_findBoth_162 : decode cX9_findBoth 162 = .ok (.aload_n 0, 1) := by decide +kernel
theorem dX9_findBoth_163 : decode cX9_findBoth 163 = .ok (.getfield 271, 3) := by decide +kernel
theorem dX9_findBoth_166 : decode cX9_findBoth 166 = .ok (.ladd, 1) := by decide +kernel
theorem dX9_findBoth_167 : decode cX9_findBoth 167 = .ok (.lstore 6, 2) := by decide +kernel
theorem dX9_findBoth_169 : decode cX9_findBoth 169 = .ok (.lload 4, 2) := by decide +kernel
theorem dX9_findBoth_171 : decode cX9_findBoth 171 = .ok (.aload_n 0, 1) := by decide +kernel
theorem dX9_findBoth_172 : decode cX9_findBoth 172 = .ok (.getfield 268, 3) := by decide +kernel
theorem dX9_findBoth_175 : decode cX9_findBoth 175 = .ok (.lmul, 1) := by decide +kernel
theorem dX9_findBoth_176 : decode cX9_findBoth 176 = .ok (.aload_n 0, 1) := by decide +kernel
theorem dX9_findBoth_177 : decode cX9_findBoth 177 = .ok (.getfield 274, 3) := by decide +kernel
theorem dX9_findBoth_180 : decode cX9_findBoth 180 = .ok (.ladd, 1) := by decide +kernel
theorem dX9_findBoth_181 : decode cX9_findBoth 181 = .ok (.lstore 8, 2) := by decide +kernel
theorem dX9_findBoth_183 : decode cX9_findBoth 183 = .ok (.iload_n 3, 1) := by decide +kernel
theorem dX9_findBoth_184 : decode cX9_findBoth 184 = .ok (.iconst 2, 1) := by decide +kernel
theorem dX9_findBoth_185 : decode cX9_findBoth 185 = .ok (.irem, 1) := by decide +kernel
theorem dX9_findBoth_186 : decode cX9_findBoth 186 = .ok (.ifCond .ne 7, 3) := by decide +kernel
theorem dX9_findBoth_189 : decode cX9_findBoth 189 = .ok (.iconst 1, 1) := by decide +kernel
theorem dX9_findBoth_190 : decode cX9_findBoth 190 = .ok (.goto 4, 3) := by decide +kernel
theorem dX9_findBoth_193 : decode cX9_findBoth 193 = .ok (.iconst 0, 1) := by decide +kernel
theorem dX9_findBoth_194 : decode cX9_findBoth 194 = .ok (.istore 10, 2) := by decide +kernel
theorem dX9_findBoth_196 : decode cX9_findBoth 196 = .ok (.aload_n 0, 1) := by decide +kernel
theorem dX9_findBoth_197 : decode cX9_findBoth 197 = .ok (.iload 10, 2) := by decide +kernel
theorem dX9_findBoth_199 : decode cX9_findBoth 199 = .ok (.ifCond .eq 10, 3) := by decide +kernel
theorem dX9_findBoth_202 : decode cX9_findBoth 202 = .ok (.aload_n 0, 1) := by decide +kernel
theorem dX9_findBoth_203 : decode cX9_findBoth 203 = .ok (.getfield 265, 3) := by decide +kernel
theorem dX9_findBoth_206 : decode cX9_findBoth 206 = .ok (.goto 5, 3) := by decide +kernel
theorem dX9_findBoth_209 : decode cX9_findBoth 209 = .ok (.lload 6, 2) := by decide +kernel
theorem dX9_findBoth_211 : decode cX9_findBoth 211 = .ok (.putfield 284, 3) := by decide +kernel
theorem dX9_findBoth_214 : decode cX9_findBoth 214 = .ok (.aload_n 0, 1) := by decide +kernel
theorem dX9_findBoth_215 : decode cX9_findBoth 215 = .ok (.iload 10, 2) := by decide +kernel
theorem dX9_findBoth_217 : decode cX9_findBoth 217 = .ok (.ifCond .eq 10, 3) := by decide +kernel
theorem dX9_findBoth_220 : decode cX9_findBoth 220 = .ok (.aload_n 0, 1) := by decide +kernel
theorem dX9_findBoth_221 : decode cX9_findBoth 221 = .ok (.getfield 268, 3) := by decide +kernel
theorem dX9_findBoth_224 : decode cX9_findBoth 224 = .ok (.goto 5, 3) := by decide +kernel
theorem dX9_findBoth_227 : decode cX9_findBoth 227 = .ok (.lload 8, 2) := by decide +kernel
theorem dX9_findBoth_229 : decode cX9_findBoth 229 = .ok (.putfield 287, 3) := by decide +kernel
theorem dX9_findBoth_232 : decode cX9_findBoth 232 = .ok (.aload_n 0, 1) := by decide +kernel
theorem dX9_findBoth_233 : decode cX9_findBoth 233 = .ok (.iload 10, 2) := by decide +kernel
theorem dX9_findBoth_235 : decode cX9_findBoth 235 = .ok (.ifCond .eq 8, 3) := by decide +kernel
theorem dX9_findBoth_238 : decode cX9_findBoth 238 = .ok (.lload 6, 2) := by decide +kernel
theorem dX9_findBoth_240 : decode cX9_findBoth 240 = .ok (.goto 7, 3) := by decide +kernel
theorem dX9_findBoth_243 : decode cX9_findBoth 243 = .ok (.aload_n 0, 1) := by decide +kernel
theorem dX9_findBoth_244 : decode cX9_findBoth 244 = .ok (.getfield 265, 3) := by decide +kernel
theorem dX9_findBoth_247 : decode cX9_findBoth 247 = .ok (.putfield 290, 3) := by decide +kernel
theorem dX9_findBoth_250 : decode cX9_findBoth 250 = .ok (.aload_n 0, 1) := by decide +kernel
theorem dX9_findBoth_251 : decode cX9_findBoth 251 = .ok (.iload 10, 2) := by decide +kernel
theorem dX9_findBoth_253 : decode cX9_findBoth 253 = .ok (.ifCond .eq 8, 3) := by decide +kernel
theorem dX9_findBoth_256 : decode cX9_findBoth 256 = .ok (.lload 8, 2) := by decide +kernel
theorem dX9_findBoth_258 : decode cX9_findBoth 258 = .ok (.goto 7, 3) := by decide +kernel
theorem dX9_findBoth_261 : decode cX9_findBoth 261 = .ok (.aload_n 0, 1) := by decide +kernel
theorem dX9_findBoth_262 : decode cX9_findBoth 262 = .ok (.getfield 268, 3) := by decide +kernel
theorem dX9_findBoth_265 : decode cX9_findBoth 265 = .ok (.putfield 293, 3) := by decide +kernel
theorem dX9_findBoth_268 : decode cX9_findBoth 268 = .ok (.lconst 0, 1) := by decide +kernel
theorem dX9_findBoth_269 : decode cX9_findBoth 269 = .ok (.lreturn, 1) := by decide +kernel
theorem dX9_best_0 : decode cX9_best 0 = .ok (.aload_n 0, 1) := by decide +kernel
theorem dX9_best_1 : decode cX9_best 1 = .ok (.iload_n 1, 1) := by decide +kernel
theorem dX9_best_2 : decode cX9_best 2 = .ok (.invokevirtual 179, 3) := by decide +kernel
theorem dX9_best_5 : decode cX9_best 5 = .ok (.ifCond .eq 7, 3) := by decide +kernel
theorem dX9_best_8 : decode cX9_best 8 = .ok (.ldc2_w 183, 3) := by decide +kernel
theorem dX9_best_11 : decode cX9_best 11 = .ok (.lreturn, 1) := by decide +kernel
theorem dX9_best_12 : decode cX9_best 12 = .ok (.iload_n 2, 1) := by decide +kernel
theorem dX9_best_13 : decode cX9_best 13 = .ok (.i2l, 1) := by decide +kernel
theorem dX9_best_14 : decode cX9_best 14 = .ok (.lconst 1, 1) := by decide +kernel
theorem dX9_best_15 : decode cX9_best 15 = .ok (.ldc2_w 136, 3) := by decide +kernel
theorem dX9_best_18 : decode cX9_best 18 = .ok (.invokestatic 75, 3) := by decide +kernel
theorem dX9_best_21 : decode cX9_best 21 = .ok (.ifCond .eq 26, 3) := by decide +kernel
theorem dX9_best_24 : decode cX9_best 24 = .ok (.iload_n 3, 1) := by decide +kernel
theorem dX9_best_25 : decode cX9_best 25 = .ok (.i2l, 1) := by decide +kernel
theorem dX9_best_26 : decode cX9_best 26 = .ok (.lconst 0, 1) := by decide +kernel
theorem dX9_best_27 : decode cX9_best 27 = .ok (.ldc2_w 102, 3) := by decide +kernel
theorem dX9_best_30 : decode cX9_best 30 = .ok (.invokestatic 75, 3) := by decide +kernel
theorem dX9_best_33 : decode cX9_best 33 = .ok (.ifCond .eq 14, 3) := by decide +kernel
theorem dX9_best_36 : decode cX9_best 36 = .ok (.iload 4, 2) := by decide +kernel
theorem dX9_best_38 : decode cX9_best 38 = .ok (.i2l, 1) := by decide +kernel
theorem dX9_best_39 : decode cX9_best 39 = .ok (.lconst 0, 1) := by decide +kernel
theorem dX9_best_40 : decode cX9_best 40 = .ok (.lconst 1, 1) := by decide +kernel
theorem dX9_best_41 : decode cX9_best 41 = .ok (.invokestatic 75, 3) := by decide +kernel
theorem dX9_best_44 : decode cX9_best 44 = .ok (.ifCond .ne 7, 3) := by decide +kernel
theorem dX9_best_47 : decode cX9_best 47 = .ok (.ldc2_w 109, 3) := by decide +kernel
theorem dX9_best_50 : decode cX9_best 50 = .ok (.lreturn, 1) := by decide +kernel
theorem dX9_best_51 : decode cX9_best 51 = .ok (.aload_n 0, 1) := by decide +kernel
theorem dX9_best_52 : decode cX9_best 52 = .ok (.iload_n 1, 1) := by decide +kernel
theorem dX9_best_53 : decode cX9_best 53 = .ok (.iload_n 2, 1) := by decide +kernel
theorem dX9_best_54 : decode cX9_best 54 = .ok (.invokevirtual 296, 3) := by decide +kernel
theorem dX9_best_57 : decode cX9_best 57 = .ok (.lstore 5, 2) := by decide +kernel
theorem dX9_best_59 : decode cX9_best 59 = .ok (.lload 5, 2) := by decide +kernel
theorem dX9_best_61 : decode cX9_best 61 = .ok (.lconst 0, 1) := by decide +kernel
theorem dX9_best_62 : decode cX9_best 62 = .ok (.lcmp, 1) := by decide +kernel
theorem dX9_best_63 : decode cX9_best 63 = .ok (.ifCond .eq 6, 3) := by decide +kernel
theorem dX9_best_66 : decode cX9_best 66 = .ok (.lload 5, 2) := by decide +kernel
theorem dX9_best_68 : decode cX9_best 68 = .ok (.lreturn, 1) := by decide +kernel
theorem dX9_best_69 : decode cX9_best 69 = .ok (.iload_n 3, 1) := by decide +kernel
theorem dX9_best_70 : decode cX9_best 70 = .ok (.iconst 2, 1) := by decide +kernel
theorem dX9_best_71 : decode cX9_best 71 = .ok (.if_icmp .ne 7, 3) := by decide +kernel
theorem dX9_best_74 : decode cX9_best 74 = .ok (.iconst 1, 1) := by decide +kernel
theorem dX9_best_75 : decode cX9_best 75 = .ok (.goto 4, 3) := by decide +kernel
theorem dX9_best_78 : decode cX9_best 78 = .ok (.iconst 0, 1) := by decide +kernel
theorem dX9_best_79 : decode cX9_best 79 = .ok (.istore 7, 2) := by decide +kernel
theorem dX9_best_81 : decode cX9_best 81 = .ok (.iload_n 3, 1) := by decide +kernel
theorem dX9_best_82 : decode cX9_best 82 = .ok (.ifCond .ne 144, 3) := by decide +kernel
theorem dX9_best_85 : decode cX9_best 85 = .ok (.aload_n 0, 1) := by decide +kernel
theorem dX9_best_86 : decode cX9_best 86 = .ok (.getfield 284, 3) := by decide +kernel
theorem dX9_best_89 : decode cX9_best 89 = .ok (.aload_n 0, 1) := by decide +kernel
theorem dX9_best_90 : decode cX9_best 90 = .ok (.getfield 290, 3) := by decide +kernel
theorem dX9_best_93 : decode cX9_best 93 = .ok (.lcmp, 1) := by decide +kernel
theorem dX9_best_94 : decode cX9_best 94 = .ok (.ifCond .ne 15, 3) := by decide +kernel
theorem dX9_best_97 : decode cX9_best 97 = .ok (.aload_n 0, 1) := by decide +kernel
theorem dX9_best_98 : decode cX9_best 98 = .ok (.getfield 287, 3) := by decide +kernel
theorem dX9_best_101 : decode cX9_best 101 = .ok (.aload_n 0, 1) := by decide +kernel
theorem dX9_best_102 : decode cX9_best 102 = .ok (.getfield 293, 3) := by decide +kernel
theorem dX9_best_105 : decode cX9_best 105 = .ok (.lcmp, 1) := by decide +kernel
theorem dX9_best_106 : decode cX9_best 106 = .ok (.ifCond .eq 120, 3) := by decide +kernel
theorem dX9_best_109 : decode cX9_best 109 = .ok (.aload_n 0, 1) := by decide +kernel
theorem dX9_best_110 : decode cX9_best 110 = .ok (.iconst 0, 1) := by decide +kernel
theorem dX9_best_111 : decode cX9_best 111 = .ok (.putfield 69, 3) := by decide +kernel
theorem dX9_best_114 : decode cX9_best 114 = .ok (.aload_n 0, 1) := by decide +kernel
theorem dX9_best_115 : decode cX9_best 115 = .ok (.aload_n 0, 1) := by decide +kernel
theorem dX9_best_116 : decode cX9_best 116 = .ok (.aload_n 0, 1) := by decide +kernel
theorem dX9_best_117 : decode cX9_best 117 = .ok (.getfield 284, 3) := by decide +kernel
theorem dX9_best_120 : decode cX9_best 120 = .ok (.aload_n 0, 1) := by decide +kernel
theorem dX9_best_121 : decode cX9_best 121 = .ok (.getfield 293, 3) := by decide +kernel
theorem dX9_best_124 : decode cX9_best 124 = .ok (.invokevirtual 151, 3) := by decide +kernel
theorem dX9_best_127 : decode cX9_best 127 = .ok (.aload_n 0, 1) := by decide +kernel
theorem dX9_best_128 : decode cX9_best 128 = .ok (.aload_n 0, 1) := by decide +kernel
theorem dX9_best_129 : decode cX9_best 129 = .ok (.getfield 290, 3) := by decide +kernel
theorem dX9_best_132 : decode cX9_best 132 = .ok (.aload_n 0, 1) := by decide +kernel
theorem dX9_best_133 : decode cX9_best 133 = .ok (.getfield 287, 3) := by decide +kernel
theorem dX9_best_136 : decode cX9_best 136 = .ok (.invokevirtual 151, 3) := by decide +kernel
theorem dX9_best_139 : decode cX9_best 139 = .ok (.invokevirtual 154, 3) := by decide +kernel
theorem dX9_best_142 : decode cX9_best 142 = .ok (.lstore 8, 2) := by decide +kernel
theorem dX9_best_144 : decode cX9_best 144 = .ok (.aload_n 0, 1) := by decide +kernel
theorem dX9_best_145 : decode cX9_best 145 = .ok (.aload_n 0, 1) := by decide +kernel
theorem dX9_best_146 : decode cX9_best 146 = .ok (.ldc2_w 102, 3) := by decide +kernel
theorem dX9_best_149 : decode cX9_best 149 = .ok (.aload_n 0, 1) := by decide +kernel
theorem dX9_best_150 : decode cX9_best 150 = .ok (.getfield 287, 3) := by decide +kernel
theorem dX9_best_153 : decode cX9_best 153 = .ok (.invokevirtual 151, 3) := by decide +kernel
theorem dX9_best_156 : decode cX9_best 156 = .ok (.aload_n 0, 1) := by decide +kernel
theorem dX9_best_157 : decode cX9_best 157 = .ok (.getfield 293, 3) := by decide +kernel
theorem dX9_best_160 : decode cX9_best 160 = .ok (.invokevirtual 151, 3) := by decide +kernel
theorem dX9_best_163 : decode cX9_best 163 = .ok (.lstore 10, 2) := by decide +kernel
theorem dX9_best_165 : decode cX9_best 165 = .ok (.aload_n 0, 1) := by decide +kernel
theorem dX9_best_166 : decode cX9_best 166 = .ok (.getfield 69, 3) := by decide +kernel
theorem dX9_best_169 : decode cX9_best 169 = .ok (.ifCond .eq 7, 3) := by decide +kernel
theorem dX9_best_172 : decode cX9_best 172 = .ok (.ldc2_w 177, 3) := by decide +kernel
theorem dX9_best_175 : decode cX9_best 175 = .ok (.lreturn, 1) := by decide +kernel
theorem dX9_best_176 : decode cX9_best 176 = .ok (.aload_n 0, 1) := by decide +kernel
theorem dX9_best_177 : decode cX9_best 177 = .ok (.iload_n 1, 1) := by decide +kernel
theorem dX9_best_178 : decode cX9_best 178 = .ok (.lload 8, 2) := by decide +kernel
theorem dX9_best_180 : decode cX9_best 180 = .ok (.lload 10, 2) := by decide +kernel
theorem dX9_best_182 : decode cX9_best 182 = .ok (.invokevirtual 299, 3) := by decide +kernel
theorem dX9_best_185 : decode cX9_best 185 = .ok (.istore 12, 2) := by decide +kernel
theorem dX9_best_187 : decode cX9_best 187 = .ok (.iload 12, 2) := by decide +kernel
theorem dX9_best_189 : decode cX9_best 189 = .ok (.iconst 2, 1) := by decide +kernel
theorem dX9_best_190 : decode cX9_best 190 = .ok (.if_icmp .ne 7, 3) := by decide +kernel
theorem dX9_best_193 : decode cX9_best 193 = .ok (.ldc2_w 255, 3) := by decide +kernel
theorem dX9_best_196 : decode cX9_best 196 = .ok (.lreturn, 1) := by decide +kernel
theorem dX9_best_197 : decode cX9_best 197 = .ok (.iload 12, 2) := by decide +kernel
theorem dX9_best_199 : decode cX9_best 199 = .ok (.ifCond .gt 20, 3) := by decide +kernel
theorem dX9_best_202 : decode cX9_best 202 = .ok (.iload 12, 2) := by decide +kernel
theorem dX9_best_204 : decode cX9_best 204 = .ok (.ifCond .ne 19, 3) := by decide +kernel
theorem dX9_best_207 : decode cX9_best 207 = .ok (.aload_n 0, 1) := by decide +kernel
theorem dX9_best_208 : decode cX9_best 208 = .ok (.getfield 293, 3) := by decide +kernel
theorem dX9_best_211 : decode cX9_best 211 = .ok (.aload_n 0, 1) := by decide +kernel
theorem dX9_best_212 : decode cX9_best 212 = .ok (.getfield 287, 3) := by decide +kernel
theorem dX9_best_215 : decode cX9_best 215 = .ok (.lcmp, 1) := by decide +kernel
theorem dX9_best_216 : decode cX9_best 216 = .ok (.ifCond .ge 7, 3) := by decide +kernel
theorem dX9_best_219 : decode cX9_best 219 = .ok (.iconst 1, 1) := by decide +kernel
theorem dX9_best_220 : decode cX9_best 220 = .ok (.goto 4, 3) := by decide +kernel
theorem dX9_best_223 : decode cX9_best 223 = .ok (.iconst 0, 1) := by decide +kernel
theorem dX9_best_224 : decode cX9_best 224 = .ok (.istore 7, 2) := by decide +kernel
theorem dX9_best_226 : decode cX9_best 226 = .ok (.iload 4, 2) := by decide +kernel
theorem dX9_best_228 : decode cX9_best 228 = .ok (.ifCond .ne 22, 3) := by decide +kernel
theorem dX9_best_231 : decode cX9_best 231 = .ok (.iload 7, 2) := by decide +kernel
theorem dX9_best_233 : decode cX9_best 233 = .ok (.ifCond .eq 10, 3) := by decide +kernel
theorem dX9_best_236 : decode cX9_best 236 = .ok (.aload_n 0, 1) := by decide +kernel
theorem dX9_best_237 : decode cX9_best 237 = .ok (.getfield 290, 3) := by decide +kernel
theorem dX9_best_240 : decode cX9_best 240 = .ok (.goto 26, 3) := by decide +kernel
theorem dX9_best_243 : decode cX9_best 243 = .ok (.aload_n 0, 1) := by decide +kernel
theorem dX9_best_244 : decode cX9_best 244 = .ok (.getfield 284, 3) := by decide +kernel
theorem dX9_best_247 : decode cX9_best 247 = .ok (.goto 19, 3) := by decide +kernel
theorem dX9_best_250 : decode cX9_best 250 = .ok (.iload 7, 2) := by decide +kernel
theorem dX9_best_252 : decode cX9_best 252 = .ok (.ifCond .eq 10, 3) := by decide +kernel
theorem dX9_best_255 : decode cX9_best 255 = .ok (.aload_n 0, 1) := by decide +kernel
theorem dX9_best_256 : decode cX9_best 256 = .ok (.getfield 293, 3) := by decide +kernel
theorem dX9_best_259 : decode cX9_best 259 = .ok (.goto 7, 3) := by decide +kernel
theorem dX9_best_262 : decode cX9_best 262 = .ok (.aload_n 0, 1) := by decide +kernel
theorem dX9_best_263 : decode cX9_best 263 = .ok (.getfield 287, 3) := by decide +kernel
theorem dX9_best_266 : decode cX9_best 266 = .ok (.lreturn, 1) := by decide +kernel
theorem dX9_figureOf_0 : decode cX9_figureOf 0 = .ok (.aload_n 0, 1) := by decide +kernel
theorem dX9_figureOf_1 : decode cX9_figureOf 1 = .ok (.getfield 259, 3) := by decide +kernel
theorem dX9_figureOf_4 : decode cX9_figureOf 4 = .ok (.aload_n 0, 1) := by decide +kernel
theorem dX9_figureOf_5 : decode cX9_figureOf 5 = .ok (.getfield 262, 3) := by decide +kernel
theorem dX9_figureOf_8 : decode cX9_figureOf 8 = .ok (.invokestatic 91, 3) := by decide +kernel
theorem dX9_figureOf_11 : decode cX9_figureOf 11 = .ok (.lstore_n 3, 1) := by decide +kernel
theorem dX9_figureOf_12 : decode cX9_figureOf 12 = .ok (.aload_n 0, 1) := by decide +kernel
theorem dX9_figureOf_13 : decode cX9_figureOf 13 = .ok (.getfield 259, 3) := by decide +kernel
theorem dX9_figureOf_16 : decode cX9_figureOf 16 = .ok (.lload_n 3, 1) := by decide +kernel
theorem dX9_figureOf_17 : decode cX9_figureOf 17 = .ok (.aload_n 0, 1) := by decide +kernel
theorem dX9_figureOf_18 : decode cX9_figureOf 18 = .ok (.getfield 262, 3) := by decide +kernel
theorem dX9_figureOf_21 : decode cX9_figureOf 21 = .ok (.lmul, 1) := by decide +kernel
theorem dX9_figureOf_22 : decode cX9_figureOf 22 = .ok (.lsub, 1) := by decide +kernel
theorem dX9_figureOf_23 : decode cX9_figureOf 23 = .ok (.lstore 5, 2) := by decide +kernel
theorem dX9_figureOf_25 : decode cX9_figureOf 25 = .ok (.iconst 0, 1) := by decide +kernel
theorem dX9_figureOf_26 : decode cX9_figureOf 26 = .ok (.istore 7, 2) := by decide +kernel
theorem dX9_figureOf_28 : decode cX9_figureOf 28 = .ok (.iload 7, 2) := by decide +kernel
theorem dX9_figureOf_30 : decode cX9_figureOf 30 = .ok (.iload_n 2, 1) := by decide +kernel
theorem dX9_figureOf_31 : decode cX9_figureOf 31 = .ok (.if_icmp .ge 33, 3) := by decide +kernel
theorem dX9_figureOf_34 : decode cX9_figureOf 34 = .ok (.lload 5, 2) := by decide +kernel
theorem dX9_figureOf_36 : decode cX9_figureOf 36 = .ok (.iload_n 1, 1) := by decide +kernel
theorem dX9_figureOf_37 : decode cX9_figureOf 37 = .ok (.i2l, 1) := by decide +kernel
theorem dX9_figureOf_38 : decode cX9_figureOf 38 = .ok (.lmul, 1) := by decide +kernel
theorem dX9_figureOf_39 : decode cX9_figureOf 39 = .ok (.lstore 5, 2) := by decide +kernel
theorem dX9_figureOf_41 : decode cX9_figureOf 41 = .ok (.lload 5, 2) := by decide +kernel
theorem dX9_figureOf_43 : decode cX9_figureOf 43 = .ok (.aload_n 0, 1) := by decide +kernel
theorem dX9_figureOf_44 : decode cX9_figureOf 44 = .ok (.getfield 262, 3) := by decide +kernel
theorem dX9_figureOf_47 : decode cX9_figureOf 47 = .ok (.ldiv, 1) := by decide +kernel
theorem dX9_figureOf_48 : decode cX9_figureOf 48 = .ok (.lstore_n 3, 1) := by decide +kernel
theorem dX9_figureOf_49 : decode cX9_figureOf 49 = .ok (.lload 5, 2) := by decide +kernel
theorem dX9_figureOf_51 : decode cX9_figureOf 51 = .ok (.aload_n 0, 1) := by decide +kernel
theorem dX9_figureOf_52 : decode cX9_figureOf 52 = .ok (.getfield 262, 3) := by decide +kernel
theorem dX9_figureOf_55 : decode cX9_figureOf 55 = .ok (.lrem, 1) := by decide +kernel
theorem dX9_figureOf_56 : decode cX9_figureOf 56 = .ok (.lstore 5, 2) := by decide +kernel
theorem dX9_figureOf_58 : decode cX9_figureOf 58 = .ok (.iinc 7 1, 3) := by decide +kernel
theorem dX9_figureOf_61 : decode cX9_figureOf 61 = .ok (.goto (-33), 3) := by decide +kernel
theorem dX9_figureOf_64 : decode cX9_figureOf 64 = .ok (.lload_n 3, 1) := by decide +kernel
theorem dX9_figureOf_65 : decode cX9_figureOf 65 = .ok (.lreturn, 1) := by decide +kernel
theorem dX9_under_0 : decode cX9_under 0 = .ok (.lload_n 0, 1) := by decide +kernel
theorem dX9_under_1 : decode cX9_under 1 = .ok (.lconst 1, 1) := by decide +kernel
theorem dX9_under_2 : decode cX9_under 2 = .ok (.lsub, 1) := by decide +kernel
theorem dX9_under_3 : decode cX9_under 3 = .ok (.lload_n 2, 1) := by decide +kernel
theorem dX9_under_4 : decode cX9_under 4 = .ok (.invokestatic 91, 3) := by decide +kernel
theorem dX9_under_7 : decode cX9_under 7 = .ok (.lreturn, 1) := by decide +kernel
theorem dX9_isNarrow_0 : decode cX9_isNarrow 0 = .ok (.aload_n 0, 1) := by decide +kernel
theorem dX9_isNarrow_1 : decode cX9_isNarrow 1 = .ok (.getfield 69, 3) := by decide +kernel
theorem dX9_isNarrow_4 : decode cX9_isNarrow 4 = .ok (.ifCond .ne 67, 3) := by decide +kernel
theorem dX9_isNarrow_7 : decode cX9_isNarrow 7 = .ok (.aload_n 0, 1) := by decide +kernel
theorem dX9_isNarrow_8 : decode cX9_isNarrow 8 = .ok (.getfield 259, 3) := by decide +kernel
theorem dX9_isNarrow_11 : decode cX9_isNarrow 11 = .ok (.invokestatic 63, 3) := by decide +kernel
theorem dX9_isNarrow_14 : decode cX9_isNarrow 14 = .ok (.ldc2_w 303, 3) := by decide +kernel
theorem dX9_isNarrow_17 : decode cX9_isNarrow 17 = .ok (.lcmp, 1) := by decide +kernel
theorem dX9_isNarrow_18 : decode cX9_isNarrow 18 = .ok (.ifCond .gt 53, 3) := by decide +kernel
theorem dX9_isNarrow_21 : decode cX9_isNarrow 21 = .ok (.aload_n 0, 1) := by decide +kernel
theorem dX9_isNarrow_22 : decode cX9_isNarrow 22 = .ok (.getfield 262, 3) := by decide +kernel
theorem dX9_isNarrow_25 : decode cX9_isNarrow 25 = .ok (.ldc2_w 303, 3) := by decide +kernel
theorem dX9_isNarrow_28 : decode cX9_isNarrow 28 = .ok (.lcmp, 1) := by decide +kernel
theorem dX9_isNarrow_29 : decode cX9_isNarrow 29 = .ok (.ifCond .gt 42, 3) := by decide +kernel
theorem dX9_isNarrow_32 : decode cX9_isNarrow 32 = .ok (.aload_n 0, 1) := by decide +kernel
theorem dX9_isNarrow_33 : decode cX9_isNarrow 33 = .ok (.getfield 259, 3) := by decide +kernel
theorem dX9_isNarrow_36 : decode cX9_isNarrow 36 = .ok (.aload_n 0, 1) := by decide +kernel
theorem dX9_isNarrow_37 : decode cX9_isNarrow 37 = .ok (.getfield 265, 3) := by decide +kernel
theorem dX9_isNarrow_40 : decode cX9_isNarrow 40 = .ok (.ladd, 1) := by decide +kernel
theorem dX9_isNarrow_41 : decode cX9_isNarrow 41 = .ok (.invokestatic 63, 3) := by decide +kernel
theorem dX9_isNarrow_44 : decode cX9_isNarrow 44 = .ok (.ldc2_w 303, 3) := by decide +kernel
theorem dX9_isNarrow_47 : decode cX9_isNarrow 47 = .ok (.lcmp, 1) := by decide +kernel
theorem dX9_isNarrow_48 : decode cX9_isNarrow 48 = .ok (.ifCond .gt 23, 3) := by decide +kernel
theorem dX9_isNarrow_51 : decode cX9_isNarrow 51 = .ok (.aload_n 0, 1) := by decide +kernel
theorem dX9_isNarrow_52 : decode cX9_isNarrow 52 = .ok (.getfield 262, 3) := by decide +kernel
theorem dX9_isNarrow_55 : decode cX9_isNarrow 55 = .ok (.aload_n 0, 1) := by decide +kernel
theorem dX9_isNarrow_56 : decode cX9_isNarrow 56 = .ok (.getfield 268, 3) := by decide +kernel
theorem dX9_isNarrow_59 : decode cX9_isNarrow 59 = .ok (.ladd, 1) := by decide +kernel
theorem dX9_isNarrow_60 : decode cX9_isNarrow 60 = .ok (.ldc2_w 303, 3) := by decide +kernel
theorem dX9_isNarrow_63 : decode cX9_isNarrow 63 = .ok (.lcmp, 1) := by decide +kernel
theorem dX9_isNarrow_64 : decode cX9_isNarrow 64 = .ok (.ifCond .gt 7, 3) := by decide +kernel
theorem dX9_isNarrow_67 : decode cX9_isNarrow 67 = .ok (.iconst 1, 1) := by decide +kernel
theorem dX9_isNarrow_68 : decode cX9_isNarrow 68 = .ok (.goto 4, 3) := by decide +kernel
theorem dX9_isNarrow_71 : decode cX9_isNarrow 71 = .ok (.iconst 0, 1) := by decide +kernel
theorem dX9_isNarrow_72 : decode cX9_isNarrow 72 = .ok (.ireturn, 1) := by decide +kernel
theorem dX9_same_0 : decode cX9_same 0 = .ok (.lload_n 0, 1) := by decide +kernel
theorem dX9_same_1 : decode cX9_same 1 = .ok (.lload_n 2, 1) := by decide +kernel
theorem dX9_same_2 : decode cX9_same 2 = .ok (.invokestatic 91, 3) := by decide +kernel
theorem dX9_same_5 : decode cX9_same 5 = .ok (.lstore 10, 2) := by decide +kernel
theorem dX9_same_7 : decode cX9_same 7 = .ok (.lload 10, 2) := by decide +kernel
theorem dX9_same_9 : decode cX9_same 9 = .ok (.lload 4, 2) := by decide +kernel
theorem dX9_same_11 : decode cX9_same 11 = .ok (.lload 6, 2) := by decide +kernel
theorem dX9_same_13 : decode cX9_same 13 = .ok (.invokestatic 319, 3) := by decide +kernel
theorem dX9_same_16 : decode cX9_same 16 = .ok (.lcmp, 1) := by decide +kernel
theorem dX9_same_17 : decode cX9_same 17 = .ok (.ifCond .eq 7, 3) := by decide +kernel
theorem dX9_same_20 : decode cX9_same 20 = .ok (.ldc2_w 255, 3) := by decide +kernel
theorem dX9_same_23 : decode cX9_same 23 = .ok (.lreturn, 1) := by decide +kernel
theorem dX9_same_24 : decode cX9_same 24 = .ok (.lload_n 0, 1) := by decide +kernel
theorem dX9_same_25 : decode cX9_same 25 = .ok (.lload 10, 2) := by decide +kernel
theorem dX9_same_27 : decode cX9_same 27 = .ok (.lload_n 2, 1) := by decide +kernel
theorem dX9_same_28 : decode cX9_same 28 = .ok (.lmul, 1) := by decide +kernel
theorem dX9_same_29 : decode cX9_same 29 = .ok (.lsub, 1) := by decide +kernel
theorem dX9_same_30 : decode cX9_same 30 = .ok (.lstore 12, 2) := by decide +kernel
theorem dX9_same_32 : decode cX9_same 32 = .ok (.lload 4, 2) := by decide +kernel
theorem dX9_same_34 : decode cX9_same 34 = .ok (.lload 10, 2) := by decide +kernel
theorem dX9_same_36 : decode cX9_same 36 = .ok (.lload 6, 2) := by decide +kernel
theorem dX9_same_38 : decode cX9_same 38 = .ok (.lmul, 1) := by decide +kernel
theorem dX9_same_39 : decode cX9_same 39 = .ok (.lsub, 1) := by decide +kernel
theorem dX9_same_40 : decode cX9_same 40 = .ok (.lstore 14, 2) := by decide +kernel
theorem dX9_same_42 : decode cX9_same 42 = .ok (.iconst 0, 1) := by decide +kernel
theorem dX9_same_43 : decode cX9_same 43 = .ok (.istore 16, 2) := by decide +kernel
theorem dX9_same_45 : decode cX9_same 45 = .ok (.iload 16, 2) := by decide +kernel
theorem dX9_same_47 : decode cX9_same 47 = .ok (.iload 9, 2) := by decide +kernel
theorem dX9_same_49 : decode cX9_same 49 = .ok (.if_icmp .ge 69, 3) := by decide +kernel
theorem dX9_same_52 : decode cX9_same 52 = .ok (.lload 12, 2) := by decide +kernel
theorem dX9_same_54 : decode cX9_same 54 = .ok (.iload 8, 2) := by decide +kernel
theorem dX9_same_56 : decode cX9_same 56 = .ok (.i2l, 1) := by decide +kernel
theorem dX9_same_57 : decode cX9_same 57 = .ok (.lmul, 1) := by decide +kernel
theorem dX9_same_58 : decode cX9_same 58 = .ok (.lstore 12, 2) := by decide +kernel
theorem dX9_same_60 : decode cX9_same 60 = .ok (.lload 14, 2) := by decide +kernel
theorem dX9_same_62 : decode cX9_same 62 = .ok (.iload 8, 2) := by decide +kernel
theorem dX9_same_64 : decode cX9_same 64 = .ok (.i2l, 1) := by decide +kernel
theorem dX9_same_65 : decode cX9_same 65 = .ok (.lmul, 1) := by decide +kernel
theorem dX9_same_66 : decode cX9_same 66 = .ok (.lstore 14, 2) := by decide +kernel
theorem dX9_same_68 : decode cX9_same 68 = .ok (.lload 12, 2) := by decide +kernel
theorem dX9_same_70 : decode cX9_same 70 = .ok (.lload_n 2, 1) := by decide +kernel
theorem dX9_same_71 : decode cX9_same 71 = .ok (.invokestatic 91, 3) := by decide +kernel
theorem dX9_same_74 : decode cX9_same 74 = .ok (.lstore 10, 2) := by decide +kernel
theorem dX9_same_76 : decode cX9_same 76 = .ok (.lload 10, 2) := by decide +kernel
theorem dX9_same_78 : decode cX9_same 78 = .ok (.lload 14, 2) := by decide +kernel
theorem dX9_same_80 : decode cX9_same 80 = .ok (.lload 6, 2) := by decide +kernel
theorem dX9_same_82 : decode cX9_same 82 = .ok (.invokestatic 319, 3) := by decide +kernel
theorem dX9_same_85 : decode cX9_same 85 = .ok (.lcmp, 1) := by decide +kernel
theorem dX9_same_86 : decode cX9_same 86 = .ok (.ifCond .eq 7, 3) := by decide +kernel
theorem dX9_same_89 : decode cX9_same 89 = .ok (.ldc2_w 255, 3) := by decide +kernel
theorem dX9_same_92 : decode cX9_same 92 = .ok (.lreturn, 1) := by decide +kernel
theorem dX9_same_93 : decode cX9_same 93 = .ok (.lload 12, 2) := by decide +kernel
theorem dX9_same_95 : decode cX9_same 95 = .ok (.lload 10, 2) := by decide +kernel
theorem dX9_same_97 : decode cX9_same 97 = .ok (.lload_n 2, 1) := by decide +kernel
theorem dX9_same_98 : decode cX9_same 98 = .ok (.lmul, 1) := by decide +kernel
theorem dX9_same_99 : decode cX9_same 99 = .ok (.lsub, 1) := by decide +kernel
theorem dX9_same_100 : decode cX9_same 100 = .ok (.lstore 12, 2) := by decide +kernel
theorem dX9_same_102 : decode cX9_same 102 = .ok (.lload 14, 2) := by decide +kernel
theorem dX9_same_104 : decode cX9_same 104 = .ok (.lload 10, 2) := by decide +kernel
theorem dX9_same_106 : decode cX9_same 106 = .ok (.lload 6, 2) := by decide +kernel
theorem dX9_same_108 : decode cX9_same 108 = .ok (.lmul, 1) := by decide +kernel
theorem dX9_same_109 : decode cX9_same 109 = .ok (.lsub, 1) := by decide +kernel
theorem dX9_same_110 : decode cX9_same 110 = .ok (.lstore 14, 2) := by decide +kernel
theorem dX9_same_112 : decode cX9_same 112 = .ok (.iinc 16 1, 3) := by decide +kernel
theorem dX9_same_115 : decode cX9_same 115 = .ok (.goto (-70), 3) := by decide +kernel
theorem dX9_same_118 : decode cX9_same 118 = .ok (.lload 10, 2) := by decide +kernel
theorem dX9_same_120 : decode cX9_same 120 = .ok (.lreturn, 1) := by decide +kernel
theorem dX9_count_0 : decode cX9_count 0 = .ok (.iload_n 1, 1) := by decide +kernel
theorem dX9_count_1 : decode cX9_count 1 = .ok (.ifCond .ne 9, 3) := by decide +kernel
theorem dX9_count_4 : decode cX9_count 4 = .ok (.aload_n 0, 1) := by decide +kernel
theorem dX9_count_5 : decode cX9_count 5 = .ok (.getfield 79, 3) := by decide +kernel
theorem dX9_count_8 : decode cX9_count 8 = .ok (.i2l, 1) := by decide +kernel
theorem dX9_count_9 : decode cX9_count 9 = .ok (.lreturn, 1) := by decide +kernel
theorem dX9_count_10 : decode cX9_count 10 = .ok (.iload_n 1, 1) := by decide +kernel
theorem dX9_count_11 : decode cX9_count 11 = .ok (.iconst 1, 1) := by decide +kernel
theorem dX9_count_12 : decode cX9_count 12 = .ok (.if_icmp .ne 9, 3) := by decide +kernel
theorem dX9_count_15 : decode cX9_count 15 = .ok (.aload_n 0, 1) := by decide +kernel
theorem dX9_count_16 : decode cX9_count 16 = .ok (.getfield 138, 3) := by decide +kernel
theorem dX9_count_19 : decode cX9_count 19 = .ok (.i2l, 1) := by decide +kernel
theorem dX9_count_20 : decode cX9_count 20 = .ok (.lreturn, 1) := by decide +kernel
theorem dX9_count_21 : decode cX9_count 21 = .ok (.iload_n 1, 1) := by decide +kernel
theorem dX9_count_22 : decode cX9_count 22 = .ok (.iconst 2, 1) := by decide +kernel
theorem dX9_count_23 : decode cX9_count 23 = .ok (.if_icmp .eq 7, 3) := by decide +kernel
theorem dX9_count_26 : decode cX9_count 26 = .ok (.ldc2_w 109, 3) := by decide +kernel
theorem dX9_count_29 : decode cX9_count 29 = .ok (.lreturn, 1) := by decide +kernel
theorem dX9_count_30 : decode cX9_count 30 = .ok (.lconst 0, 1) := by decide +kernel
theorem dX9_count_31 : decode cX9_count 31 = .ok (.lstore_n 2, 1) := by decide +kernel
theorem dX9_count_32 : decode cX9_count 32 = .ok (.iconst 0, 1) := by decide +kernel
theorem dX9_count_33 : decode cX9_count 33 = .ok (.istore 4, 2) := by decide +kernel
theorem dX9_count_35 : decode cX9_count 35 = .ok (.iload 4, 2) := by decide +kernel
theorem dX9_count_37 : decode cX9_count 37 = .ok (.bipush 40, 2) := by decide +kernel
theorem dX9_count_39 : decode cX9_count 39 = .ok (.if_icmp .ge 36, 3) := by decide +kernel
theorem dX9_count_42 : decode cX9_count 42 = .ok (.lload_n 2, 1) := by decide +kernel
theorem dX9_count_43 : decode cX9_count 43 = .ok (.aload_n 0, 1) := by decide +kernel
theorem dX9_count_44 : decode cX9_count 44 = .ok (.getfield 7, 3) := by decide +kernel
theorem dX9_count_47 : decode cX9_count 47 = .ok (.iload 4, 2) := by decide +kernel
theorem dX9_count_49 : decode cX9_count 49 = .ok (.baload, 1) := by decide +kernel
theorem dX9_count_50 : decode cX9_count 50 = .ok (.ifCond .eq 16, 3) := by decide +kernel
theorem dX9_count_53 : decode cX9_count 53 = .ok (.aload_n 0, 1) := by decide +kernel
theorem dX9_count_54 : decode cX9_count 54 = .ok (.iload 4, 2) := by decide +kernel
theorem dX9_count_56 : decode cX9_count 56 = .ok (.invokevirtual 249, 3) := by decide +kernel
theorem dX9_count_59 : decode cX9_count 59 = .ok (.ifCond .eq 7, 3) := by decide +kernel
theorem dX9_count_62 : decode cX9_count 62 = .ok (.lconst 1, 1) := by decide +kernel
theorem dX9_count_63 : decode cX9_count 63 = .ok (.goto 4, 3) := by decide +kernel
theorem dX9_count_66 : decode cX9_count 66 = .ok (.lconst 0, 1) := by decide +kernel
theorem dX9_count_67 : decode cX9_count 67 = .ok (.ladd, 1) := by decide +kernel
theorem dX9_count_68 : decode cX9_count 68 = .ok (.lstore_n 2, 1) := by decide +kernel
theorem dX9_count_69 : decode cX9_count 69 = .ok (.iinc 4 1, 3) := by decide +kernel
theorem dX9_count_72 : decode cX9_count 72 = .ok (.goto (-37), 3) := by decide +kernel
theorem dX9_count_75 : decode cX9_count 75 = .ok (.lload_n 2, 1) := by decide +kernel
theorem dX9_count_76 : decode cX9_count 76 = .ok (.lreturn, 1) := by decide +kernel
abbrev eX9_findBoth (G : GG) (R : Int64 × AH) : EE := eM G 11 (some .long) false 3 73 0 0 (some (.long R.1)) R.2
theorem wX9_findBoth_247 (G : GG) (hG : GT G) (R : Int64 × AH) (l0 : Nat) (l8 : Int64) (l10 : Int32) (s0 : Nat) (s1 : Int64) (h : AH) (X : fX9_findBoth_247 l0 l8 l10 s0 s1 h = some R) : AW (eX9_findBoth G R) RX9 cX9_findBoth 247 [some (.ref (gB G + l0)), none, none, none, none, none, none, none, some (.long l8), none, some (.int l10)] [.long s1, .ref (gB G + s0)] h 0 0 := by
  unfold fX9_findBoth_247 at X
  refine r_pL 250 dX9_findBoth_247 rfl lpX9_290 rfl X (fun h101 X => ?_)
  refine r_ald0 251 dX9_findBoth_250 rfl ?_
  refine r_ild10 253 dX9_findBoth_251 rfl ?_
  refine r_if_eq 261 256 dX9_findBoth_253 (by decide) rfl X (fun _ X => ?_) (fun _ X => ?_)
  · refine r_ald0 262 dX9_findBoth_261 rfl ?_
    refine r_gL 265 dX9_findBoth_262 rfl lfX9_268 rfl X (fun x102 X => ?_)
    refine r_pL 268 dX9_findBoth_265 rfl lpX9_293 rfl X (fun h103 X => ?_)
    refine r_lconst 269 _ dX9_findBoth_268 rfl kl_0 ?_
    exact r_retL dX9_findBoth_269 (Nat.zero_le _) (Nat.zero_le _) X
  · refine r_lld8 258 dX9_findBoth_256 rfl ?_
    refine r_goto 265 dX9_findBoth_258 (by decide) ?_
    refine r_pL 268 dX9_findBoth_265 rfl lpX9_293 rfl X (fun h104 X => ?_)
    refine r_lconst 269 _ dX9_findBoth_268 rfl kl_0 ?_
    exact r_retL dX9_findBoth_269 (Nat.zero_le _) (Nat.zero_le _) X
theorem wX9_findBoth_211 (G : GG) (hG : GT G) (R : Int64 × AH) (l0 : Nat) (l6 : Int64) (l8 : Int64) (l10 : Int32) (s0 : Nat) (s1 : Int64) (h : AH) (X : fX9_findBoth_211 l0 l6 l8 l10 s0 s1 h = some R) : AW (eX9_findBoth G R) RX9 cX9_findBoth 211 [some (.ref (gB G + l0)), none, none, none, none, none, some (.long l6), none, some (.long l8), none, some (.int l10)] [.long s1, .ref (gB G + s0)] h 0 0 := by
  unfold fX9_findBoth_211 at X
  refine r_pL 214 dX9_findBoth_211 rfl lpX9_284 rfl X (fun h101 X => ?_)
  refine r_ald0 215 dX9_findBoth_214 rfl ?_
  refine r_ild10 217 dX9_findBoth_215 rfl ?_
  refine r_if_eq 227 220 dX9_findBoth_217 (by decide) rfl X (fun _ X => ?_) (fun _ X => ?_)
  · refine r_lld8 229 dX9_findBoth_227 rfl ?_
    refine r_pL 232 dX9_findBoth_229 rfl lpX9_287 rfl X (fun h102 X => ?_)
    refine r_ald0 233 dX9_findBoth_232 rfl ?_
    refine r_ild10 235 dX9_findBoth_233 rfl ?_
    refine r_if_eq 243 238 dX9_findBoth_235 (by decide) rfl X (fun _ X => ?_) (fun _ X => ?_)
    · refine r_ald0 244 dX9_findBoth_243 rfl ?_
      refine r_gL 247 dX9_findBoth_244 rfl lfX9_265 rfl X (fun x103 X => ?_)
      exact r_cut (wX9_findBoth_247 G hG R _ _ _ _ _ _ X) ⟨rfl, ⟨rfl, ⟨rfl, trivial⟩⟩⟩
    · refine r_lld6 240 dX9_findBoth_238 rfl ?_
      refine r_goto 247 dX9_findBoth_240 (by decide) ?_
      exact r_cut (wX9_findBoth_247 G hG R _ _ _ _ _ _ X) ⟨rfl, ⟨rfl, ⟨rfl, trivial⟩⟩⟩
  · refine r_ald0 221 dX9_findBoth_220 rfl ?_
    refine r_gL 224 dX9_findBoth_221 rfl lfX9_268 rfl X (fun x104 X => ?_)
    refine r_goto 229 dX9_findBoth_224 (by decide) ?_
    refine r_pL 232 dX9_findBoth_229 rfl lpX9_287 rfl X (fun h105 X => ?_)
    refine r_ald0 233 dX9_findBoth_232 rfl ?_
    refine r_ild10 235 dX9_findBoth_233 rfl ?_
    refine r_if_eq 243 238 dX9_findBoth_235 (by decide) rfl X (fun _ X => ?_) (fun _ X => ?_)
    · refine r_ald0 244 dX9_findBoth_243 rfl ?_
      refine r_gL 247 dX9_findBoth_244 rfl lfX9_265 rfl X (fun x106 X => ?_)
      exact r_cut (wX9_findBoth_247 G hG R _ _ _ _ _ _ X) ⟨rfl, ⟨rfl, ⟨rfl, trivial⟩⟩⟩
    · refine r_lld6 240 dX9_findBoth_238 rfl ?_
      refine r_goto 247 dX9_findBoth_240 (by decide) ?_
      exact r_cut (wX9_findBoth_247 G hG R _ _ _ _ _ _ X) ⟨rfl, ⟨rfl, ⟨rfl, trivial⟩⟩⟩
theorem wX9_findBoth_97 (G : GG) (hG : GT G) (R : Int64 × AH) (l0 : Nat) (l2 : Int32) (l3 : Int32) (h : AH) (X : fX9_findBoth_97 l0 l2 l3 h = some R) : AW (eX9_findBoth G R) RX9 cX9_findBoth 97 [some (.ref (gB G + l0)), none, some (.int l2), some (.int l3), none, none, none, none, none, none, none] [] h 0 0 := by
  unfold fX9_findBoth_97 at X
  refine r_ald0 98 dX9_findBoth_97 rfl ?_
  refine r_gL 101 dX9_findBoth_98 rfl lfX9_262 rfl X (fun x101 X => ?_)
  refine r_ild2 102 dX9_findBoth_101 rfl ?_
  refine r_i2l 103 dX9_findBoth_102 rfl ?_
  refine r_lif_gt 141 107 dX9_findBoth_103 dX9_findBoth_104 (by decide) rfl X (fun _ X => ?_) (fun _ X => ?_)
  · refine r_ild2 142 dX9_findBoth_141 rfl ?_
    refine r_i2l 143 dX9_findBoth_142 rfl ?_
    refine r_ald0 144 dX9_findBoth_143 rfl ?_
    refine r_gL 147 dX9_findBoth_144 rfl lfX9_274 rfl X (fun x102 X => ?_)
    refine r_lsub 148 dX9_findBoth_147 rfl ?_
    refine r_ald0 149 dX9_findBoth_148 rfl ?_
    refine r_gL 152 dX9_findBoth_149 rfl lfX9_268 rfl X (fun x103 X => ?_)
    refine r_ldiv 153 dX9_findBoth_152 rfl X (fun X => ?_)
    refine r_lst4w 155 dX9_findBoth_153 rfl rfl X (fun x104 X => ?_)
    refine r_lld4 157 dX9_findBoth_155 rfl ?_
    refine r_ald0 158 dX9_findBoth_157 rfl ?_
    refine r_gL 161 dX9_findBoth_158 rfl lfX9_265 rfl X (fun x105 X => ?_)
    refine r_lmul 162 dX9_findBoth_161 rfl ?_
    refine r_ald0 163 dX9_findBoth_162 rfl ?_
    refine r_gL 166 dX9_findBoth_163 rfl lfX9_271 rfl X (fun x106 X => ?_)
    refine r_ladd 167 dX9_findBoth_166 rfl ?_
    refine r_lst6w 169 dX9_findBoth_167 rfl rfl X (fun x107 X => ?_)
    refine r_lld4 171 dX9_findBoth_169 rfl ?_
    refine r_ald0 172 dX9_findBoth_171 rfl ?_
    refine r_gL 175 dX9_findBoth_172 rfl lfX9_268 rfl X (fun x108 X => ?_)
    refine r_lmul 176 dX9_findBoth_175 rfl ?_
    refine r_ald0 177 dX9_findBoth_176 rfl ?_
    refine r_gL 180 dX9_findBoth_177 rfl lfX9_274 rfl X (fun x109 X => ?_)
    refine r_ladd 181 dX9_findBoth_180 rfl ?_
    refine r_lst8w 183 dX9_findBoth_181 rfl rfl X (fun x110 X => ?_)
    refine r_ild3 184 dX9_findBoth_183 rfl ?_
    refine r_iconst 185 _ dX9_findBoth_184 rfl ki_2 ?_
    refine r_irem 186 dX9_findBoth_185 rfl X (fun X => ?_)
    refine r_if_ne 193 189 dX9_findBoth_186 (by decide) rfl X (fun _ X => ?_) (fun _ X => ?_)
    · refine r_iconst 194 _ dX9_findBoth_193 rfl ki_0 ?_
      refine r_ist10 196 dX9_findBoth_194 rfl rfl ?_
      refine r_ald0 197 dX9_findBoth_196 rfl ?_
      refine r_ild10 199 dX9_findBoth_197 rfl ?_
      refine r_if_eq 209 202 dX9_findBoth_199 (by decide) rfl X (fun _ X => ?_) (fun _ X => ?_)
      · refine r_lld6 211 dX9_findBoth_209 rfl ?_
        exact r_cut (wX9_findBoth_211 G hG R _ _ _ _ _ _ _ X) ⟨rfl, ⟨rfl, ⟨rfl, ⟨rfl, trivial⟩⟩⟩⟩
      · refine r_ald0 203 dX9_findBoth_202 rfl ?_
        refine r_gL 206 dX9_findBoth_203 rfl lfX9_265 rfl X (fun x111 X => ?_)
        refine r_goto 211 dX9_findBoth_206 (by decide) ?_
        exact r_cut (wX9_findBoth_211 G hG R _ _ _ _ _ _ _ X) ⟨rfl, ⟨rfl, ⟨rfl, ⟨rfl, trivial⟩⟩⟩⟩
    · refine r_iconst 190 _ dX9_findBoth_189 rfl ki_1 ?_
      refine r_goto 194 dX9_findBoth_190 (by decide) ?_
      refine r_ist10 196 dX9_findBoth_194 rfl rfl ?_
      refine r_ald0 197 dX9_findBoth_196 rfl ?_
      refine r_ild10 199 dX9_findBoth_197 rfl ?_
      refine r_if_eq 209 202 dX9_findBoth_199 (by decide) rfl X (fun _ X => ?_) (fun _ X => ?_)
      · refine r_lld6 211 dX9_findBoth_209 rfl ?_
        exact r_cut (wX9_findBoth_211 G hG R _ _ _ _ _ _ _ X) ⟨rfl, ⟨rfl, ⟨rfl, ⟨rfl, trivial⟩⟩⟩⟩
      · refine r_ald0 203 dX9_findBoth_202 rfl ?_
        refine r_gL 206 dX9_findBoth_203 rfl lfX9_265 rfl X (fun x112 X => ?_)
        refine r_goto 211 dX9_findBoth_206 (by decide) ?_
        exact r_cut (wX9_findBoth_211 G hG R _ _ _ _ _ _ _ X) ⟨rfl, ⟨rfl, ⟨rfl, ⟨rfl, trivial⟩⟩⟩⟩
  · refine r_ald0 108 dX9_findBoth_107 rfl ?_
    refine r_ald0 109 dX9_findBoth_108 rfl ?_
    refine r_gL 112 dX9_findBoth_109 rfl lfX9_259 rfl X (fun x113 X => ?_)
    refine r_pL 115 dX9_findBoth_112 rfl lpX9_284 rfl X (fun h114 X => ?_)
    refine r_ald0 116 dX9_findBoth_115 rfl ?_
    refine r_ald0 117 dX9_findBoth_116 rfl ?_
    refine r_gL 120 dX9_findBoth_117 rfl lfX9_262 rfl X (fun x115 X => ?_)
    refine r_pL 123 dX9_findBoth_120 rfl lpX9_287 rfl X (fun h116 X => ?_)
    refine r_ald0 124 dX9_findBoth_123 rfl ?_
    refine r_ald0 125 dX9_findBoth_124 rfl ?_
    refine r_gL 128 dX9_findBoth_125 rfl lfX9_259 rfl X (fun x117 X => ?_)
    refine r_pL 131 dX9_findBoth_128 rfl lpX9_290 rfl X (fun h118 X => ?_)
    refine r_ald0 132 dX9_findBoth_131 rfl ?_
    refine r_ald0 133 dX9_findBoth_132 rfl ?_
    refine r_gL 136 dX9_findBoth_133 rfl lfX9_262 rfl X (fun x119 X => ?_)
    refine r_pL 139 dX9_findBoth_136 rfl lpX9_293 rfl X (fun h120 X => ?_)
    refine r_lconst 140 _ dX9_findBoth_139 rfl kl_0 ?_
    exact r_retL dX9_findBoth_140 (Nat.zero_le _) (Nat.zero_le _) X
theorem wX9_findBoth_54 (G : GG) (hG : GT G) (R : Int64 × AH) (l0 : Nat) (l1 : Int32) (l2 : Int32) (l3 : Int32) (h : AH) (X : fX9_findBoth_54 l0 l1 l2 l3 h = some R) : AW (eX9_findBoth G R) RX9 cX9_findBoth 54 [some (.ref (gB G + l0)), some (.int l1), some (.int l2), some (.int l3), none, none, none, none, none, none, none] [] h 0 0 := by
  unfold fX9_findBoth_54 at X
  refine r_ald0 55 dX9_findBoth_54 rfl ?_
  refine r_gI 58 dX9_findBoth_55 rfl lfX9_69 rfl X (fun x101 X => ?_)
  refine r_if_eq 65 61 dX9_findBoth_58 (by decide) rfl X (fun _ X => ?_) (fun _ X => ?_)
  · refine r_ald0 66 dX9_findBoth_65 rfl ?_
    refine r_gL 69 dX9_findBoth_66 rfl lfX9_262 rfl X (fun x102 X => ?_)
    refine r_ild2 70 dX9_findBoth_69 rfl ?_
    refine r_i2l 71 dX9_findBoth_70 rfl ?_
    refine r_lif_gt 97 75 dX9_findBoth_71 dX9_findBoth_72 (by decide) rfl X (fun _ X => ?_) (fun _ X => ?_)
    · exact r_cut (wX9_findBoth_97 G hG R _ _ _ _ X) ⟨rfl, ⟨rfl, ⟨rfl, trivial⟩⟩⟩
    · refine r_ald0 76 dX9_findBoth_75 rfl ?_
      refine r_gR 79 dX9_findBoth_76 rfl lfX9_20 rfl X (fun b103 X => ?_)
      refine r_ild1 80 dX9_findBoth_79 rfl ?_
      refine r_aZ 81 2 dX9_findBoth_80 rfl rfl X (fun x104 X => ?_)
      refine r_if_eq 93 84 dX9_findBoth_81 (by decide) rfl X (fun _ X => ?_) (fun _ X => ?_)
      · refine r_ldc2 96 dX9_findBoth_93 rfl lkX9_255 ?_
        exact r_retL dX9_findBoth_96 (Nat.zero_le _) (Nat.zero_le _) X
      · refine r_ald0 85 dX9_findBoth_84 rfl ?_
        refine r_gR 88 dX9_findBoth_85 rfl lfX9_17 rfl X (fun b105 X => ?_)
        refine r_ild1 89 dX9_findBoth_88 rfl ?_
        refine r_aI 90 0 dX9_findBoth_89 rfl rfl X (fun x106 X => ?_)
        refine r_if_ne 97 93 dX9_findBoth_90 (by decide) rfl X (fun _ X => ?_) (fun _ X => ?_)
        · exact r_cut (wX9_findBoth_97 G hG R _ _ _ _ X) ⟨rfl, ⟨rfl, ⟨rfl, trivial⟩⟩⟩
        · refine r_ldc2 96 dX9_findBoth_93 rfl lkX9_255 ?_
          exact r_retL dX9_findBoth_96 (Nat.zero_le _) (Nat.zero_le _) X
  · refine r_ldc2 64 dX9_findBoth_61 rfl lkX9_177 ?_
    exact r_retL dX9_findBoth_64 (Nat.zero_le _) (Nat.zero_le _) X
theorem wX9_findBoth_6 (G : GG) (hG : GT G) (R : Int64 × AH) {K6 : Nat → Int32 → Int32 → Int32 → AH → Fn Int64} (hK6 : ∀ (l0 : Nat) (l1 : Int32) (l2 : Int32) (l3 : Int32) (h : AH), K6 l0 l1 l2 l3 h = some R → AW (eX9_findBoth G R) RX9 cX9_findBoth 6 [some (.ref (gB G + l0)), some (.int l1), some (.int l2), some (.int l3), none, none, none, none, none, none, none] [] h 0 0) (l0 : Nat) (l1 : Int32) (l2 : Int32) (l3 : Int32) (h : AH) (X : fX9_findBoth_6 K6 l0 l1 l2 l3 h = some R) : AW (eX9_findBoth G R) RX9 cX9_findBoth 6 [some (.ref (gB G + l0)), some (.int l1), some (.int l2), some (.int l3), none, none, none, none, none, none, none] [] h 0 0 := by
  unfold fX9_findBoth_6 at X
  refine r_ild3 7 dX9_findBoth_6 rfl ?_
  refine r_ald0 8 dX9_findBoth_7 rfl ?_
  refine r_gR 11 dX9_findBoth_8 rfl lfX9_17 rfl X (fun b101 X => ?_)
  refine r_ild1 12 dX9_findBoth_11 rfl ?_
  refine r_aI 13 0 dX9_findBoth_12 rfl rfl X (fun x102 X => ?_)
  refine r_icmp_ge 54 16 dX9_findBoth_13 (by decide) rfl X (fun _ X => ?_) (fun _ X => ?_)
  · exact r_cut (wX9_findBoth_54 G hG R _ _ _ _ _ X) ⟨rfl, ⟨rfl, ⟨rfl, ⟨rfl, trivial⟩⟩⟩⟩
  · refine r_ald0 17 dX9_findBoth_16 rfl ?_
    refine r_gL 20 dX9_findBoth_17 rfl lfX9_262 rfl X (fun x103 X => ?_)
    refine r_ild2 21 dX9_findBoth_20 rfl ?_
    refine r_i2l 22 dX9_findBoth_21 rfl ?_
    refine r_lif_gt 54 26 dX9_findBoth_22 dX9_findBoth_23 (by decide) rfl X (fun _ X => ?_) (fun _ X => ?_)
    · exact r_cut (wX9_findBoth_54 G hG R _ _ _ _ _ X) ⟨rfl, ⟨rfl, ⟨rfl, ⟨rfl, trivial⟩⟩⟩⟩
    · refine r_ald0 27 dX9_findBoth_26 rfl ?_
      refine r_gI 30 dX9_findBoth_27 rfl lfX9_69 rfl X (fun x104 X => ?_)
      refine r_if_ne 54 33 dX9_findBoth_30 (by decide) rfl X (fun _ X => ?_) (fun _ X => ?_)
      · exact r_cut (wX9_findBoth_54 G hG R _ _ _ _ _ X) ⟨rfl, ⟨rfl, ⟨rfl, ⟨rfl, trivial⟩⟩⟩⟩
      · refine r_ald0 34 dX9_findBoth_33 rfl ?_
        refine r_ald0 35 dX9_findBoth_34 rfl ?_
        refine r_gR 38 dX9_findBoth_35 rfl lfX9_23 rfl X (fun b105 X => ?_)
        refine r_bipush 40 _ dX9_findBoth_38 rfl kb_60 ?_
        refine r_ild1 41 dX9_findBoth_40 rfl ?_
        refine r_imul 42 dX9_findBoth_41 rfl ?_
        refine r_ild3 43 dX9_findBoth_42 rfl ?_
        refine r_iadd 44 dX9_findBoth_43 rfl ?_
        refine r_aL 45 1 dX9_findBoth_44 rfl rfl X (fun x106 X => ?_)
        obtain ⟨hs, X⟩ := r_cv X
        obtain ⟨_, h107, hc, X⟩ := bnd_ok X
        refine r_callV1v 48 dX9_findBoth_45 rfl lmX9_280 hs (mtX9_goNear G hG hc) rfl ⟨(Nat.zero_le _), (Nat.zero_le _)⟩ ?_
        refine r_iinc3w 51 dX9_findBoth_48 rfl rfl ki_1 X (fun x108 X => ?_)
        refine r_goto 6 dX9_findBoth_51 (by decide) ?_
        exact r_cut (hK6 _ _ _ _ _ X) ⟨rfl, ⟨rfl, ⟨rfl, ⟨rfl, trivial⟩⟩⟩⟩
theorem wX9_findBoth_6L (G : GG) (hG : GT G) (R : Int64 × AH) : ∀ (m : Nat) (l0 : Nat) (l1 : Int32) (l2 : Int32) (l3 : Int32) (h : AH), fX9_findBoth_6L m l0 l1 l2 l3 h = some R → AW (eX9_findBoth G R) RX9 cX9_findBoth 6 [some (.ref (gB G + l0)), some (.int l1), some (.int l2), some (.int l3), none, none, none, none, none, none, none] [] h 0 0 := by
  intro m
  induction m with
  | zero => intro l0 l1 l2 l3 h X; exact nomatch (show (none : Fn Int64) = some R from X)
  | succ m ih => intro l0 l1 l2 l3 h X; exact wX9_findBoth_6 G hG R ih l0 l1 l2 l3 h X
theorem wX9_findBoth (G : GG) (hG : GT G) (R : Int64 × AH) (a0 : Nat) (x0 : Int32) (x1 : Int32) (h : AH) (X : fX9_findBoth a0 x0 x1 h = some R) : AW (eX9_findBoth G R) RX9 cX9_findBoth 0 [some (.ref (gB G + a0)), some (.int x0), some (.int x1), none, none, none, none, none, none, none, none] [] h 0 0 := by
  unfold fX9_findBoth at X
  refine r_ald0 1 dX9_findBoth_0 rfl ?_
  obtain ⟨hs, X⟩ := r_cv X
  obtain ⟨_, h101, hc, X⟩ := bnd_ok X
  refine r_callV0v 4 dX9_findBoth_1 rfl lmX9_277 hs (mtX9_beginNear G hG hc) rfl ⟨(Nat.zero_le _), (Nat.zero_le _)⟩ ?_
  refine r_iconst 5 _ dX9_findBoth_4 rfl ki_0 ?_
  refine r_ist3 6 dX9_findBoth_5 rfl rfl ?_
  exact r_cut (wX9_findBoth_6L G hG R 1000 _ _ _ _ _ X) ⟨rfl, ⟨rfl, ⟨rfl, ⟨rfl, trivial⟩⟩⟩⟩
theorem mtX9_findBoth (G : GG) (hG : GT G) {a0 : Nat} {x0 : Int32} {x1 : Int32} {h h' : AH} {v : Int64} (hc : fX9_findBoth a0 x0 x1 h = some (v, h')) : AMet G yX9_findBoth cX9_findBoth 11 (some .long) 3 73 0 0 [.ref (gB G + a0), .int x0, .int x1] h (some (.long v)) h' :=
  amet_of false [some (.ref (gB G + a0)), some (.int x0), some (.int x1), none, none, none, none, none, none, none, none] (by decide +kernel) (by decide) (Nat.le_of_ble_eq_true rfl) rfl (Nat.le_of_ble_eq_true rfl) (wX9_findBoth G hG (v, h') _ _ _ h hc)
abbrev eX9_best (G : GG) (R : Int64 × AH) : EE := eM G 13 (some .long) false 4 103 0 0 (some (.long R.1)) R.2
theorem wX9_best_226 (G : GG) (hG : GT G) (R : Int64 × AH) (l0 : Nat) (l4 : Int32) (l7 : Int32) (h : AH) (X : fX9_best_226 l0 l4 l7 h = some R) : AW (eX9_best G R) RX9 cX9_best 226 [some (.ref (gB G + l0)), none, none, none, some (.int l4), none, none, some (.int l7), none, none, none, none, none] [] h 0 0 := by
  unfold fX9_best_226 at X
  refine r_ild4 228 dX9_best_226 rfl ?_
  refine r_if_ne 250 231 dX9_best_228 (by decide) rfl X (fun _ X => ?_) (fun _ X => ?_)
  · refine r_ild7 252 dX9_best_250 rfl ?_
    refine r_if_eq 262 255 dX9_best_252 (by decide) rfl X (fun _ X => ?_) (fun _ X => ?_)
    · refine r_ald0 263 dX9_best_262 rfl ?_
      refine r_gL 266 dX9_best_263 rfl lfX9_287 rfl X (fun x101 X => ?_)
      exact r_retL dX9_best_266 (Nat.zero_le _) (Nat.zero_le _) X
    · refine r_ald0 256 dX9_best_255 rfl ?_
      refine r_gL 259 dX9_best_256 rfl lfX9_293 rfl X (fun x102 X => ?_)
      refine r_goto 266 dX9_best_259 (by decide) ?_
      exact r_retL dX9_best_266 (Nat.zero_le _) (Nat.zero_le _) X
  · refine r_ild7 233 dX9_best_231 rfl ?_
    refine r_if_eq 243 236 dX9_best_233 (by decide) rfl X (fun _ X => ?_) (fun _ X => ?_)
    · refine r_ald0 244 dX9_best_243 rfl ?_
      refine r_gL 247 dX9_best_244 rfl lfX9_284 rfl X (fun x103 X => ?_)
      refine r_goto 266 dX9_best_247 (by decide) ?_
      exact r_retL dX9_best_266 (Nat.zero_le _) (Nat.zero_le _) X
    · refine r_ald0 237 dX9_best_236 rfl ?_
      refine r_gL 240 dX9_best_237 rfl lfX9_290 rfl X (fun x104 X => ?_)
      refine r_goto 266 dX9_best_240 (by decide) ?_
      exact r_retL dX9_best_266 (Nat.zero_le _) (Nat.zero_le _) X
theorem wX9_best_109 (G : GG) (hG : GT G) (R : Int64 × AH) (l0 : Nat) (l1 : Int32) (l4 : Int32) (h : AH) (X : fX9_best_109 l0 l1 l4 h = some R) : AW (eX9_best G R) RX9 cX9_best 109 [some (.ref (gB G + l0)), some (.int l1), none, none, some (.int l4), none, none, none, none, none, none, none, none] [] h 0 0 := by
  unfold fX9_best_109 at X
  refine r_ald0 110 dX9_best_109 rfl ?_
  refine r_iconst 111 _ dX9_best_110 rfl ki_0 ?_
  refine r_pZ 114 dX9_best_111 rfl lpX9_69 rfl X (fun h101 X => ?_)
  refine r_ald0 115 dX9_best_114 rfl ?_
  refine r_ald0 116 dX9_best_115 rfl ?_
  refine r_ald0 117 dX9_best_116 rfl ?_
  refine r_gL 120 dX9_best_117 rfl lfX9_284 rfl X (fun x102 X => ?_)
  refine r_ald0 121 dX9_best_120 rfl ?_
  refine r_gL 124 dX9_best_121 rfl lfX9_293 rfl X (fun x103 X => ?_)
  obtain ⟨hs, X⟩ := r_cv X
  obtain ⟨x105, h104, hc, X⟩ := bnd_ok X
  refine r_callV2 127 dX9_best_124 rfl lmX9_151 hs (mtX9_mul G hG hc) rfl ⟨(Nat.zero_le _), (Nat.zero_le _)⟩ ?_
  refine r_ald0 128 dX9_best_127 rfl ?_
  refine r_ald0 129 dX9_best_128 rfl ?_
  refine r_gL 132 dX9_best_129 rfl lfX9_290 rfl X (fun x106 X => ?_)
  refine r_ald0 133 dX9_best_132 rfl ?_
  refine r_gL 136 dX9_best_133 rfl lfX9_287 rfl X (fun x107 X => ?_)
  obtain ⟨hs, X⟩ := r_cv X
  obtain ⟨x109, h108, hc, X⟩ := bnd_ok X
  refine r_callV2 139 dX9_best_136 rfl lmX9_151 hs (mtX9_mul G hG hc) rfl ⟨(Nat.zero_le _), (Nat.zero_le _)⟩ ?_
  obtain ⟨hs, X⟩ := r_cv X
  obtain ⟨x111, h110, hc, X⟩ := bnd_ok X
  refine r_callV2 142 dX9_best_139 rfl lmX9_154 hs (mtX9_add G hG hc) rfl ⟨(Nat.zero_le _), (Nat.zero_le _)⟩ ?_
  refine r_lst8 144 dX9_best_142 rfl rfl ?_
  refine r_ald0 145 dX9_best_144 rfl ?_
  refine r_ald0 146 dX9_best_145 rfl ?_
  refine r_ldc2 149 dX9_best_146 rfl lkX9_102 ?_
  refine r_ald0 150 dX9_best_149 rfl ?_
  refine r_gL 153 dX9_best_150 rfl lfX9_287 rfl X (fun x112 X => ?_)
  obtain ⟨hs, X⟩ := r_cv X
  obtain ⟨x114, h113, hc, X⟩ := bnd_ok X
  refine r_callV2 156 dX9_best_153 rfl lmX9_151 hs (mtX9_mul G hG hc) rfl ⟨(Nat.zero_le _), (Nat.zero_le _)⟩ ?_
  refine r_ald0 157 dX9_best_156 rfl ?_
  refine r_gL 160 dX9_best_157 rfl lfX9_293 rfl X (fun x115 X => ?_)
  obtain ⟨hs, X⟩ := r_cv X
  obtain ⟨x117, h116, hc, X⟩ := bnd_ok X
  refine r_callV2 163 dX9_best_160 rfl lmX9_151 hs (mtX9_mul G hG hc) rfl ⟨(Nat.zero_le _), (Nat.zero_le _)⟩ ?_
  refine r_lst10 165 dX9_best_163 rfl rfl ?_
  refine r_ald0 166 dX9_best_165 rfl ?_
  refine r_gI 169 dX9_best_166 rfl lfX9_69 rfl X (fun x118 X => ?_)
  refine r_if_eq 176 172 dX9_best_169 (by decide) rfl X (fun _ X => ?_) (fun _ X => ?_)
  · refine r_ald0 177 dX9_best_176 rfl ?_
    refine r_ild1 178 dX9_best_177 rfl ?_
    refine r_lld8 180 dX9_best_178 rfl ?_
    refine r_lld10 182 dX9_best_180 rfl ?_
    obtain ⟨hs, X⟩ := r_cv X
    obtain ⟨x120, h119, hc, X⟩ := bnd_ok X
    refine r_callV3 185 dX9_best_182 rfl lmX9_299 hs (mtX9_against G hG hc) rfl ⟨(Nat.zero_le _), (Nat.zero_le _)⟩ ?_
    refine r_ist12 187 dX9_best_185 rfl rfl ?_
    refine r_ild12 189 dX9_best_187 rfl ?_
    refine r_iconst 190 _ dX9_best_189 rfl ki_2 ?_
    refine r_icmp_ne 197 193 dX9_best_190 (by decide) rfl X (fun _ X => ?_) (fun _ X => ?_)
    · refine r_ild12 199 dX9_best_197 rfl ?_
      refine r_if_gt 219 202 dX9_best_199 (by decide) rfl X (fun _ X => ?_) (fun _ X => ?_)
      · refine r_iconst 220 _ dX9_best_219 rfl ki_1 ?_
        refine r_goto 224 dX9_best_220 (by decide) ?_
        refine r_ist7 226 dX9_best_224 rfl rfl ?_
        exact r_cut (wX9_best_226 G hG R _ _ _ _ X) ⟨rfl, ⟨rfl, ⟨rfl, trivial⟩⟩⟩
      · refine r_ild12 204 dX9_best_202 rfl ?_
        refine r_if_ne 223 207 dX9_best_204 (by decide) rfl X (fun _ X => ?_) (fun _ X => ?_)
        · refine r_iconst 224 _ dX9_best_223 rfl ki_0 ?_
          refine r_ist7 226 dX9_best_224 rfl rfl ?_
          exact r_cut (wX9_best_226 G hG R _ _ _ _ X) ⟨rfl, ⟨rfl, ⟨rfl, trivial⟩⟩⟩
        · refine r_ald0 208 dX9_best_207 rfl ?_
          refine r_gL 211 dX9_best_208 rfl lfX9_293 rfl X (fun x121 X => ?_)
          refine r_ald0 212 dX9_best_211 rfl ?_
          refine r_gL 215 dX9_best_212 rfl lfX9_287 rfl X (fun x122 X => ?_)
          refine r_lif_ge 223 219 dX9_best_215 dX9_best_216 (by decide) rfl X (fun _ X => ?_) (fun _ X => ?_)
          · refine r_iconst 224 _ dX9_best_223 rfl ki_0 ?_
            refine r_ist7 226 dX9_best_224 rfl rfl ?_
            exact r_cut (wX9_best_226 G hG R _ _ _ _ X) ⟨rfl, ⟨rfl, ⟨rfl, trivial⟩⟩⟩
          · refine r_iconst 220 _ dX9_best_219 rfl ki_1 ?_
            refine r_goto 224 dX9_best_220 (by decide) ?_
            refine r_ist7 226 dX9_best_224 rfl rfl ?_
            exact r_cut (wX9_best_226 G hG R _ _ _ _ X) ⟨rfl, ⟨rfl, ⟨rfl, trivial⟩⟩⟩
    · refine r_ldc2 196 dX9_best_193 rfl lkX9_255 ?_
      exact r_retL dX9_best_196 (Nat.zero_le _) (Nat.zero_le _) X
  · refine r_ldc2 175 dX9_best_172 rfl lkX9_177 ?_
    exact r_retL dX9_best_175 (Nat.zero_le _) (Nat.zero_le _) X
theorem wX9_best_79 (G : GG) (hG : GT G) (R : Int64 × AH) (l0 : Nat) (l1 : Int32) (l3 : Int32) (l4 : Int32) (s0 : Int32) (h : AH) (X : fX9_best_79 l0 l1 l3 l4 s0 h = some R) : AW (eX9_best G R) RX9 cX9_best 79 [some (.ref (gB G + l0)), some (.int l1), none, some (.int l3), some (.int l4), none, none, none, none, none, none, none, none] [.int s0] h 0 0 := by
  unfold fX9_best_79 at X
  refine r_ist7 81 dX9_best_79 rfl rfl ?_
  refine r_ild3 82 dX9_best_81 rfl ?_
  refine r_if_ne 226 85 dX9_best_82 (by decide) rfl X (fun _ X => ?_) (fun _ X => ?_)
  · exact r_cut (wX9_best_226 G hG R _ _ _ _ X) ⟨rfl, ⟨rfl, ⟨rfl, trivial⟩⟩⟩
  · refine r_ald0 86 dX9_best_85 rfl ?_
    refine r_gL 89 dX9_best_86 rfl lfX9_284 rfl X (fun x101 X => ?_)
    refine r_ald0 90 dX9_best_89 rfl ?_
    refine r_gL 93 dX9_best_90 rfl lfX9_290 rfl X (fun x102 X => ?_)
    refine r_lif_ne 109 97 dX9_best_93 dX9_best_94 (by decide) rfl X (fun _ X => ?_) (fun _ X => ?_)
    · exact r_cut (wX9_best_109 G hG R _ _ _ _ X) ⟨rfl, ⟨rfl, ⟨rfl, trivial⟩⟩⟩
    · refine r_ald0 98 dX9_best_97 rfl ?_
      refine r_gL 101 dX9_best_98 rfl lfX9_287 rfl X (fun x103 X => ?_)
      refine r_ald0 102 dX9_best_101 rfl ?_
      refine r_gL 105 dX9_best_102 rfl lfX9_293 rfl X (fun x104 X => ?_)
      refine r_lif_eq 226 109 dX9_best_105 dX9_best_106 (by decide) rfl X (fun _ X => ?_) (fun _ X => ?_)
      · exact r_cut (wX9_best_226 G hG R _ _ _ _ X) ⟨rfl, ⟨rfl, ⟨rfl, trivial⟩⟩⟩
      · exact r_cut (wX9_best_109 G hG R _ _ _ _ X) ⟨rfl, ⟨rfl, ⟨rfl, trivial⟩⟩⟩
theorem wX9_best (G : GG) (hG : GT G) (R : Int64 × AH) (a0 : Nat) (x0 : Int32) (x1 : Int32) (x2 : Int32) (x3 : Int32) (h : AH) (X : fX9_best a0 x0 x1 x2 x3 h = some R) : AW (eX9_best G R) RX9 cX9_best 0 [some (.ref (gB G + a0)), some (.int x0), some (.int x1), some (.int x2), some (.int x3), none, none, none, none, none, none, none, none] [] h 0 0 := by
  unfold fX9_best at X
  refine r_ald0 1 dX9_best_0 rfl ?_
  refine r_ild1 2 dX9_best_1 rfl ?_
  obtain ⟨hs, X⟩ := r_cv X
  obtain ⟨x102, h101, hc, X⟩ := bnd_ok X
  refine r_callV1 5 dX9_best_2 rfl lmX9_179 hs (mtX9_noStream G hG hc) rfl ⟨(Nat.zero_le _), (Nat.zero_le _)⟩ ?_
  refine r_if_eq 12 8 dX9_best_5 (by decide) rfl X (fun _ X => ?_) (fun _ X => ?_)
  · refine r_ild2 13 dX9_best_12 rfl ?_
    refine r_i2l 14 dX9_best_13 rfl ?_
    refine r_lconst 15 _ dX9_best_14 rfl kl_1 ?_
    refine r_ldc2 18 dX9_best_15 rfl lkX9_136 ?_
    obtain ⟨x104, h103, hc, X⟩ := bnd_ok X
    refine r_callS3 21 dX9_best_18 rfl lmX9_75 (mtX9_in G hG hc) rfl ⟨(Nat.zero_le _), (Nat.zero_le _)⟩ ?_
    refine r_if_eq 47 24 dX9_best_21 (by decide) rfl X (fun _ X => ?_) (fun _ X => ?_)
    · refine r_ldc2 50 dX9_best_47 rfl lkX9_109 ?_
      exact r_retL dX9_best_50 (Nat.zero_le _) (Nat.zero_le _) X
    · refine r_ild3 25 dX9_best_24 rfl ?_
      refine r_i2l 26 dX9_best_25 rfl ?_
      refine r_lconst 27 _ dX9_best_26 rfl kl_0 ?_
      refine r_ldc2 30 dX9_best_27 rfl lkX9_102 ?_
      obtain ⟨x106, h105, hc, X⟩ := bnd_ok X
      refine r_callS3 33 dX9_best_30 rfl lmX9_75 (mtX9_in G hG hc) rfl ⟨(Nat.zero_le _), (Nat.zero_le _)⟩ ?_
      refine r_if_eq 47 36 dX9_best_33 (by decide) rfl X (fun _ X => ?_) (fun _ X => ?_)
      · refine r_ldc2 50 dX9_best_47 rfl lkX9_109 ?_
        exact r_retL dX9_best_50 (Nat.zero_le _) (Nat.zero_le _) X
      · refine r_ild4 38 dX9_best_36 rfl ?_
        refine r_i2l 39 dX9_best_38 rfl ?_
        refine r_lconst 40 _ dX9_best_39 rfl kl_0 ?_
        refine r_lconst 41 _ dX9_best_40 rfl kl_1 ?_
        obtain ⟨x108, h107, hc, X⟩ := bnd_ok X
        refine r_callS3 44 dX9_best_41 rfl lmX9_75 (mtX9_in G hG hc) rfl ⟨(Nat.zero_le _), (Nat.zero_le _)⟩ ?_
        refine r_if_ne 51 47 dX9_best_44 (by decide) rfl X (fun _ X => ?_) (fun _ X => ?_)
        · refine r_ald0 52 dX9_best_51 rfl ?_
          refine r_ild1 53 dX9_best_52 rfl ?_
          refine r_ild2 54 dX9_best_53 rfl ?_
          obtain ⟨hs, X⟩ := r_cv X
          obtain ⟨x110, h109, hc, X⟩ := bnd_ok X
          refine r_callV2 57 dX9_best_54 rfl lmX9_296 hs (mtX9_findBoth G hG hc) rfl ⟨(Nat.zero_le _), (Nat.zero_le _)⟩ ?_
          refine r_lst5 59 dX9_best_57 rfl rfl ?_
          refine r_lld5 61 dX9_best_59 rfl ?_
          refine r_lconst 62 _ dX9_best_61 rfl kl_0 ?_
          refine r_lif_eq 69 66 dX9_best_62 dX9_best_63 (by decide) rfl X (fun _ X => ?_) (fun _ X => ?_)
          · refine r_ild3 70 dX9_best_69 rfl ?_
            refine r_iconst 71 _ dX9_best_70 rfl ki_2 ?_
            refine r_icmp_ne 78 74 dX9_best_71 (by decide) rfl X (fun _ X => ?_) (fun _ X => ?_)
            · refine r_iconst 79 _ dX9_best_78 rfl ki_0 ?_
              exact r_cut (wX9_best_79 G hG R _ _ _ _ _ _ X) ⟨rfl, ⟨rfl, ⟨rfl, ⟨rfl, trivial⟩⟩⟩⟩
            · refine r_iconst 75 _ dX9_best_74 rfl ki_1 ?_
              refine r_goto 79 dX9_best_75 (by decide) ?_
              exact r_cut (wX9_best_79 G hG R _ _ _ _ _ _ X) ⟨rfl, ⟨rfl, ⟨rfl, ⟨rfl, trivial⟩⟩⟩⟩
          · refine r_lld5 68 dX9_best_66 rfl ?_
            exact r_retL dX9_best_68 (Nat.zero_le _) (Nat.zero_le _) X
        · refine r_ldc2 50 dX9_best_47 rfl lkX9_109 ?_
          exact r_retL dX9_best_50 (Nat.zero_le _) (Nat.zero_le _) X
  · refine r_ldc2 11 dX9_best_8 rfl lkX9_183 ?_
    exact r_retL dX9_best_11 (Nat.zero_le _) (Nat.zero_le _) X
theorem mtX9_best (G : GG) (hG : GT G) {a0 : Nat} {x0 : Int32} {x1 : Int32} {x2 : Int32} {x3 : Int32} {h h' : AH} {v : Int64} (hc : fX9_best a0 x0 x1 x2 x3 h = some (v, h')) : AMet G yX9_best cX9_best 13 (some .long) 4 103 0 0 [.ref (gB G + a0), .int x0, .int x1, .int x2, .int x3] h (some (.long v)) h' :=
  amet_of false [some (.ref (gB G + a0)), some (.int x0), some (.int x1), some (.int x2), some (.int x3), none, none, none, none, none, none, none, none] (by decide +kernel) (by decide) (Nat.le_of_ble_eq_true rfl) rfl (Nat.le_of_ble_eq_true rfl) (wX9_best G hG (v, h') _ _ _ _ _ h hc)
abbrev eX9_compare (G : GG) (R : Int64 × AH) : EE := eM G 10 (some .long) false 2 46 0 0 (some (.long R.1)) R.2
theorem wX9_compare_254 (G : GG) (hG : GT G) (R : Int64 × AH) (l3 : Int32) (s0 : Int32) (h : AH) (X : fX9_compare_254 l3 s0 h = some R) : AW (eX9_compare G R) RX9 cX9_compare 254 [none, none, none, some (.int l3), none, none, none, none, none, none] [.int s0] h 0 0 := by
  unfold fX9_compare_254 at X
  refine r_ild3 255 dX9_compare_254 rfl ?_
  refine r_iconst 256 _ dX9_compare_255 rfl ki_2 ?_
  refine r_irem 257 dX9_compare_256 rfl X (fun X => ?_)
  refine r_if_ne 264 260 dX9_compare_257 (by decide) rfl X (fun _ X => ?_) (fun _ X => ?_)
  · refine r_iconst 265 _ dX9_compare_264 rfl ki_0 ?_
    refine r_icmp_ne 274 268 dX9_compare_265 (by decide) rfl X (fun _ X => ?_) (fun _ X => ?_)
    · refine r_lconst 275 _ dX9_compare_274 rfl kl_1 ?_
      exact r_retL dX9_compare_275 (Nat.zero_le _) (Nat.zero_le _) X
    · refine r_ldc2 271 dX9_compare_268 rfl lkX9_149 ?_
      refine r_goto 275 dX9_compare_271 (by decide) ?_
      exact r_retL dX9_compare_275 (Nat.zero_le _) (Nat.zero_le _) X
  · refine r_iconst 261 _ dX9_compare_260 rfl ki_1 ?_
    refine r_goto 265 dX9_compare_261 (by decide) ?_
    refine r_icmp_ne 274 268 dX9_compare_265 (by decide) rfl X (fun _ X => ?_) (fun _ X => ?_)
    · refine r_lconst 275 _ dX9_compare_274 rfl kl_1 ?_
      exact r_retL dX9_compare_275 (Nat.zero_le _) (Nat.zero_le _) X
    · refine r_ldc2 271 dX9_compare_268 rfl lkX9_149 ?_
      refine r_goto 275 dX9_compare_271 (by decide) ?_
      exact r_retL dX9_compare_275 (Nat.zero_le _) (Nat.zero_le _) X
theorem wX9_compare_241 (G : GG) (hG : GT G) (R : Int64 × AH) (l3 : Int32) (l6 : Int64) (l8 : Int64) (h : AH) (X : fX9_compare_241 l3 l6 l8 h = some R) : AW (eX9_compare G R) RX9 cX9_compare 241 [none, none, none, some (.int l3), none, none, some (.long l6), none, some (.long l8), none] [] h 0 0 := by
  unfold fX9_compare_241 at X
  refine r_lld6 243 dX9_compare_241 rfl ?_
  refine r_lld8 245 dX9_compare_243 rfl ?_
  refine r_lif_ge 253 249 dX9_compare_245 dX9_compare_246 (by decide) rfl X (fun _ X => ?_) (fun _ X => ?_)
  · refine r_iconst 254 _ dX9_compare_253 rfl ki_0 ?_
    exact r_cut (wX9_compare_254 G hG R _ _ _ X) ⟨rfl, trivial⟩
  · refine r_iconst 250 _ dX9_compare_249 rfl ki_1 ?_
    refine r_goto 254 dX9_compare_250 (by decide) ?_
    exact r_cut (wX9_compare_254 G hG R _ _ _ X) ⟨rfl, trivial⟩
theorem wX9_compare_207 (G : GG) (hG : GT G) (R : Int64 × AH) {K101 : Nat → Int32 → Int32 → Int32 → AH → Fn Int64} (hK101 : ∀ (l0 : Nat) (l1 : Int32) (l2 : Int32) (l3 : Int32) (h : AH), K101 l0 l1 l2 l3 h = some R → AW (eX9_compare G R) RX9 cX9_compare 101 [some (.ref (gB G + l0)), some (.int l1), some (.int l2), some (.int l3), none, none, none, none, none, none] [] h 0 0) (l0 : Nat) (l1 : Int32) (l2 : Int32) (l3 : Int32) (l5 : Int32) (s0 : Int64) (h : AH) (X : fX9_compare_207 K101 l0 l1 l2 l3 l5 s0 h = some R) : AW (eX9_compare G R) RX9 cX9_compare 207 [some (.ref (gB G + l0)), some (.int l1), some (.int l2), some (.int l3), none, some (.int l5), none, none, none, none] [.long s0] h 0 0 := by
  unfold fX9_compare_207 at X
  refine r_lst6 209 dX9_compare_207 rfl rfl ?_
  refine r_ild5 211 dX9_compare_209 rfl ?_
  refine r_if_eq 228 214 dX9_compare_211 (by decide) rfl X (fun _ X => ?_) (fun _ X => ?_)
  · refine r_ldc2 231 dX9_compare_228 rfl lkX9_257 ?_
    refine r_lst8 233 dX9_compare_231 rfl rfl ?_
    refine r_lld6 235 dX9_compare_233 rfl ?_
    refine r_lld8 237 dX9_compare_235 rfl ?_
    refine r_lif_eq 276 241 dX9_compare_237 dX9_compare_238 (by decide) rfl X (fun _ X => ?_) (fun _ X => ?_)
    · refine r_iinc3w 279 dX9_compare_276 rfl rfl ki_1 X (fun x101 X => ?_)
      refine r_goto 101 dX9_compare_279 (by decide) ?_
      exact r_cut (hK101 _ _ _ _ _ X) ⟨rfl, ⟨rfl, ⟨rfl, ⟨rfl, trivial⟩⟩⟩⟩
    · exact r_cut (wX9_compare_241 G hG R _ _ _ _ X) ⟨rfl, ⟨rfl, ⟨rfl, trivial⟩⟩⟩
  · refine r_ald0 215 dX9_compare_214 rfl ?_
    refine r_gR 218 dX9_compare_215 rfl lfX9_23 rfl X (fun b102 X => ?_)
    refine r_bipush 220 _ dX9_compare_218 rfl kb_60 ?_
    refine r_ild2 221 dX9_compare_220 rfl ?_
    refine r_imul 222 dX9_compare_221 rfl ?_
    refine r_ild3 223 dX9_compare_222 rfl ?_
    refine r_iadd 224 dX9_compare_223 rfl ?_
    refine r_aL 225 1 dX9_compare_224 rfl rfl X (fun x103 X => ?_)
    refine r_goto 231 dX9_compare_225 (by decide) ?_
    refine r_lst8 233 dX9_compare_231 rfl rfl ?_
    refine r_lld6 235 dX9_compare_233 rfl ?_
    refine r_lld8 237 dX9_compare_235 rfl ?_
    refine r_lif_eq 276 241 dX9_compare_237 dX9_compare_238 (by decide) rfl X (fun _ X => ?_) (fun _ X => ?_)
    · refine r_iinc3w 279 dX9_compare_276 rfl rfl ki_1 X (fun x104 X => ?_)
      refine r_goto 101 dX9_compare_279 (by decide) ?_
      exact r_cut (hK101 _ _ _ _ _ X) ⟨rfl, ⟨rfl, ⟨rfl, ⟨rfl, trivial⟩⟩⟩⟩
    · exact r_cut (wX9_compare_241 G hG R _ _ _ _ X) ⟨rfl, ⟨rfl, ⟨rfl, trivial⟩⟩⟩
theorem wX9_compare_185 (G : GG) (hG : GT G) (R : Int64 × AH) {K101 : Nat → Int32 → Int32 → Int32 → AH → Fn Int64} (hK101 : ∀ (l0 : Nat) (l1 : Int32) (l2 : Int32) (l3 : Int32) (h : AH), K101 l0 l1 l2 l3 h = some R → AW (eX9_compare G R) RX9 cX9_compare 101 [some (.ref (gB G + l0)), some (.int l1), some (.int l2), some (.int l3), none, none, none, none, none, none] [] h 0 0) (l0 : Nat) (l1 : Int32) (l2 : Int32) (l3 : Int32) (l4 : Int32) (l5 : Int32) (h : AH) (X : fX9_compare_185 K101 l0 l1 l2 l3 l4 l5 h = some R) : AW (eX9_compare G R) RX9 cX9_compare 185 [some (.ref (gB G + l0)), some (.int l1), some (.int l2), some (.int l3), some (.int l4), some (.int l5), none, none, none, none] [] h 0 0 := by
  unfold fX9_compare_185 at X
  refine r_ild4 187 dX9_compare_185 rfl ?_
  refine r_if_eq 204 190 dX9_compare_187 (by decide) rfl X (fun _ X => ?_) (fun _ X => ?_)
  · refine r_ldc2 207 dX9_compare_204 rfl lkX9_257 ?_
    exact r_cut (wX9_compare_207 G hG R hK101 _ _ _ _ _ _ _ X) ⟨rfl, ⟨rfl, ⟨rfl, ⟨rfl, ⟨rfl, trivial⟩⟩⟩⟩⟩
  · refine r_ald0 191 dX9_compare_190 rfl ?_
    refine r_gR 194 dX9_compare_191 rfl lfX9_23 rfl X (fun b101 X => ?_)
    refine r_bipush 196 _ dX9_compare_194 rfl kb_60 ?_
    refine r_ild1 197 dX9_compare_196 rfl ?_
    refine r_imul 198 dX9_compare_197 rfl ?_
    refine r_ild3 199 dX9_compare_198 rfl ?_
    refine r_iadd 200 dX9_compare_199 rfl ?_
    refine r_aL 201 1 dX9_compare_200 rfl rfl X (fun x102 X => ?_)
    refine r_goto 207 dX9_compare_201 (by decide) ?_
    exact r_cut (wX9_compare_207 G hG R hK101 _ _ _ _ _ _ _ X) ⟨rfl, ⟨rfl, ⟨rfl, ⟨rfl, ⟨rfl, trivial⟩⟩⟩⟩⟩
theorem wX9_compare_155 (G : GG) (hG : GT G) (R : Int64 × AH) {K101 : Nat → Int32 → Int32 → Int32 → AH → Fn Int64} (hK101 : ∀ (l0 : Nat) (l1 : Int32) (l2 : Int32) (l3 : Int32) (h : AH), K101 l0 l1 l2 l3 h = some R → AW (eX9_compare G R) RX9 cX9_compare 101 [some (.ref (gB G + l0)), some (.int l1), some (.int l2), some (.int l3), none, none, none, none, none, none] [] h 0 0) (l0 : Nat) (l1 : Int32) (l2 : Int32) (l3 : Int32) (l4 : Int32) (l5 : Int32) (h : AH) (X : fX9_compare_155 K101 l0 l1 l2 l3 l4 l5 h = some R) : AW (eX9_compare G R) RX9 cX9_compare 155 [some (.ref (gB G + l0)), some (.int l1), some (.int l2), some (.int l3), some (.int l4), some (.int l5), none, none, none, none] [] h 0 0 := by
  unfold fX9_compare_155 at X
  refine r_ild5 157 dX9_compare_155 rfl ?_
  refine r_if_ne 173 160 dX9_compare_157 (by decide) rfl X (fun _ X => ?_) (fun _ X => ?_)
  · refine r_ild4 175 dX9_compare_173 rfl ?_
    refine r_if_ne 185 178 dX9_compare_175 (by decide) rfl X (fun _ X => ?_) (fun _ X => ?_)
    · exact r_cut (wX9_compare_185 G hG R hK101 _ _ _ _ _ _ _ X) ⟨rfl, ⟨rfl, ⟨rfl, ⟨rfl, ⟨rfl, ⟨rfl, trivial⟩⟩⟩⟩⟩⟩
    · refine r_ild5 180 dX9_compare_178 rfl ?_
      refine r_if_ne 185 183 dX9_compare_180 (by decide) rfl X (fun _ X => ?_) (fun _ X => ?_)
      · exact r_cut (wX9_compare_185 G hG R hK101 _ _ _ _ _ _ _ X) ⟨rfl, ⟨rfl, ⟨rfl, ⟨rfl, ⟨rfl, ⟨rfl, trivial⟩⟩⟩⟩⟩⟩
      · refine r_lconst 184 _ dX9_compare_183 rfl kl_0 ?_
        exact r_retL dX9_compare_184 (Nat.zero_le _) (Nat.zero_le _) X
  · refine r_ald0 161 dX9_compare_160 rfl ?_
    refine r_gR 164 dX9_compare_161 rfl lfX9_20 rfl X (fun b101 X => ?_)
    refine r_ild2 165 dX9_compare_164 rfl ?_
    refine r_aZ 166 2 dX9_compare_165 rfl rfl X (fun x102 X => ?_)
    refine r_if_ne 173 169 dX9_compare_166 (by decide) rfl X (fun _ X => ?_) (fun _ X => ?_)
    · refine r_ild4 175 dX9_compare_173 rfl ?_
      refine r_if_ne 185 178 dX9_compare_175 (by decide) rfl X (fun _ X => ?_) (fun _ X => ?_)
      · exact r_cut (wX9_compare_185 G hG R hK101 _ _ _ _ _ _ _ X) ⟨rfl, ⟨rfl, ⟨rfl, ⟨rfl, ⟨rfl, ⟨rfl, trivial⟩⟩⟩⟩⟩⟩
      · refine r_ild5 180 dX9_compare_178 rfl ?_
        refine r_if_ne 185 183 dX9_compare_180 (by decide) rfl X (fun _ X => ?_) (fun _ X => ?_)
        · exact r_cut (wX9_compare_185 G hG R hK101 _ _ _ _ _ _ _ X) ⟨rfl, ⟨rfl, ⟨rfl, ⟨rfl, ⟨rfl, ⟨rfl, trivial⟩⟩⟩⟩⟩⟩
        · refine r_lconst 184 _ dX9_compare_183 rfl kl_0 ?_
          exact r_retL dX9_compare_184 (Nat.zero_le _) (Nat.zero_le _) X
    · refine r_ldc2 172 dX9_compare_169 rfl lkX9_255 ?_
      exact r_retL dX9_compare_172 (Nat.zero_le _) (Nat.zero_le _) X
theorem wX9_compare_122 (G : GG) (hG : GT G) (R : Int64 × AH) {K101 : Nat → Int32 → Int32 → Int32 → AH → Fn Int64} (hK101 : ∀ (l0 : Nat) (l1 : Int32) (l2 : Int32) (l3 : Int32) (h : AH), K101 l0 l1 l2 l3 h = some R → AW (eX9_compare G R) RX9 cX9_compare 101 [some (.ref (gB G + l0)), some (.int l1), some (.int l2), some (.int l3), none, none, none, none, none, none] [] h 0 0) (l0 : Nat) (l1 : Int32) (l2 : Int32) (l3 : Int32) (s0 : Int32) (h : AH) (X : fX9_compare_122 K101 l0 l1 l2 l3 s0 h = some R) : AW (eX9_compare G R) RX9 cX9_compare 122 [some (.ref (gB G + l0)), some (.int l1), some (.int l2), some (.int l3), none, none, none, none, none, none] [.int s0] h 0 0 := by
  unfold fX9_compare_122 at X
  refine r_ist4 124 dX9_compare_122 rfl rfl ?_
  refine r_ild3 125 dX9_compare_124 rfl ?_
  refine r_ald0 126 dX9_compare_125 rfl ?_
  refine r_gR 129 dX9_compare_126 rfl lfX9_17 rfl X (fun b101 X => ?_)
  refine r_ild2 130 dX9_compare_129 rfl ?_
  refine r_aI 131 0 dX9_compare_130 rfl rfl X (fun x102 X => ?_)
  refine r_icmp_ge 138 134 dX9_compare_131 (by decide) rfl X (fun _ X => ?_) (fun _ X => ?_)
  · refine r_iconst 139 _ dX9_compare_138 rfl ki_0 ?_
    refine r_ist5 141 dX9_compare_139 rfl rfl ?_
    refine r_ild4 143 dX9_compare_141 rfl ?_
    refine r_if_ne 155 146 dX9_compare_143 (by decide) rfl X (fun _ X => ?_) (fun _ X => ?_)
    · exact r_cut (wX9_compare_155 G hG R hK101 _ _ _ _ _ _ _ X) ⟨rfl, ⟨rfl, ⟨rfl, ⟨rfl, ⟨rfl, ⟨rfl, trivial⟩⟩⟩⟩⟩⟩
    · refine r_ald0 147 dX9_compare_146 rfl ?_
      refine r_gR 150 dX9_compare_147 rfl lfX9_20 rfl X (fun b103 X => ?_)
      refine r_ild1 151 dX9_compare_150 rfl ?_
      refine r_aZ 152 2 dX9_compare_151 rfl rfl X (fun x104 X => ?_)
      refine r_if_eq 169 155 dX9_compare_152 (by decide) rfl X (fun _ X => ?_) (fun _ X => ?_)
      · refine r_ldc2 172 dX9_compare_169 rfl lkX9_255 ?_
        exact r_retL dX9_compare_172 (Nat.zero_le _) (Nat.zero_le _) X
      · exact r_cut (wX9_compare_155 G hG R hK101 _ _ _ _ _ _ _ X) ⟨rfl, ⟨rfl, ⟨rfl, ⟨rfl, ⟨rfl, ⟨rfl, trivial⟩⟩⟩⟩⟩⟩
  · refine r_iconst 135 _ dX9_compare_134 rfl ki_1 ?_
    refine r_goto 139 dX9_compare_135 (by decide) ?_
    refine r_ist5 141 dX9_compare_139 rfl rfl ?_
    refine r_ild4 143 dX9_compare_141 rfl ?_
    refine r_if_ne 155 146 dX9_compare_143 (by decide) rfl X (fun _ X => ?_) (fun _ X => ?_)
    · exact r_cut (wX9_compare_155 G hG R hK101 _ _ _ _ _ _ _ X) ⟨rfl, ⟨rfl, ⟨rfl, ⟨rfl, ⟨rfl, ⟨rfl, trivial⟩⟩⟩⟩⟩⟩
    · refine r_ald0 147 dX9_compare_146 rfl ?_
      refine r_gR 150 dX9_compare_147 rfl lfX9_20 rfl X (fun b105 X => ?_)
      refine r_ild1 151 dX9_compare_150 rfl ?_
      refine r_aZ 152 2 dX9_compare_151 rfl rfl X (fun x106 X => ?_)
      refine r_if_eq 169 155 dX9_compare_152 (by decide) rfl X (fun _ X => ?_) (fun _ X => ?_)
      · refine r_ldc2 172 dX9_compare_169 rfl lkX9_255 ?_
        exact r_retL dX9_compare_172 (Nat.zero_le _) (Nat.zero_le _) X
      · exact r_cut (wX9_compare_155 G hG R hK101 _ _ _ _ _ _ _ X) ⟨rfl, ⟨rfl, ⟨rfl, ⟨rfl, ⟨rfl, ⟨rfl, trivial⟩⟩⟩⟩⟩⟩
theorem wX9_compare_101 (G : GG) (hG : GT G) (R : Int64 × AH) {K101 : Nat → Int32 → Int32 → Int32 → AH → Fn Int64} (hK101 : ∀ (l0 : Nat) (l1 : Int32) (l2 : Int32) (l3 : Int32) (h : AH), K101 l0 l1 l2 l3 h = some R → AW (eX9_compare G R) RX9 cX9_compare 101 [some (.ref (gB G + l0)), some (.int l1), some (.int l2), some (.int l3), none, none, none, none, none, none] [] h 0 0) (l0 : Nat) (l1 : Int32) (l2 : Int32) (l3 : Int32) (h : AH) (X : fX9_compare_101 K101 l0 l1 l2 l3 h = some R) : AW (eX9_compare G R) RX9 cX9_compare 101 [some (.ref (gB G + l0)), some (.int l1), some (.int l2), some (.int l3), none, none, none, none, none, none] [] h 0 0 := by
  unfold fX9_compare_101 at X
  refine r_ild3 102 dX9_compare_101 rfl ?_
  refine r_bipush 104 _ dX9_compare_102 rfl kb_60 ?_
  refine r_icmp_gt 282 107 dX9_compare_104 (by decide) rfl X (fun _ X => ?_) (fun _ X => ?_)
  · refine r_ldc2 285 dX9_compare_282 rfl lkX9_255 ?_
    exact r_retL dX9_compare_285 (Nat.zero_le _) (Nat.zero_le _) X
  · refine r_ild3 108 dX9_compare_107 rfl ?_
    refine r_ald0 109 dX9_compare_108 rfl ?_
    refine r_gR 112 dX9_compare_109 rfl lfX9_17 rfl X (fun b101 X => ?_)
    refine r_ild1 113 dX9_compare_112 rfl ?_
    refine r_aI 114 0 dX9_compare_113 rfl rfl X (fun x102 X => ?_)
    refine r_icmp_ge 121 117 dX9_compare_114 (by decide) rfl X (fun _ X => ?_) (fun _ X => ?_)
    · refine r_iconst 122 _ dX9_compare_121 rfl ki_0 ?_
      exact r_cut (wX9_compare_122 G hG R hK101 _ _ _ _ _ _ X) ⟨rfl, ⟨rfl, ⟨rfl, ⟨rfl, trivial⟩⟩⟩⟩
    · refine r_iconst 118 _ dX9_compare_117 rfl ki_1 ?_
      refine r_goto 122 dX9_compare_118 (by decide) ?_
      exact r_cut (wX9_compare_122 G hG R hK101 _ _ _ _ _ _ X) ⟨rfl, ⟨rfl, ⟨rfl, ⟨rfl, trivial⟩⟩⟩⟩
theorem wX9_compare_101L (G : GG) (hG : GT G) (R : Int64 × AH) : ∀ (m : Nat) (l0 : Nat) (l1 : Int32) (l2 : Int32) (l3 : Int32) (h : AH), fX9_compare_101L m l0 l1 l2 l3 h = some R → AW (eX9_compare G R) RX9 cX9_compare 101 [some (.ref (gB G + l0)), some (.int l1), some (.int l2), some (.int l3), none, none, none, none, none, none] [] h 0 0 := by
  intro m
  induction m with
  | zero => intro l0 l1 l2 l3 h X; exact nomatch (show (none : Fn Int64) = some R from X)
  | succ m ih => intro l0 l1 l2 l3 h X; exact wX9_compare_101 G hG R ih l0 l1 l2 l3 h X
theorem wX9_compare_93 (G : GG) (hG : GT G) (R : Int64 × AH) (l0 : Nat) (l1 : Int32) (l2 : Int32) (l3 : Int32) (h : AH) (X : fX9_compare_93 l0 l1 l2 l3 h = some R) : AW (eX9_compare G R) RX9 cX9_compare 93 [some (.ref (gB G + l0)), some (.int l1), some (.int l2), some (.int l3), none, none, none, none, none, none] [] h 0 0 := by
  unfold fX9_compare_93 at X
  refine r_ild3 94 dX9_compare_93 rfl ?_
  refine r_if_eq 99 97 dX9_compare_94 (by decide) rfl X (fun _ X => ?_) (fun _ X => ?_)
  · refine r_iconst 100 _ dX9_compare_99 rfl ki_0 ?_
    refine r_ist3 101 dX9_compare_100 rfl rfl ?_
    exact r_cut (wX9_compare_101L G hG R 1000 _ _ _ _ _ X) ⟨rfl, ⟨rfl, ⟨rfl, ⟨rfl, trivial⟩⟩⟩⟩
  · refine r_lconst 98 _ dX9_compare_97 rfl kl_0 ?_
    exact r_retL dX9_compare_98 (Nat.zero_le _) (Nat.zero_le _) X
theorem wX9_compare_45 (G : GG) (hG : GT G) (R : Int64 × AH) {K45 : Nat → Int32 → Int32 → Int32 → Int32 → AH → Fn Int64} (hK45 : ∀ (l0 : Nat) (l1 : Int32) (l2 : Int32) (l3 : Int32) (l4 : Int32) (h : AH), K45 l0 l1 l2 l3 l4 h = some R → AW (eX9_compare G R) RX9 cX9_compare 45 [some (.ref (gB G + l0)), some (.int l1), some (.int l2), some (.int l3), some (.int l4), none, none, none, none, none] [] h 0 0) (l0 : Nat) (l1 : Int32) (l2 : Int32) (l3 : Int32) (l4 : Int32) (h : AH) (X : fX9_compare_45 K45 l0 l1 l2 l3 l4 h = some R) : AW (eX9_compare G R) RX9 cX9_compare 45 [some (.ref (gB G + l0)), some (.int l1), some (.int l2), some (.int l3), some (.int l4), none, none, none, none, none] [] h 0 0 := by
  unfold fX9_compare_45 at X
  refine r_ild4 47 dX9_compare_45 rfl ?_
  refine r_iconst 48 _ dX9_compare_47 rfl ki_4 ?_
  refine r_icmp_ge 93 51 dX9_compare_48 (by decide) rfl X (fun _ X => ?_) (fun _ X => ?_)
  · exact r_cut (wX9_compare_93 G hG R _ _ _ _ _ X) ⟨rfl, ⟨rfl, ⟨rfl, ⟨rfl, trivial⟩⟩⟩⟩
  · refine r_ild3 52 dX9_compare_51 rfl ?_
    refine r_if_eq 85 55 dX9_compare_52 (by decide) rfl X (fun _ X => ?_) (fun _ X => ?_)
    · refine r_iconst 86 _ dX9_compare_85 rfl ki_0 ?_
      refine r_ist3 87 dX9_compare_86 rfl rfl ?_
      refine r_iinc4w 90 dX9_compare_87 rfl rfl ki_1 X (fun x101 X => ?_)
      refine r_goto 45 dX9_compare_90 (by decide) ?_
      exact r_cut (hK45 _ _ _ _ _ _ X) ⟨rfl, ⟨rfl, ⟨rfl, ⟨rfl, ⟨rfl, trivial⟩⟩⟩⟩⟩
    · refine r_ald0 56 dX9_compare_55 rfl ?_
      refine r_gR 59 dX9_compare_56 rfl lfX9_30 rfl X (fun b102 X => ?_)
      refine r_iconst 60 _ dX9_compare_59 rfl ki_4 ?_
      refine r_ild1 61 dX9_compare_60 rfl ?_
      refine r_imul 62 dX9_compare_61 rfl ?_
      refine r_ild4 64 dX9_compare_62 rfl ?_
      refine r_iadd 65 dX9_compare_64 rfl ?_
      refine r_aL 66 1 dX9_compare_65 rfl rfl X (fun x103 X => ?_)
      refine r_ald0 67 dX9_compare_66 rfl ?_
      refine r_gR 70 dX9_compare_67 rfl lfX9_30 rfl X (fun b104 X => ?_)
      refine r_iconst 71 _ dX9_compare_70 rfl ki_4 ?_
      refine r_ild2 72 dX9_compare_71 rfl ?_
      refine r_imul 73 dX9_compare_72 rfl ?_
      refine r_ild4 75 dX9_compare_73 rfl ?_
      refine r_iadd 76 dX9_compare_75 rfl ?_
      refine r_aL 77 1 dX9_compare_76 rfl rfl X (fun x105 X => ?_)
      refine r_lif_ne 85 81 dX9_compare_77 dX9_compare_78 (by decide) rfl X (fun _ X => ?_) (fun _ X => ?_)
      · refine r_iconst 86 _ dX9_compare_85 rfl ki_0 ?_
        refine r_ist3 87 dX9_compare_86 rfl rfl ?_
        refine r_iinc4w 90 dX9_compare_87 rfl rfl ki_1 X (fun x106 X => ?_)
        refine r_goto 45 dX9_compare_90 (by decide) ?_
        exact r_cut (hK45 _ _ _ _ _ _ X) ⟨rfl, ⟨rfl, ⟨rfl, ⟨rfl, ⟨rfl, trivial⟩⟩⟩⟩⟩
      · refine r_iconst 82 _ dX9_compare_81 rfl ki_1 ?_
        refine r_goto 86 dX9_compare_82 (by decide) ?_
        refine r_ist3 87 dX9_compare_86 rfl rfl ?_
        refine r_iinc4w 90 dX9_compare_87 rfl rfl ki_1 X (fun x107 X => ?_)
        refine r_goto 45 dX9_compare_90 (by decide) ?_
        exact r_cut (hK45 _ _ _ _ _ _ X) ⟨rfl, ⟨rfl, ⟨rfl, ⟨rfl, ⟨rfl, trivial⟩⟩⟩⟩⟩
theorem wX9_compare_45L (G : GG) (hG : GT G) (R : Int64 × AH) : ∀ (m : Nat) (l0 : Nat) (l1 : Int32) (l2 : Int32) (l3 : Int32) (l4 : Int32) (h : AH), fX9_compare_45L m l0 l1 l2 l3 l4 h = some R → AW (eX9_compare G R) RX9 cX9_compare 45 [some (.ref (gB G + l0)), some (.int l1), some (.int l2), some (.int l3), some (.int l4), none, none, none, none, none] [] h 0 0 := by
  intro m
  induction m with
  | zero => intro l0 l1 l2 l3 l4 h X; exact nomatch (show (none : Fn Int64) = some R from X)
  | succ m ih => intro l0 l1 l2 l3 l4 h X; exact wX9_compare_45 G hG R ih l0 l1 l2 l3 l4 h X
theorem wX9_compare (G : GG) (hG : GT G) (R : Int64 × AH) (a0 : Nat) (x0 : Int32) (x1 : Int32) (h : AH) (X : fX9_compare a0 x0 x1 h = some R) : AW (eX9_compare G R) RX9 cX9_compare 0 [some (.ref (gB G + a0)), some (.int x0), some (.int x1), none, none, none, none, none, none, none] [] h 0 0 := by
  unfold fX9_compare at X
  refine r_ald0 1 dX9_compare_0 rfl ?_
  refine r_ild1 2 dX9_compare_1 rfl ?_
  obtain ⟨hs, X⟩ := r_cv X
  obtain ⟨x102, h101, hc, X⟩ := bnd_ok X
  refine r_callV1 5 dX9_compare_2 rfl lmX9_179 hs (mtX9_noStream G hG hc) rfl ⟨(Nat.zero_le _), (Nat.zero_le _)⟩ ?_
  refine r_if_ne 16 8 dX9_compare_5 (by decide) rfl X (fun _ X => ?_) (fun _ X => ?_)
  · refine r_ldc2 19 dX9_compare_16 rfl lkX9_183 ?_
    exact r_retL dX9_compare_19 (Nat.zero_le _) (Nat.zero_le _) X
  · refine r_ald0 9 dX9_compare_8 rfl ?_
    refine r_ild2 10 dX9_compare_9 rfl ?_
    obtain ⟨hs, X⟩ := r_cv X
    obtain ⟨x104, h103, hc, X⟩ := bnd_ok X
    refine r_callV1 13 dX9_compare_10 rfl lmX9_179 hs (mtX9_noStream G hG hc) rfl ⟨(Nat.zero_le _), (Nat.zero_le _)⟩ ?_
    refine r_if_eq 20 16 dX9_compare_13 (by decide) rfl X (fun _ X => ?_) (fun _ X => ?_)
    · refine r_ald0 21 dX9_compare_20 rfl ?_
      refine r_gR 24 dX9_compare_21 rfl lfX9_13 rfl X (fun b105 X => ?_)
      refine r_ild1 25 dX9_compare_24 rfl ?_
      refine r_aI 26 0 dX9_compare_25 rfl rfl X (fun x106 X => ?_)
      refine r_iconst 27 _ dX9_compare_26 rfl ki_1 ?_
      refine r_icmp_ne 99 30 dX9_compare_27 (by decide) rfl X (fun _ X => ?_) (fun _ X => ?_)
      · refine r_iconst 100 _ dX9_compare_99 rfl ki_0 ?_
        refine r_ist3 101 dX9_compare_100 rfl rfl ?_
        exact r_cut (wX9_compare_101L G hG R 1000 _ _ _ _ _ X) ⟨rfl, ⟨rfl, ⟨rfl, ⟨rfl, trivial⟩⟩⟩⟩
      · refine r_ald0 31 dX9_compare_30 rfl ?_
        refine r_gR 34 dX9_compare_31 rfl lfX9_13 rfl X (fun b107 X => ?_)
        refine r_ild2 35 dX9_compare_34 rfl ?_
        refine r_aI 36 0 dX9_compare_35 rfl rfl X (fun x108 X => ?_)
        refine r_iconst 37 _ dX9_compare_36 rfl ki_1 ?_
        refine r_icmp_ne 99 40 dX9_compare_37 (by decide) rfl X (fun _ X => ?_) (fun _ X => ?_)
        · refine r_iconst 100 _ dX9_compare_99 rfl ki_0 ?_
          refine r_ist3 101 dX9_compare_100 rfl rfl ?_
          exact r_cut (wX9_compare_101L G hG R 1000 _ _ _ _ _ X) ⟨rfl, ⟨rfl, ⟨rfl, ⟨rfl, trivial⟩⟩⟩⟩
        · refine r_iconst 41 _ dX9_compare_40 rfl ki_1 ?_
          refine r_ist3 42 dX9_compare_41 rfl rfl ?_
          refine r_iconst 43 _ dX9_compare_42 rfl ki_0 ?_
          refine r_ist4 45 dX9_compare_43 rfl rfl ?_
          exact r_cut (wX9_compare_45L G hG R 1000 _ _ _ _ _ _ X) ⟨rfl, ⟨rfl, ⟨rfl, ⟨rfl, ⟨rfl, trivial⟩⟩⟩⟩⟩
    · refine r_ldc2 19 dX9_compare_16 rfl lkX9_183 ?_
      exact r_retL dX9_compare_19 (Nat.zero_le _) (Nat.zero_le _) X
theorem mtX9_compare (G : GG) (hG : GT G) {a0 : Nat} {x0 : Int32} {x1 : Int32} {h h' : AH} {v : Int64} (hc : fX9_compare a0 x0 x1 h = some (v, h')) : AMet G yX9_compare cX9_compare 10 (some .long) 2 46 0 0 [.ref (gB G + a0), .int x0, .int x1] h (some (.long v)) h' :=
  amet_of false [some (.ref (gB G + a0)), some (.int x0), some (.int x1), none, none, none, none, none, none, none] (by decide +kernel) (by decide) (Nat.le_of_ble_eq_true rfl) rfl (Nat.le_of_ble_eq_true rfl) (wX9_compare G hG (v, h') _ _ _ h hc)
abbrev eX9_isOpenMade (G : GG) (R : Int32 × AH) : EE := eM G 2 (some .boolean) false 0 0 0 0 (some (.int R.1)) R.2
theorem wX9_isOpenMade (G : GG) (hG : GT G) (R : Int32 × AH) (a0 : Nat) (x0 : Int32) (h : AH) (X : fX9_isOpenMade a0 x0 h = some R) : AW (eX9_isOpenMade G R) RX9 cX9_isOpenMade 0 [some (.ref (gB G + a0)), some (.int x0)] [] h 0 0 := by
  unfold fX9_isOpenMade at X
  refine r_ald0 1 dX9_isOpenMade_0 rfl ?_
  refine r_gR 4 dX9_isOpenMade_1 rfl lfX9_13 rfl X (fun b101 X => ?_)
  refine r_ild1 5 dX9_isOpenMade_4 rfl ?_
  refine r_aI 6 0 dX9_isOpenMade_5 rfl rfl X (fun x102 X => ?_)
  refine r_iconst 7 _ dX9_isOpenMade_6 rfl ki_3 ?_
  refine r_icmp_ne 34 10 dX9_isOpenMade_7 (by decide) rfl X (fun _ X => ?_) (fun _ X => ?_)
  · refine r_iconst 35 _ dX9_isOpenMade_34 rfl ki_0 ?_
    exact r_ret0 dX9_isOpenMade_35 (Nat.zero_le _) (Nat.zero_le _) X
  · refine r_ald0 11 dX9_isOpenMade_10 rfl ?_
    refine r_gR 14 dX9_isOpenMade_11 rfl lfX9_20 rfl X (fun b103 X => ?_)
    refine r_ild1 15 dX9_isOpenMade_14 rfl ?_
    refine r_aZ 16 2 dX9_isOpenMade_15 rfl rfl X (fun x104 X => ?_)
    refine r_if_ne 34 19 dX9_isOpenMade_16 (by decide) rfl X (fun _ X => ?_) (fun _ X => ?_)
    · refine r_iconst 35 _ dX9_isOpenMade_34 rfl ki_0 ?_
      exact r_ret0 dX9_isOpenMade_35 (Nat.zero_le _) (Nat.zero_le _) X
    · refine r_ald0 20 dX9_isOpenMade_19 rfl ?_
      refine r_gR 23 dX9_isOpenMade_20 rfl lfX9_17 rfl X (fun b105 X => ?_)
      refine r_ild1 24 dX9_isOpenMade_23 rfl ?_
      refine r_aI 25 0 dX9_isOpenMade_24 rfl rfl X (fun x106 X => ?_)
      refine r_bipush 27 _ dX9_isOpenMade_25 rfl kb_60 ?_
      refine r_icmp_ge 34 30 dX9_isOpenMade_27 (by decide) rfl X (fun _ X => ?_) (fun _ X => ?_)
      · refine r_iconst 35 _ dX9_isOpenMade_34 rfl ki_0 ?_
        exact r_ret0 dX9_isOpenMade_35 (Nat.zero_le _) (Nat.zero_le _) X
      · refine r_iconst 31 _ dX9_isOpenMade_30 rfl ki_1 ?_
        refine r_goto 35 dX9_isOpenMade_31 (by decide) ?_
        exact r_ret1 dX9_isOpenMade_35 (Nat.zero_le _) (Nat.zero_le _) X
theorem mtX9_isOpenMade (G : GG) (hG : GT G) {a0 : Nat} {x0 : Int32} {h h' : AH} {v : Int32} (hc : fX9_isOpenMade a0 x0 h = some (v, h')) : AMet G yX9_isOpenMade cX9_isOpenMade 2 (some .boolean) 0 0 0 0 [.ref (gB G + a0), .int x0] h (some (.int v)) h' :=
  amet_of false [some (.ref (gB G + a0)), some (.int x0)] (by decide +kernel) (by decide) (Nat.le_of_ble_eq_true rfl) rfl (Nat.le_of_ble_eq_true rfl) (wX9_isOpenMade G hG (v, h') _ _ h hc)
abbrev eX9_count (G : GG) (R : Int64 × AH) : EE := eM G 5 (some .long) false 1 21 0 0 (some (.long R.1)) R.2
theorem wX9_count_35 (G : GG) (hG : GT G) (R : Int64 × AH) {K35 : Nat → Int64 → Int32 → AH → Fn Int64} (hK35 : ∀ (l0 : Nat) (l2 : Int64) (l4 : Int32) (h : AH), K35 l0 l2 l4 h = some R → AW (eX9_count G R) RX9 cX9_count 35 [some (.ref (gB G + l0)), none, some (.long l2), none, some (.int l4)] [] h 0 0) (l0 : Nat) (l2 : Int64) (l4 : Int32) (h : AH) (X : fX9_count_35 K35 l0 l2 l4 h = some R) : AW (eX9_count G R) RX9 cX9_count 35 [some (.ref (gB G + l0)), none, some (.long l2), none, some (.int l4)] [] h 0 0 := by
  unfold fX9_count_35 at X
  refine r_ild4 37 dX9_count_35 rfl ?_
  refine r_bipush 39 _ dX9_count_37 rfl kb_40 ?_
  refine r_icmp_ge 75 42 dX9_count_39 (by decide) rfl X (fun _ X => ?_) (fun _ X => ?_)
  · refine r_lld2 76 dX9_count_75 rfl ?_
    exact r_retL dX9_count_76 (Nat.zero_le _) (Nat.zero_le _) X
  · refine r_lld2 43 dX9_count_42 rfl ?_
    refine r_ald0 44 dX9_count_43 rfl ?_
    refine r_gR 47 dX9_count_44 rfl lfX9_7 rfl X (fun b101 X => ?_)
    refine r_ild4 49 dX9_count_47 rfl ?_
    refine r_aZ 50 2 dX9_count_49 rfl rfl X (fun x102 X => ?_)
    refine r_if_eq 66 53 dX9_count_50 (by decide) rfl X (fun _ X => ?_) (fun _ X => ?_)
    · refine r_lconst 67 _ dX9_count_66 rfl kl_0 ?_
      refine r_ladd 68 dX9_count_67 rfl ?_
      refine r_lst2w 69 dX9_count_68 rfl rfl X (fun x103 X => ?_)
      refine r_iinc4w 72 dX9_count_69 rfl rfl ki_1 X (fun x104 X => ?_)
      refine r_goto 35 dX9_count_72 (by decide) ?_
      exact r_cut (hK35 _ _ _ _ X) ⟨rfl, ⟨rfl, ⟨rfl, trivial⟩⟩⟩
    · refine r_ald0 54 dX9_count_53 rfl ?_
      refine r_ild4 56 dX9_count_54 rfl ?_
      obtain ⟨hs, X⟩ := r_cv X
      obtain ⟨x106, h105, hc, X⟩ := bnd_ok X
      refine r_callV1 59 dX9_count_56 rfl lmX9_249 hs (mtX9_isOpenMade G hG hc) rfl ⟨(Nat.zero_le _), (Nat.zero_le _)⟩ ?_
      refine r_if_eq 66 62 dX9_count_59 (by decide) rfl X (fun _ X => ?_) (fun _ X => ?_)
      · refine r_lconst 67 _ dX9_count_66 rfl kl_0 ?_
        refine r_ladd 68 dX9_count_67 rfl ?_
        refine r_lst2w 69 dX9_count_68 rfl rfl X (fun x107 X => ?_)
        refine r_iinc4w 72 dX9_count_69 rfl rfl ki_1 X (fun x108 X => ?_)
        refine r_goto 35 dX9_count_72 (by decide) ?_
        exact r_cut (hK35 _ _ _ _ X) ⟨rfl, ⟨rfl, ⟨rfl, trivial⟩⟩⟩
      · refine r_lconst 63 _ dX9_count_62 rfl kl_1 ?_
        refine r_goto 67 dX9_count_63 (by decide) ?_
        refine r_ladd 68 dX9_count_67 rfl ?_
        refine r_lst2w 69 dX9_count_68 rfl rfl X (fun x109 X => ?_)
        refine r_iinc4w 72 dX9_count_69 rfl rfl ki_1 X (fun x110 X => ?_)
        refine r_goto 35 dX9_count_72 (by decide) ?_
        exact r_cut (hK35 _ _ _ _ X) ⟨rfl, ⟨rfl, ⟨rfl, trivial⟩⟩⟩
theorem wX9_count_35L (G : GG) (hG : GT G) (R : Int64 × AH) : ∀ (m : Nat) (l0 : Nat) (l2 : Int64) (l4 : Int32) (h : AH), fX9_count_35L m l0 l2 l4 h = some R → AW (eX9_count G R) RX9 cX9_count 35 [some (.ref (gB G + l0)), none, some (.long l2), none, some (.int l4)] [] h 0 0 := by
  intro m
  induction m with
  | zero => intro l0 l2 l4 h X; exact nomatch (show (none : Fn Int64) = some R from X)
  | succ m ih => intro l0 l2 l4 h X; exact wX9_count_35 G hG R ih l0 l2 l4 h X
theorem wX9_count (G : GG) (hG : GT G) (R : Int64 × AH) (a0 : Nat) (x0 : Int32) (h : AH) (X : fX9_count a0 x0 h = some R) : AW (eX9_count G R) RX9 cX9_count 0 [some (.ref (gB G + a0)), some (.int x0), none, none, none] [] h 0 0 := by
  unfold fX9_count at X
  refine r_ild1 1 dX9_count_0 rfl ?_
  refine r_if_ne 10 4 dX9_count_1 (by decide) rfl X (fun _ X => ?_) (fun _ X => ?_)
  · refine r_ild1 11 dX9_count_10 rfl ?_
    refine r_iconst 12 _ dX9_count_11 rfl ki_1 ?_
    refine r_icmp_ne 21 15 dX9_count_12 (by decide) rfl X (fun _ X => ?_) (fun _ X => ?_)
    · refine r_ild1 22 dX9_count_21 rfl ?_
      refine r_iconst 23 _ dX9_count_22 rfl ki_2 ?_
      refine r_icmp_eq 30 26 dX9_count_23 (by decide) rfl X (fun _ X => ?_) (fun _ X => ?_)
      · refine r_lconst 31 _ dX9_count_30 rfl kl_0 ?_
        refine r_lst2 32 dX9_count_31 rfl rfl ?_
        refine r_iconst 33 _ dX9_count_32 rfl ki_0 ?_
        refine r_ist4 35 dX9_count_33 rfl rfl ?_
        exact r_cut (wX9_count_35L G hG R 1000 _ _ _ _ X) ⟨rfl, ⟨rfl, ⟨rfl, trivial⟩⟩⟩
      · refine r_ldc2 29 dX9_count_26 rfl lkX9_109 ?_
        exact r_retL dX9_count_29 (Nat.zero_le _) (Nat.zero_le _) X
    · refine r_ald0 16 dX9_count_15 rfl ?_
      refine r_gI 19 dX9_count_16 rfl lfX9_138 rfl X (fun x101 X => ?_)
      refine r_i2l 20 dX9_count_19 rfl ?_
      exact r_retL dX9_count_20 (Nat.zero_le _) (Nat.zero_le _) X
  · refine r_ald0 5 dX9_count_4 rfl ?_
    refine r_gI 8 dX9_count_5 rfl lfX9_79 rfl X (fun x102 X => ?_)
    refine r_i2l 9 dX9_count_8 rfl ?_
    exact r_retL dX9_count_9 (Nat.zero_le _) (Nat.zero_le _) X
theorem mtX9_count (G : GG) (hG : GT G) {a0 : Nat} {x0 : Int32} {h h' : AH} {v : Int64} (hc : fX9_count a0 x0 h = some (v, h')) : AMet G yX9_count cX9_count 5 (some .long) 1 21 0 0 [.ref (gB G + a0), .int x0] h (some (.long v)) h' :=
  amet_of false [some (.ref (gB G + a0)), some (.int x0), none, none, none] (by decide +kernel) (by decide) (Nat.le_of_ble_eq_true rfl) rfl (Nat.le_of_ble_eq_true rfl) (wX9_count G hG (v, h') _ _ h hc)
abbrev eX9_drop (G : GG) (R : Int64 × AH) : EE := eM G 2 (some .long) false 2 46 0 0 (some (.long R.1)) R.2
theorem wX9_drop (G : GG) (hG : GT G) (R : Int64 × AH) (a0 : Nat) (x0 : Int32) (h : AH) (X : fX9_drop a0 x0 h = some R) : AW (eX9_drop G R) RX9 cX9_drop 0 [some (.ref (gB G + a0)), some (.int x0)] [] h 0 0 := by
  unfold fX9_drop at X
  refine r_ald0 1 dX9_drop_0 rfl ?_
  refine r_ild1 2 dX9_drop_1 rfl ?_
  obtain ⟨hs, X⟩ := r_cv X
  obtain ⟨x102, h101, hc, X⟩ := bnd_ok X
  refine r_callV1 5 dX9_drop_2 rfl lmX9_179 hs (mtX9_noStream G hG hc) rfl ⟨(Nat.zero_le _), (Nat.zero_le _)⟩ ?_
  refine r_if_eq 12 8 dX9_drop_5 (by decide) rfl X (fun _ X => ?_) (fun _ X => ?_)
  · refine r_ald0 13 dX9_drop_12 rfl ?_
    refine r_gR 16 dX9_drop_13 rfl lfX9_7 rfl X (fun b103 X => ?_)
    refine r_ild1 17 dX9_drop_16 rfl ?_
    refine r_iconst 18 _ dX9_drop_17 rfl ki_0 ?_
    refine r_zZ 19 2 dX9_drop_18 rfl rfl X (fun h104 X => ?_)
    refine r_ald0 20 dX9_drop_19 rfl ?_
    refine r_dup 21 dX9_drop_20 rfl rfl ?_
    refine r_gI 24 dX9_drop_21 rfl lfX9_79 rfl X (fun x105 X => ?_)
    refine r_iconst 25 _ dX9_drop_24 rfl ki_1 ?_
    refine r_isub 26 dX9_drop_25 rfl ?_
    refine r_pI 29 dX9_drop_26 rfl lpX9_79 rfl X (fun h106 X => ?_)
    refine r_ald0 30 dX9_drop_29 rfl ?_
    refine r_gI 33 dX9_drop_30 rfl lfX9_79 rfl X (fun x107 X => ?_)
    refine r_i2l 34 dX9_drop_33 rfl ?_
    exact r_retL dX9_drop_34 (Nat.zero_le _) (Nat.zero_le _) X
  · refine r_ldc2 11 dX9_drop_8 rfl lkX9_183 ?_
    exact r_retL dX9_drop_11 (Nat.zero_le _) (Nat.zero_le _) X
theorem mtX9_drop (G : GG) (hG : GT G) {a0 : Nat} {x0 : Int32} {h h' : AH} {v : Int64} (hc : fX9_drop a0 x0 h = some (v, h')) : AMet G yX9_drop cX9_drop 2 (some .long) 2 46 0 0 [.ref (gB G + a0), .int x0] h (some (.long v)) h' :=
  amet_of false [some (.ref (gB G + a0)), some (.int x0)] (by decide +kernel) (by decide) (Nat.le_of_ble_eq_true rfl) rfl (Nat.le_of_ble_eq_true rfl) (wX9_drop G hG (v, h') _ _ h hc)
abbrev eX9_exact (G : GG) (R : Int64 × AH) : EE := eM G 3 (some .long) false 2 46 0 0 (some (.long R.1)) R.2
theorem wX9_exact_31 (G : GG) (hG : GT G) (R : Int64 × AH) (l0 : Nat) (l1 : Int32) (l2 : Int32) (s0 : Int64) (s1 : Int64) (s2 : Int64) (h : AH) (X : fX9_exact_31 l0 l1 l2 s0 s1 s2 h = some R) : AW (eX9_exact G R) RX9 cX9_exact 31 [some (.ref (gB G + l0)), some (.int l1), some (.int l2)] [.long s2, .long s1, .long s0] h 0 0 := by
  unfold fX9_exact_31 at X
  obtain ⟨x102, h101, hc, X⟩ := bnd_ok X
  refine r_callS3 34 dX9_exact_31 rfl lmX9_75 (mtX9_in G hG hc) rfl ⟨(Nat.zero_le _), (Nat.zero_le _)⟩ ?_
  refine r_if_ne 41 37 dX9_exact_34 (by decide) rfl X (fun _ X => ?_) (fun _ X => ?_)
  · refine r_ald0 42 dX9_exact_41 rfl ?_
    refine r_gR 45 dX9_exact_42 rfl lfX9_13 rfl X (fun b103 X => ?_)
    refine r_ild1 46 dX9_exact_45 rfl ?_
    refine r_aI 47 0 dX9_exact_46 rfl rfl X (fun x104 X => ?_)
    refine r_iconst 48 _ dX9_exact_47 rfl ki_1 ?_
    refine r_icmp_le 57 51 dX9_exact_48 (by decide) rfl X (fun _ X => ?_) (fun _ X => ?_)
    · refine r_ald0 58 dX9_exact_57 rfl ?_
      refine r_gR 61 dX9_exact_58 rfl lfX9_30 rfl X (fun b105 X => ?_)
      refine r_iconst 62 _ dX9_exact_61 rfl ki_4 ?_
      refine r_ild1 63 dX9_exact_62 rfl ?_
      refine r_imul 64 dX9_exact_63 rfl ?_
      refine r_ild2 65 dX9_exact_64 rfl ?_
      refine r_iadd 66 dX9_exact_65 rfl ?_
      refine r_aL 67 1 dX9_exact_66 rfl rfl X (fun x106 X => ?_)
      exact r_retL dX9_exact_67 (Nat.zero_le _) (Nat.zero_le _) X
    · refine r_ldc2 54 dX9_exact_51 rfl lkX9_143 ?_
      refine r_goto 67 dX9_exact_54 (by decide) ?_
      exact r_retL dX9_exact_67 (Nat.zero_le _) (Nat.zero_le _) X
  · refine r_ldc2 40 dX9_exact_37 rfl lkX9_109 ?_
    exact r_retL dX9_exact_40 (Nat.zero_le _) (Nat.zero_le _) X
theorem wX9_exact (G : GG) (hG : GT G) (R : Int64 × AH) (a0 : Nat) (x0 : Int32) (x1 : Int32) (h : AH) (X : fX9_exact a0 x0 x1 h = some R) : AW (eX9_exact G R) RX9 cX9_exact 0 [some (.ref (gB G + a0)), some (.int x0), some (.int x1)] [] h 0 0 := by
  unfold fX9_exact at X
  refine r_ald0 1 dX9_exact_0 rfl ?_
  refine r_ild1 2 dX9_exact_1 rfl ?_
  obtain ⟨hs, X⟩ := r_cv X
  obtain ⟨x102, h101, hc, X⟩ := bnd_ok X
  refine r_callV1 5 dX9_exact_2 rfl lmX9_179 hs (mtX9_noStream G hG hc) rfl ⟨(Nat.zero_le _), (Nat.zero_le _)⟩ ?_
  refine r_if_eq 12 8 dX9_exact_5 (by decide) rfl X (fun _ X => ?_) (fun _ X => ?_)
  · refine r_ild2 13 dX9_exact_12 rfl ?_
    refine r_i2l 14 dX9_exact_13 rfl ?_
    refine r_lconst 15 _ dX9_exact_14 rfl kl_0 ?_
    refine r_ald0 16 dX9_exact_15 rfl ?_
    refine r_gR 19 dX9_exact_16 rfl lfX9_13 rfl X (fun b103 X => ?_)
    refine r_ild1 20 dX9_exact_19 rfl ?_
    refine r_aI 21 0 dX9_exact_20 rfl rfl X (fun x104 X => ?_)
    refine r_if_ne 28 24 dX9_exact_21 (by decide) rfl X (fun _ X => ?_) (fun _ X => ?_)
    · refine r_ldc2 31 dX9_exact_28 rfl lkX9_185 ?_
      exact r_cut (wX9_exact_31 G hG R _ _ _ _ _ _ _ X) ⟨rfl, ⟨rfl, ⟨rfl, trivial⟩⟩⟩
    · refine r_lconst 25 _ dX9_exact_24 rfl kl_1 ?_
      refine r_goto 31 dX9_exact_25 (by decide) ?_
      exact r_cut (wX9_exact_31 G hG R _ _ _ _ _ _ _ X) ⟨rfl, ⟨rfl, ⟨rfl, trivial⟩⟩⟩
  · refine r_ldc2 11 dX9_exact_8 rfl lkX9_183 ?_
    exact r_retL dX9_exact_11 (Nat.zero_le _) (Nat.zero_le _) X
theorem mtX9_exact (G : GG) (hG : GT G) {a0 : Nat} {x0 : Int32} {x1 : Int32} {h h' : AH} {v : Int64} (hc : fX9_exact a0 x0 x1 h = some (v, h')) : AMet G yX9_exact cX9_exact 3 (some .long) 2 46 0 0 [.ref (gB G + a0), .int x0, .int x1] h (some (.long v)) h' :=
  amet_of false [some (.ref (gB G + a0)), some (.int x0), some (.int x1)] (by decide +kernel) (by decide) (Nat.le_of_ble_eq_true rfl) rfl (Nat.le_of_ble_eq_true rfl) (wX9_exact G hG (v, h') _ _ _ h hc)
abbrev eX9_factor (G : GG) (R : Int64 × AH) : EE := eM G 5 (some .long) false 1 25 0 0 (some (.long R.1)) R.2
theorem wX9_factor (G : GG) (hG : GT G) (R : Int64 × AH) (a0 : Nat) (x0 : Int32) (x1 : Int32) (h : AH) (X : fX9_factor a0 x0 x1 h = some R) : AW (eX9_factor G R) RX9 cX9_factor 0 [some (.ref (gB G + a0)), some (.int x0), some (.int x1), none, none] [] h 0 0 := by
  unfold fX9_factor at X
  refine r_ild1 1 dX9_factor_0 rfl ?_
  refine r_i2l 2 dX9_factor_1 rfl ?_
  refine r_lconst 3 _ dX9_factor_2 rfl kl_0 ?_
  refine r_ldc2 6 dX9_factor_3 rfl lkX9_202 ?_
  obtain ⟨x102, h101, hc, X⟩ := bnd_ok X
  refine r_callS3 9 dX9_factor_6 rfl lmX9_75 (mtX9_in G hG hc) rfl ⟨(Nat.zero_le _), (Nat.zero_le _)⟩ ?_
  refine r_if_eq 26 12 dX9_factor_9 (by decide) rfl X (fun _ X => ?_) (fun _ X => ?_)
  · refine r_ldc2 29 dX9_factor_26 rfl lkX9_109 ?_
    exact r_retL dX9_factor_29 (Nat.zero_le _) (Nat.zero_le _) X
  · refine r_ild2 13 dX9_factor_12 rfl ?_
    refine r_i2l 14 dX9_factor_13 rfl ?_
    refine r_ldc2 17 dX9_factor_14 rfl lkX9_141 ?_
    refine r_ldc2 20 dX9_factor_17 rfl lkX9_136 ?_
    obtain ⟨x104, h103, hc, X⟩ := bnd_ok X
    refine r_callS3 23 dX9_factor_20 rfl lmX9_75 (mtX9_in G hG hc) rfl ⟨(Nat.zero_le _), (Nat.zero_le _)⟩ ?_
    refine r_if_ne 30 26 dX9_factor_23 (by decide) rfl X (fun _ X => ?_) (fun _ X => ?_)
    · refine r_ald0 31 dX9_factor_30 rfl ?_
      refine r_gR 34 dX9_factor_31 rfl lfX9_45 rfl X (fun b105 X => ?_)
      refine r_ild1 35 dX9_factor_34 rfl ?_
      refine r_aL 36 1 dX9_factor_35 rfl rfl X (fun x106 X => ?_)
      refine r_lst3 37 dX9_factor_36 rfl rfl ?_
      refine r_ald0 38 dX9_factor_37 rfl ?_
      refine r_gR 41 dX9_factor_38 rfl lfX9_45 rfl X (fun b107 X => ?_)
      refine r_ild1 42 dX9_factor_41 rfl ?_
      refine r_ild2 43 dX9_factor_42 rfl ?_
      refine r_i2l 44 dX9_factor_43 rfl ?_
      refine r_zL 45 1 dX9_factor_44 rfl rfl X (fun h108 X => ?_)
      refine r_lld3 46 dX9_factor_45 rfl ?_
      exact r_retL dX9_factor_46 (Nat.zero_le _) (Nat.zero_le _) X
    · refine r_ldc2 29 dX9_factor_26 rfl lkX9_109 ?_
      exact r_retL dX9_factor_29 (Nat.zero_le _) (Nat.zero_le _) X
theorem mtX9_factor (G : GG) (hG : GT G) {a0 : Nat} {x0 : Int32} {x1 : Int32} {h h' : AH} {v : Int64} (hc : fX9_factor a0 x0 x1 h = some (v, h')) : AMet G yX9_factor cX9_factor 5 (some .long) 1 25 0 0 [.ref (gB G + a0), .int x0, .int x1] h (some (.long v)) h' :=
  amet_of false [some (.ref (gB G + a0)), some (.int x0), some (.int x1), none, none] (by decide +kernel) (by decide) (Nat.le_of_ble_eq_true rfl) rfl (Nat.le_of_ble_eq_true rfl) (wX9_factor G hG (v, h') _ _ _ h hc)
abbrev eX9_figureOf (G : GG) (R : Int64 × AH) : EE := eM G 8 (some .long) false 1 25 0 0 (some (.long R.1)) R.2
theorem wX9_figureOf_28 (G : GG) (hG : GT G) (R : Int64 × AH) {K28 : Nat → Int32 → Int32 → Int64 → Int64 → Int32 → AH → Fn Int64} (hK28 : ∀ (l0 : Nat) (l1 : Int32) (l2 : Int32) (l3 : Int64) (l5 : Int64) (l7 : Int32) (h : AH), K28 l0 l1 l2 l3 l5 l7 h = some R → AW (eX9_figureOf G R) RX9 cX9_figureOf 28 [some (.ref (gB G + l0)), some (.int l1), some (.int l2), some (.long l3), none, some (.long l5), none, some (.int l7)] [] h 0 0) (l0 : Nat) (l1 : Int32) (l2 : Int32) (l3 : Int64) (l5 : Int64) (l7 : Int32) (h : AH) (X : fX9_figureOf_28 K28 l0 l1 l2 l3 l5 l7 h = some R) : AW (eX9_figureOf G R) RX9 cX9_figureOf 28 [some (.ref (gB G + l0)), some (.int l1), some (.int l2), some (.long l3), none, some (.long l5), none, some (.int l7)] [] h 0 0 := by
  unfold fX9_figureOf_28 at X
  refine r_ild7 30 dX9_figureOf_28 rfl ?_
  refine r_ild2 31 dX9_figureOf_30 rfl ?_
  refine r_icmp_ge 64 34 dX9_figureOf_31 (by decide) rfl X (fun _ X => ?_) (fun _ X => ?_)
  · refine r_lld3 65 dX9_figureOf_64 rfl ?_
    exact r_retL dX9_figureOf_65 (Nat.zero_le _) (Nat.zero_le _) X
  · refine r_lld5 36 dX9_figureOf_34 rfl ?_
    refine r_ild1 37 dX9_figureOf_36 rfl ?_
    refine r_i2l 38 dX9_figureOf_37 rfl ?_
    refine r_lmul 39 dX9_figureOf_38 rfl ?_
    refine r_lst5w 41 dX9_figureOf_39 rfl rfl X (fun x101 X => ?_)
    refine r_lld5 43 dX9_figureOf_41 rfl ?_
    refine r_ald0 44 dX9_figureOf_43 rfl ?_
    refine r_gL 47 dX9_figureOf_44 rfl lfX9_262 rfl X (fun x102 X => ?_)
    refine r_ldiv 48 dX9_figureOf_47 rfl X (fun X => ?_)
    refine r_lst3w 49 dX9_figureOf_48 rfl rfl X (fun x103 X => ?_)
    refine r_lld5 51 dX9_figureOf_49 rfl ?_
    refine r_ald0 52 dX9_figureOf_51 rfl ?_
    refine r_gL 55 dX9_figureOf_52 rfl lfX9_262 rfl X (fun x104 X => ?_)
    refine r_lrem 56 dX9_figureOf_55 rfl X (fun X => ?_)
    refine r_lst5w 58 dX9_figureOf_56 rfl rfl X (fun x105 X => ?_)
    refine r_iinc7w 61 dX9_figureOf_58 rfl rfl ki_1 X (fun x106 X => ?_)
    refine r_goto 28 dX9_figureOf_61 (by decide) ?_
    exact r_cut (hK28 _ _ _ _ _ _ _ X) ⟨rfl, ⟨rfl, ⟨rfl, ⟨rfl, ⟨rfl, ⟨rfl, trivial⟩⟩⟩⟩⟩⟩
theorem wX9_figureOf_28L (G : GG) (hG : GT G) (R : Int64 × AH) : ∀ (m : Nat) (l0 : Nat) (l1 : Int32) (l2 : Int32) (l3 : Int64) (l5 : Int64) (l7 : Int32) (h : AH), fX9_figureOf_28L m l0 l1 l2 l3 l5 l7 h = some R → AW (eX9_figureOf G R) RX9 cX9_figureOf 28 [some (.ref (gB G + l0)), some (.int l1), some (.int l2), some (.long l3), none, some (.long l5), none, some (.int l7)] [] h 0 0 := by
  intro m
  induction m with
  | zero => intro l0 l1 l2 l3 l5 l7 h X; exact nomatch (show (none : Fn Int64) = some R from X)
  | succ m ih => intro l0 l1 l2 l3 l5 l7 h X; exact wX9_figureOf_28 G hG R ih l0 l1 l2 l3 l5 l7 h X
theorem wX9_figureOf (G : GG) (hG : GT G) (R : Int64 × AH) (a0 : Nat) (x0 : Int32) (x1 : Int32) (h : AH) (X : fX9_figureOf a0 x0 x1 h = some R) : AW (eX9_figureOf G R) RX9 cX9_figureOf 0 [some (.ref (gB G + a0)), some (.int x0), some (.int x1), none, none, none, none, none] [] h 0 0 := by
  unfold fX9_figureOf at X
  refine r_ald0 1 dX9_figureOf_0 rfl ?_
  refine r_gL 4 dX9_figureOf_1 rfl lfX9_259 rfl X (fun x101 X => ?_)
  refine r_ald0 5 dX9_figureOf_4 rfl ?_
  refine r_gL 8 dX9_figureOf_5 rfl lfX9_262 rfl X (fun x102 X => ?_)
  obtain ⟨x104, h103, hc, X⟩ := bnd_ok X
  refine r_callS2 11 dX9_figureOf_8 rfl lmX9_91 (mtX9_floor G hG hc) rfl ⟨(Nat.zero_le _), (Nat.zero_le _)⟩ ?_
  refine r_lst3 12 dX9_figureOf_11 rfl rfl ?_
  refine r_ald0 13 dX9_figureOf_12 rfl ?_
  refine r_gL 16 dX9_figureOf_13 rfl lfX9_259 rfl X (fun x105 X => ?_)
  refine r_lld3 17 dX9_figureOf_16 rfl ?_
  refine r_ald0 18 dX9_figureOf_17 rfl ?_
  refine r_gL 21 dX9_figureOf_18 rfl lfX9_262 rfl X (fun x106 X => ?_)
  refine r_lmul 22 dX9_figureOf_21 rfl ?_
  refine r_lsub 23 dX9_figureOf_22 rfl ?_
  refine r_lst5w 25 dX9_figureOf_23 rfl rfl X (fun x107 X => ?_)
  refine r_iconst 26 _ dX9_figureOf_25 rfl ki_0 ?_
  refine r_ist7 28 dX9_figureOf_26 rfl rfl ?_
  exact r_cut (wX9_figureOf_28L G hG R 1000 _ _ _ _ _ _ _ X) ⟨rfl, ⟨rfl, ⟨rfl, ⟨rfl, ⟨rfl, ⟨rfl, trivial⟩⟩⟩⟩⟩⟩
theorem mtX9_figureOf (G : GG) (hG : GT G) {a0 : Nat} {x0 : Int32} {x1 : Int32} {h h' : AH} {v : Int64} (hc : fX9_figureOf a0 x0 x1 h = some (v, h')) : AMet G yX9_figureOf cX9_figureOf 8 (some .long) 1 25 0 0 [.ref (gB G + a0), .int x0, .int x1] h (some (.long v)) h' :=
  amet_of false [some (.ref (gB G + a0)), some (.int x0), some (.int x1), none, none, none, none, none] (by decide +kernel) (by decide) (Nat.le_of_ble_eq_true rfl) rfl (Nat.le_of_ble_eq_true rfl) (wX9_figureOf G hG (v, h') _ _ _ h hc)
abbrev eX9_isNarrow (G : GG) (R : Int32 × AH) : EE := eM G 1 (some .boolean) false 1 21 0 0 (some (.int R.1)) R.2
theorem wX9_isNarrow (G : GG) (hG : GT G) (R : Int32 × AH) (a0 : Nat) (h : AH) (X : fX9_isNarrow a0 h = some R) : AW (eX9_isNarrow G R) RX9 cX9_isNarrow 0 [some (.ref (gB G + a0))] [] h 0 0 := by
  unfold fX9_isNarrow at X
  refine r_ald0 1 dX9_isNarrow_0 rfl ?_
  refine r_gI 4 dX9_isNarrow_1 rfl lfX9_69 rfl X (fun x101 X => ?_)
  refine r_if_ne 71 7 dX9_isNarrow_4 (by decide) rfl X (fun _ X => ?_) (fun _ X => ?_)
  · refine r_iconst 72 _ dX9_isNarrow_71 rfl ki_0 ?_
    exact r_ret0 dX9_isNarrow_72 (Nat.zero_le _) (Nat.zero_le _) X
  · refine r_ald0 8 dX9_isNarrow_7 rfl ?_
    refine r_gL 11 dX9_isNarrow_8 rfl lfX9_259 rfl X (fun x102 X => ?_)
    obtain ⟨x104, h103, hc, X⟩ := bnd_ok X
    refine r_callS1 14 dX9_isNarrow_11 rfl lmX9_63 (mtX9_size G hG hc) rfl ⟨(Nat.zero_le _), (Nat.zero_le _)⟩ ?_
    refine r_ldc2 17 dX9_isNarrow_14 rfl lkX9_303 ?_
    refine r_lif_gt 71 21 dX9_isNarrow_17 dX9_isNarrow_18 (by decide) rfl X (fun _ X => ?_) (fun _ X => ?_)
    · refine r_iconst 72 _ dX9_isNarrow_71 rfl ki_0 ?_
      exact r_ret0 dX9_isNarrow_72 (Nat.zero_le _) (Nat.zero_le _) X
    · refine r_ald0 22 dX9_isNarrow_21 rfl ?_
      refine r_gL 25 dX9_isNarrow_22 rfl lfX9_262 rfl X (fun x105 X => ?_)
      refine r_ldc2 28 dX9_isNarrow_25 rfl lkX9_303 ?_
      refine r_lif_gt 71 32 dX9_isNarrow_28 dX9_isNarrow_29 (by decide) rfl X (fun _ X => ?_) (fun _ X => ?_)
      · refine r_iconst 72 _ dX9_isNarrow_71 rfl ki_0 ?_
        exact r_ret0 dX9_isNarrow_72 (Nat.zero_le _) (Nat.zero_le _) X
      · refine r_ald0 33 dX9_isNarrow_32 rfl ?_
        refine r_gL 36 dX9_isNarrow_33 rfl lfX9_259 rfl X (fun x106 X => ?_)
        refine r_ald0 37 dX9_isNarrow_36 rfl ?_
        refine r_gL 40 dX9_isNarrow_37 rfl lfX9_265 rfl X (fun x107 X => ?_)
        refine r_ladd 41 dX9_isNarrow_40 rfl ?_
        obtain ⟨x109, h108, hc, X⟩ := bnd_ok X
        refine r_callS1 44 dX9_isNarrow_41 rfl lmX9_63 (mtX9_size G hG hc) rfl ⟨(Nat.zero_le _), (Nat.zero_le _)⟩ ?_
        refine r_ldc2 47 dX9_isNarrow_44 rfl lkX9_303 ?_
        refine r_lif_gt 71 51 dX9_isNarrow_47 dX9_isNarrow_48 (by decide) rfl X (fun _ X => ?_) (fun _ X => ?_)
        · refine r_iconst 72 _ dX9_isNarrow_71 rfl ki_0 ?_
          exact r_ret0 dX9_isNarrow_72 (Nat.zero_le _) (Nat.zero_le _) X
        · refine r_ald0 52 dX9_isNarrow_51 rfl ?_
          refine r_gL 55 dX9_isNarrow_52 rfl lfX9_262 rfl X (fun x110 X => ?_)
          refine r_ald0 56 dX9_isNarrow_55 rfl ?_
          refine r_gL 59 dX9_isNarrow_56 rfl lfX9_268 rfl X (fun x111 X => ?_)
          refine r_ladd 60 dX9_isNarrow_59 rfl ?_
          refine r_ldc2 63 dX9_isNarrow_60 rfl lkX9_303 ?_
          refine r_lif_gt 71 67 dX9_isNarrow_63 dX9_isNarrow_64 (by decide) rfl X (fun _ X => ?_) (fun _ X => ?_)
          · refine r_iconst 72 _ dX9_isNarrow_71 rfl ki_0 ?_
            exact r_ret0 dX9_isNarrow_72 (Nat.zero_le _) (Nat.zero_le _) X
          · refine r_iconst 68 _ dX9_isNarrow_67 rfl ki_1 ?_
            refine r_goto 72 dX9_isNarrow_68 (by decide) ?_
            exact r_ret1 dX9_isNarrow_72 (Nat.zero_le _) (Nat.zero_le _) X
theorem mtX9_isNarrow (G : GG) (hG : GT G) {a0 : Nat} {h h' : AH} {v : Int32} (hc : fX9_isNarrow a0 h = some (v, h')) : AMet G yX9_isNarrow cX9_isNarrow 1 (some .boolean) 1 21 0 0 [.ref (gB G + a0)] h (some (.int v)) h' :=
  amet_of false [some (.ref (gB G + a0))] (by decide +kernel) (by decide) (Nat.le_of_ble_eq_true rfl) rfl (Nat.le_of_ble_eq_true rfl) (wX9_isNarrow G hG (v, h') _ h hc)
abbrev eX9_under (G : GG) (R : Int64 × AH) : EE := eM G 4 (some .long) false 1 25 0 0 (some (.long R.1)) R.2
theorem wX9_under (G : GG) (hG : GT G) (R : Int64 × AH) (x0 : Int64) (x1 : Int64) (h : AH) (X : fX9_under x0 x1 h = some R) : AW (eX9_under G R) RX9 cX9_under 0 [some (.long x0), none, some (.long x1), none] [] h 0 0 := by
  unfold fX9_under at X
  refine r_lld0 1 dX9_under_0 rfl ?_
  refine r_lconst 2 _ dX9_under_1 rfl kl_1 ?_
  refine r_lsub 3 dX9_under_2 rfl ?_
  refine r_lld2 4 dX9_under_3 rfl ?_
  obtain ⟨x102, h101, hc, X⟩ := bnd_ok X
  refine r_callS2 7 dX9_under_4 rfl lmX9_91 (mtX9_floor G hG hc) rfl ⟨(Nat.zero_le _), (Nat.zero_le _)⟩ ?_
  exact r_retL dX9_under_7 (Nat.zero_le _) (Nat.zero_le _) X
theorem mtX9_under (G : GG) (hG : GT G) {x0 : Int64} {x1 : Int64} {h h' : AH} {v : Int64} (hc : fX9_under x0 x1 h = some (v, h')) : AMet G yX9_under cX9_under 4 (some .long) 1 25 0 0 [.long x0, .long x1] h (some (.long v)) h' :=
  amet_of false [some (.long x0), none, some (.long x1), none] (by decide +kernel) (by decide) (Nat.le_of_ble_eq_true rfl) rfl (Nat.le_of_ble_eq_true rfl) (wX9_under G hG (v, h') _ _ h hc)
abbrev eX9_same (G : GG) (R : Int64 × AH) : EE := eM G 17 (some .long) false 2 48 0 0 (some (.long R.1)) R.2
theorem wX9_same_45 (G : GG) (hG : GT G) (R : Int64 × AH) {K45 : Int64 → Int64 → Int32 → Int32 → Int64 → Int64 → Int64 → Int32 → AH → Fn Int64} (hK45 : ∀ (l2 : Int64) (l6 : Int64) (l8 : Int32) (l9 : Int32) (l10 : Int64) (l12 : Int64) (l14 : Int64) (l16 : Int32) (h : AH), K45 l2 l6 l8 l9 l10 l12 l14 l16 h = some R → AW (eX9_same G R) RX9 cX9_same 45 [none, none, some (.long l2), none, none, none, some (.long l6), none, some (.int l8), some (.int l9), some (.long l10), none, some (.long l12), none, some (.long l14), none, some (.int l16)] [] h 0 0) (l2 : Int64) (l6 : Int64) (l8 : Int32) (l9 : Int32) (l10 : Int64) (l12 : Int64) (l14 : Int64) (l16 : Int32) (h : AH) (X : fX9_same_45 K45 l2 l6 l8 l9 l10 l12 l14 l16 h = some R) : AW (eX9_same G R) RX9 cX9_same 45 [none, none, some (.long l2), none, none, none, some (.long l6), none, some (.int l8), some (.int l9), some (.long l10), none, some (.long l12), none, some (.long l14), none, some (.int l16)] [] h 0 0 := by
  unfold fX9_same_45 at X
  refine r_ild16 47 dX9_same_45 rfl ?_
  refine r_ild9 49 dX9_same_47 rfl ?_
  refine r_icmp_ge 118 52 dX9_same_49 (by decide) rfl X (fun _ X => ?_) (fun _ X => ?_)
  · refine r_lld10 120 dX9_same_118 rfl ?_
    exact r_retL dX9_same_120 (Nat.zero_le _) (Nat.zero_le _) X
  · refine r_lld12 54 dX9_same_52 rfl ?_
    refine r_ild8 56 dX9_same_54 rfl ?_
    refine r_i2l 57 dX9_same_56 rfl ?_
    refine r_lmul 58 dX9_same_57 rfl ?_
    refine r_lst12w 60 dX9_same_58 rfl rfl X (fun x101 X => ?_)
    refine r_lld14 62 dX9_same_60 rfl ?_
    refine r_ild8 64 dX9_same_62 rfl ?_
    refine r_i2l 65 dX9_same_64 rfl ?_
    refine r_lmul 66 dX9_same_65 rfl ?_
    refine r_lst14w 68 dX9_same_66 rfl rfl X (fun x102 X => ?_)
    refine r_lld12 70 dX9_same_68 rfl ?_
    refine r_lld2 71 dX9_same_70 rfl ?_
    obtain ⟨x104, h103, hc, X⟩ := bnd_ok X
    refine r_callS2 74 dX9_same_71 rfl lmX9_91 (mtX9_floor G hG hc) rfl ⟨(Nat.zero_le _), (Nat.zero_le _)⟩ ?_
    refine r_lst10 76 dX9_same_74 rfl rfl ?_
    refine r_lld10 78 dX9_same_76 rfl ?_
    refine r_lld14 80 dX9_same_78 rfl ?_
    refine r_lld6 82 dX9_same_80 rfl ?_
    obtain ⟨x106, h105, hc, X⟩ := bnd_ok X
    refine r_callS2 85 dX9_same_82 rfl lmX9_319 (mtX9_under G hG hc) rfl ⟨(Nat.zero_le _), (Nat.zero_le _)⟩ ?_
    refine r_lif_eq 93 89 dX9_same_85 dX9_same_86 (by decide) rfl X (fun _ X => ?_) (fun _ X => ?_)
    · refine r_lld12 95 dX9_same_93 rfl ?_
      refine r_lld10 97 dX9_same_95 rfl ?_
      refine r_lld2 98 dX9_same_97 rfl ?_
      refine r_lmul 99 dX9_same_98 rfl ?_
      refine r_lsub 100 dX9_same_99 rfl ?_
      refine r_lst12w 102 dX9_same_100 rfl rfl X (fun x107 X => ?_)
      refine r_lld14 104 dX9_same_102 rfl ?_
      refine r_lld10 106 dX9_same_104 rfl ?_
      refine r_lld6 108 dX9_same_106 rfl ?_
      refine r_lmul 109 dX9_same_108 rfl ?_
      refine r_lsub 110 dX9_same_109 rfl ?_
      refine r_lst14w 112 dX9_same_110 rfl rfl X (fun x108 X => ?_)
      refine r_iinc16w 115 dX9_same_112 rfl rfl ki_1 X (fun x109 X => ?_)
      refine r_goto 45 dX9_same_115 (by decide) ?_
      exact r_cut (hK45 _ _ _ _ _ _ _ _ _ X) ⟨rfl, ⟨rfl, ⟨rfl, ⟨rfl, ⟨rfl, ⟨rfl, ⟨rfl, ⟨rfl, trivial⟩⟩⟩⟩⟩⟩⟩⟩
    · refine r_ldc2 92 dX9_same_89 rfl lkX9_255 ?_
      exact r_retL dX9_same_92 (Nat.zero_le _) (Nat.zero_le _) X
theorem wX9_same_45L (G : GG) (hG : GT G) (R : Int64 × AH) : ∀ (m : Nat) (l2 : Int64) (l6 : Int64) (l8 : Int32) (l9 : Int32) (l10 : Int64) (l12 : Int64) (l14 : Int64) (l16 : Int32) (h : AH), fX9_same_45L m l2 l6 l8 l9 l10 l12 l14 l16 h = some R → AW (eX9_same G R) RX9 cX9_same 45 [none, none, some (.long l2), none, none, none, some (.long l6), none, some (.int l8), some (.int l9), some (.long l10), none, some (.long l12), none, some (.long l14), none, some (.int l16)] [] h 0 0 := by
  intro m
  induction m with
  | zero => intro l2 l6 l8 l9 l10 l12 l14 l16 h X; exact nomatch (show (none : Fn Int64) = some R from X)
  | succ m ih => intro l2 l6 l8 l9 l10 l12 l14 l16 h X; exact wX9_same_45 G hG R ih l2 l6 l8 l9 l10 l12 l14 l16 h X
theorem wX9_same (G : GG) (hG : GT G) (R : Int64 × AH) (x0 : Int64) (x1 : Int64) (x2 : Int64) (x3 : Int64) (x4 : Int32) (x5 : Int32) (h : AH) (X : fX9_same x0 x1 x2 x3 x4 x5 h = some R) : AW (eX9_same G R) RX9 cX9_same 0 [some (.long x0), none, some (.long x1), none, some (.long x2), none, some (.long x3), none, some (.int x4), some (.int x5), none, none, none, none, none, none, none] [] h 0 0 := by
  unfold fX9_same at X
  refine r_lld0 1 dX9_same_0 rfl ?_
  refine r_lld2 2 dX9_same_1 rfl ?_
  obtain ⟨x102, h101, hc, X⟩ := bnd_ok X
  refine r_callS2 5 dX9_same_2 rfl lmX9_91 (mtX9_floor G hG hc) rfl ⟨(Nat.zero_le _), (Nat.zero_le _)⟩ ?_
  refine r_lst10 7 dX9_same_5 rfl rfl ?_
  refine r_lld10 9 dX9_same_7 rfl ?_
  refine r_lld4 11 dX9_same_9 rfl ?_
  refine r_lld6 13 dX9_same_11 rfl ?_
  obtain ⟨x104, h103, hc, X⟩ := bnd_ok X
  refine r_callS2 16 dX9_same_13 rfl lmX9_319 (mtX9_under G hG hc) rfl ⟨(Nat.zero_le _), (Nat.zero_le _)⟩ ?_
  refine r_lif_eq 24 20 dX9_same_16 dX9_same_17 (by decide) rfl X (fun _ X => ?_) (fun _ X => ?_)
  · refine r_lld0 25 dX9_same_24 rfl ?_
    refine r_lld10 27 dX9_same_25 rfl ?_
    refine r_lld2 28 dX9_same_27 rfl ?_
    refine r_lmul 29 dX9_same_28 rfl ?_
    refine r_lsub 30 dX9_same_29 rfl ?_
    refine r_lst12w 32 dX9_same_30 rfl rfl X (fun x105 X => ?_)
    refine r_lld4 34 dX9_same_32 rfl ?_
    refine r_lld10 36 dX9_same_34 rfl ?_
    refine r_lld6 38 dX9_same_36 rfl ?_
    refine r_lmul 39 dX9_same_38 rfl ?_
    refine r_lsub 40 dX9_same_39 rfl ?_
    refine r_lst14w 42 dX9_same_40 rfl rfl X (fun x106 X => ?_)
    refine r_iconst 43 _ dX9_same_42 rfl ki_0 ?_
    refine r_ist16 45 dX9_same_43 rfl rfl ?_
    exact r_cut (wX9_same_45L G hG R 1000 _ _ _ _ _ _ _ _ _ X) ⟨rfl, ⟨rfl, ⟨rfl, ⟨rfl, ⟨rfl, ⟨rfl, ⟨rfl, ⟨rfl, trivial⟩⟩⟩⟩⟩⟩⟩⟩
  · refine r_ldc2 23 dX9_same_20 rfl lkX9_255 ?_
    exact r_retL dX9_same_23 (Nat.zero_le _) (Nat.zero_le _) X
theorem mtX9_same (G : GG) (hG : GT G) {x0 : Int64} {x1 : Int64} {x2 : Int64} {x3 : Int64} {x4 : Int32} {x5 : Int32} {h h' : AH} {v : Int64} (hc : fX9_same x0 x1 x2 x3 x4 x5 h = some (v, h')) : AMet G yX9_same cX9_same 17 (some .long) 2 48 0 0 [.long x0, .long x1, .long x2, .long x3, .int x4, .int x5] h (some (.long v)) h' :=
  amet_of false [some (.long x0), none, some (.long x1), none, some (.long x2), none, some (.long x3), none, some (.int x4), some (.int x5), none, none, none, none, none, none, none] (by decide +kernel) (by decide) (Nat.le_of_ble_eq_true rfl) rfl (Nat.le_of_ble_eq_true rfl) (wX9_same G hG (v, h') _ _ _ _ _ _ h hc)
