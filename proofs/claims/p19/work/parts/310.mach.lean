theorem dX9_row_0 : decode cX9_row 0 = .ok (.iload_n 1, 1) := by decide +kernel
theorem dX9_row_1 : decode cX9_row 1 = .ok (.i2l, 1) := by decide +kernel
theorem dX9_row_2 : decode cX9_row 2 = .ok (.lconst 1, 1) := by decide +kernel
theorem dX9_row_3 : decode cX9_row 3 = .ok (.ldc2_w 136, 3) := by decide +kernel
theorem dX9_row_6 : decode cX9_row 6 = .ok (.invokestatic 75, 3) := by decide +kernel
theorem dX9_row_9 : decode cX9_row 9 = .ok (.ifCond .eq 15, 3) := by decide +kernel
theorem dX9_row_12 : decode cX9_row 12 = .ok (.iload_n 2, 1) := by decide +kernel
theorem dX9_row_13 : decode cX9_row 13 = .ok (.i2l, 1) := by decide +kernel
theorem dX9_row_14 : decode cX9_row 14 = .ok (.lconst 0, 1) := by decide +kernel
theorem dX9_row_15 : decode cX9_row 15 = .ok (.ldc2_w 136, 3) := by decide +kernel
theorem dX9_row_18 : decode cX9_row 18 = .ok (.invokestatic 75, 3) := by decide +kernel
theorem dX9_row_21 : decode cX9_row 21 = .ok (.ifCond .ne 7, 3) := by decide +kernel
theorem dX9_row_24 : decode cX9_row 24 = .ok (.ldc2_w 109, 3) := by decide +kernel
theorem dX9_row_27 : decode cX9_row 27 = .ok (.lreturn, 1) := by decide +kernel
theorem dX9_row_28 : decode cX9_row 28 = .ok (.aload_n 0, 1) := by decide +kernel
theorem dX9_row_29 : decode cX9_row 29 = .ok (.getfield 138, 3) := by decide +kernel
theorem dX9_row_32 : decode cX9_row 32 = .ok (.bipush 8, 2) := by decide +kernel
theorem dX9_row_34 : decode cX9_row 34 = .ok (.if_icmp .ne 7, 3) := by decide +kernel
theorem dX9_row_37 : decode cX9_row 37 = .ok (.ldc2_w 111, 3) := by decide +kernel
theorem dX9_row_40 : decode cX9_row 40 = .ok (.lreturn, 1) := by decide +kernel
theorem dX9_row_41 : decode cX9_row 41 = .ok (.aload_n 0, 1) := by decide +kernel
theorem dX9_row_42 : decode cX9_row 42 = .ok (.getfield 39, 3) := by decide +kernel
theorem dX9_row_45 : decode cX9_row 45 = .ok (.aload_n 0, 1) := by decide +kernel
theorem dX9_row_46 : decode cX9_row 46 = .ok (.getfield 138, 3) := by decide +kernel
theorem dX9_row_49 : decode cX9_row 49 = .ok (.iload_n 1, 1) := by decide +kernel
theorem dX9_row_50 : decode cX9_row 50 = .ok (.iastore, 1) := by decide +kernel
theorem dX9_row_51 : decode cX9_row 51 = .ok (.aload_n 0, 1) := by decide +kernel
theorem dX9_row_52 : decode cX9_row 52 = .ok (.getfield 42, 3) := by decide +kernel
theorem dX9_row_55 : decode cX9_row 55 = .ok (.aload_n 0, 1) := by decide +kernel
theorem dX9_row_56 : decode cX9_row 56 = .ok (.getfield 138, 3) := by decide +kernel
theorem dX9_row_59 : decode cX9_row 59 = .ok (.iload_n 2, 1) := by decide +kernel
theorem dX9_row_60 : decode cX9_row 60 = .ok (.iastore, 1) := by decide +kernel
theorem dX9_row_61 : decode cX9_row 61 = .ok (.aload_n 0, 1) := by decide +kernel
theorem dX9_row_62 : decode cX9_row 62 = .ok (.dup, 1) := by decide +kernel
theorem dX9_row_63 : decode cX9_row 63 = .ok (.getfield 138, 3) := by decide +kernel
theorem dX9_row_66 : decode cX9_row 66 = .ok (.iconst 1, 1) := by decide +kernel
theorem dX9_row_67 : decode cX9_row 67 = .ok (.iadd, 1) := by decide +kernel
theorem dX9_row_68 : decode cX9_row 68 = .ok (.putfield 138, 3) := by decide +kernel
theorem dX9_row_71 : decode cX9_row 71 = .ok (.aload_n 0, 1) := by decide +kernel
theorem dX9_row_72 : decode cX9_row 72 = .ok (.getfield 138, 3) := by decide +kernel
theorem dX9_row_75 : decode cX9_row 75 = .ok (.i2l, 1) := by decide +kernel
theorem dX9_row_76 : decode cX9_row 76 = .ok (.lreturn, 1) := by decide +kernel
theorem dX9_rule_0 : decode cX9_rule 0 = .ok (.iload_n 1, 1) := by decide +kernel
theorem dX9_rule_1 : decode cX9_rule 1 = .ok (.i2l, 1) := by decide +kernel
theorem dX9_rule_2 : decode cX9_rule 2 = .ok (.ldc2_w 141, 3) := by decide +kernel
theorem dX9_rule_5 : decode cX9_rule 5 = .ok (.ldc2_w 136, 3) := by decide +kernel
theorem dX9_rule_8 : decode cX9_rule 8 = .ok (.invokestatic 75, 3) := by decide +kernel
theorem dX9_rule_11 : decode cX9_rule 11 = .ok (.ifCond .ne 7, 3) := by decide +kernel
theorem dX9_rule_14 : decode cX9_rule 14 = .ok (.ldc2_w 109, 3) := by decide +kernel
theorem dX9_rule_17 : decode cX9_rule 17 = .ok (.lreturn, 1) := by decide +kernel
theorem dX9_rule_18 : decode cX9_rule 18 = .ok (.aload_n 0, 1) := by decide +kernel
theorem dX9_rule_19 : decode cX9_rule 19 = .ok (.getfield 138, 3) := by decide +kernel
theorem dX9_rule_22 : decode cX9_rule 22 = .ok (.ifCond .ne 7, 3) := by decide +kernel
theorem dX9_rule_25 : decode cX9_rule 25 = .ok (.ldc2_w 143, 3) := by decide +kernel
theorem dX9_rule_28 : decode cX9_rule 28 = .ok (.lreturn, 1) := by decide +kernel
theorem dX9_rule_29 : decode cX9_rule 29 = .ok (.aload_n 0, 1) := by decide +kernel
theorem dX9_rule_30 : decode cX9_rule 30 = .ok (.getfield 79, 3) := by decide +kernel
theorem dX9_rule_33 : decode cX9_rule 33 = .ok (.bipush 40, 2) := by decide +kernel
theorem dX9_rule_35 : decode cX9_rule 35 = .ok (.if_icmp .ne 7, 3) := by decide +kernel
theorem dX9_rule_38 : decode cX9_rule 38 = .ok (.ldc2_w 111, 3) := by decide +kernel
theorem dX9_rule_41 : decode cX9_rule 41 = .ok (.lreturn, 1) := by decide +kernel
theorem dX9_rule_42 : decode cX9_rule 42 = .ok (.aload_n 0, 1) := by decide +kernel
theorem dX9_rule_43 : decode cX9_rule 43 = .ok (.iconst 2, 1) := by decide +kernel
theorem dX9_rule_44 : decode cX9_rule 44 = .ok (.invokevirtual 83, 3) := by decide +kernel
theorem dX9_rule_47 : decode cX9_rule 47 = .ok (.istore_n 2, 1) := by decide +kernel
theorem dX9_rule_48 : decode cX9_rule 48 = .ok (.aload_n 0, 1) := by decide +kernel
theorem dX9_rule_49 : decode cX9_rule 49 = .ok (.iload_n 2, 1) := by decide +kernel
theorem dX9_rule_50 : decode cX9_rule 50 = .ok (.iload_n 1, 1) := by decide +kernel
theorem dX9_rule_51 : decode cX9_rule 51 = .ok (.i2l, 1) := by decide +kernel
theorem dX9_rule_52 : decode cX9_rule 52 = .ok (.invokevirtual 94, 3) := by decide +kernel
theorem dX9_rule_55 : decode cX9_rule 55 = .ok (.iconst 1, 1) := by decide +kernel
theorem dX9_rule_56 : decode cX9_rule 56 = .ok (.istore_n 3, 1) := by decide +kernel
theorem dX9_rule_57 : decode cX9_rule 57 = .ok (.iload_n 3, 1) := by decide +kernel
theorem dX9_rule_58 : decode cX9_rule 58 = .ok (.bipush 60, 2) := by decide +kernel
theorem dX9_rule_60 : decode cX9_rule 60 = .ok (.if_icmp .ge 55, 3) := by decide +kernel
theorem dX9_rule_63 : decode cX9_rule 63 = .ok (.iload_n 3, 1) := by decide +kernel
theorem dX9_rule_64 : decode cX9_rule 64 = .ok (.iconst 1, 1) := by decide +kernel
theorem dX9_rule_65 : decode cX9_rule 65 = .ok (.isub, 1) := by decide +kernel
theorem dX9_rule_66 : decode cX9_rule 66 = .ok (.aload_n 0, 1) := by decide +kernel
theorem dX9_rule_67 : decode cX9_rule 67 = .ok (.getfield 138, 3) := by decide +kernel
theorem dX9_rule_70 : decode cX9_rule 70 = .ok (.irem, 1) := by decide +kernel
theorem dX9_rule_71 : decode cX9_rule 71 = .ok (.istore 4, 2) := by decide +kernel
theorem dX9_rule_73 : decode cX9_rule 73 = .ok (.iload_n 3, 1) := by decide +kernel
theorem dX9_rule_74 : decode cX9_rule 74 = .ok (.iconst 1, 1) := by decide +kernel
theorem dX9_rule_75 : decode cX9_rule 75 = .ok (.isub, 1) := by decide +kernel
theorem dX9_rule_76 : decode cX9_rule 76 = .ok (.aload_n 0, 1) := by decide +kernel
theorem dX9_rule_77 : decode cX9_rule 77 = .ok (.getfield 138, 3) := by decide +kernel
theorem dX9_rule_80 : decode cX9_rule 80 = .ok (.idiv, 1) := by decide +kernel
theorem dX9_rule_81 : decode cX9_rule 81 = .ok (.i2l, 1) := by decide +kernel
theorem dX9_rule_82 : decode cX9_rule 82 = .ok (.lstore 5, 2) := by decide +kernel
theorem dX9_rule_84 : decode cX9_rule 84 = .ok (.aload_n 0, 1) := by decide +kernel
theorem dX9_rule_85 : decode cX9_rule 85 = .ok (.iload_n 2, 1) := by decide +kernel
theorem dX9_rule_86 : decode cX9_rule 86 = .ok (.aload_n 0, 1) := by decide +kernel
theorem dX9_rule_87 : decode cX9_rule 87 = .ok (.getfield 39, 3) := by decide +kernel
theorem dX9_rule_90 : decode cX9_rule 90 = .ok (.iload 4, 2) := by decide +kernel
theorem dX9_rule_92 : decode cX9_rule 92 = .ok (.iaload, 1) := by decide +kernel
theorem dX9_rule_93 : decode cX9_rule 93 = .ok (.i2l, 1) := by decide +kernel
theorem dX9_rule_94 : decode cX9_rule 94 = .ok (.lload 5, 2) := by decide +kernel
theorem dX9_rule_96 : decode cX9_rule 96 = .ok (.aload_n 0, 1) := by decide +kernel
theorem dX9_rule_97 : decode cX9_rule 97 = .ok (.getfield 42, 3) := by decide +kernel
theorem dX9_rule_100 : decode cX9_rule 100 = .ok (.iload 4, 2) := by decide +kernel
theorem dX9_rule_102 : decode cX9_rule 102 = .ok (.iaload, 1) := by decide +kernel
theorem dX9_rule_103 : decode cX9_rule 103 = .ok (.i2l, 1) := by decide +kernel
theorem dX9_rule_104 : decode cX9_rule 104 = .ok (.lmul, 1) := by decide +kernel
theorem dX9_rule_105 : decode cX9_rule 105 = .ok (.ladd, 1) := by decide +kernel
theorem dX9_rule_106 : decode cX9_rule 106 = .ok (.invokevirtual 94, 3) := by decide +kernel
theorem dX9_rule_109 : decode cX9_rule 109 = .ok (.iinc 3 1, 3) := by decide +kernel
theorem dX9_rule_112 : decode cX9_rule 112 = .ok (.goto (-55), 3) := by decide +kernel
theorem dX9_rule_115 : decode cX9_rule 115 = .ok (.aload_n 0, 1) := by decide +kernel
theorem dX9_rule_116 : decode cX9_rule 116 = .ok (.iconst 0, 1) := by decide +kernel
theorem dX9_rule_117 : decode cX9_rule 117 = .ok (.putfield 138, 3) := by decide +kernel
theorem dX9_rule_120 : decode cX9_rule 120 = .ok (.iload_n 2, 1) := by decide +kernel
theorem dX9_rule_121 : decode cX9_rule 121 = .ok (.i2l, 1) := by decide +kernel
theorem dX9_rule_122 : decode cX9_rule 122 = .ok (.lreturn, 1) := by decide +kernel
theorem dX9_turn_0 : decode cX9_turn 0 = .ok (.aload_n 0, 1) := by decide +kernel
theorem dX9_turn_1 : decode cX9_turn 1 = .ok (.iload_n 1, 1) := by decide +kernel
theorem dX9_turn_2 : decode cX9_turn 2 = .ok (.invokevirtual 179, 3) := by decide +kernel
theorem dX9_turn_5 : decode cX9_turn 5 = .ok (.ifCond .eq 7, 3) := by decide +kernel
theorem dX9_turn_8 : decode cX9_turn 8 = .ok (.ldc2_w 183, 3) := by decide +kernel
theorem dX9_turn_11 : decode cX9_turn 11 = .ok (.lreturn, 1) := by decide +kernel
theorem dX9_turn_12 : decode cX9_turn 12 = .ok (.aload_n 0, 1) := by decide +kernel
theorem dX9_turn_13 : decode cX9_turn 13 = .ok (.iload_n 1, 1) := by decide +kernel
theorem dX9_turn_14 : decode cX9_turn 14 = .ok (.invokevirtual 187, 3) := by decide +kernel
theorem dX9_turn_17 : decode cX9_turn 17 = .ok (.ifCond .eq 7, 3) := by decide +kernel
theorem dX9_turn_20 : decode cX9_turn 20 = .ok (.ldc2_w 143, 3) := by decide +kernel
theorem dX9_turn_23 : decode cX9_turn 23 = .ok (.lreturn, 1) := by decide +kernel
theorem dX9_turn_24 : decode cX9_turn 24 = .ok (.aload_n 0, 1) := by decide +kernel
theorem dX9_turn_25 : decode cX9_turn 25 = .ok (.getfield 79, 3) := by decide +kernel
theorem dX9_turn_28 : decode cX9_turn 28 = .ok (.bipush 40, 2) := by decide +kernel
theorem dX9_turn_30 : decode cX9_turn 30 = .ok (.if_icmp .ne 7, 3) := by decide +kernel
theorem dX9_turn_33 : decode cX9_turn 33 = .ok (.ldc2_w 111, 3) := by decide +kernel
theorem dX9_turn_36 : decode cX9_turn 36 = .ok (.lreturn, 1) := by decide +kernel
theorem dX9_turn_37 : decode cX9_turn 37 = .ok (.aload_n 0, 1) := by decide +kernel
theorem dX9_turn_38 : decode cX9_turn 38 = .ok (.getfield 13, 3) := by decide +kernel
theorem dX9_turn_41 : decode cX9_turn 41 = .ok (.iload_n 1, 1) := by decide +kernel
theorem dX9_turn_42 : decode cX9_turn 42 = .ok (.iaload, 1) := by decide +kernel
theorem dX9_turn_43 : decode cX9_turn 43 = .ok (.iconst 2, 1) := by decide +kernel
theorem dX9_turn_44 : decode cX9_turn 44 = .ok (.if_icmp .ge 127, 3) := by decide +kernel
theorem dX9_turn_47 : decode cX9_turn 47 = .ok (.aload_n 0, 1) := by decide +kernel
theorem dX9_turn_48 : decode cX9_turn 48 = .ok (.getfield 13, 3) := by decide +kernel
theorem dX9_turn_51 : decode cX9_turn 51 = .ok (.iload_n 1, 1) := by decide +kernel
theorem dX9_turn_52 : decode cX9_turn 52 = .ok (.iaload, 1) := by decide +kernel
theorem dX9_turn_53 : decode cX9_turn 53 = .ok (.iconst 1, 1) := by decide +kernel
theorem dX9_turn_54 : decode cX9_turn 54 = .ok (.if_icmp .ne 7, 3) := by decide +kernel
theorem dX9_turn_57 : decode cX9_turn 57 = .ok (.iconst 1, 1) := by decide +kernel
theorem dX9_turn_58 : decode cX9_turn 58 = .ok (.goto 4, 3) := by decide +kernel
theorem dX9_turn_61 : decode cX9_turn 61 = .ok (.iconst 0, 1) := by decide +kernel
theorem dX9_turn_62 : decode cX9_turn 62 = .ok (.istore_n 2, 1) := by decide +kernel
theorem dX9_turn_63 : decode cX9_turn 63 = .ok (.aload_n 0, 1) := by decide +kernel
theorem dX9_turn_64 : decode cX9_turn 64 = .ok (.iconst 3, 1) := by decide +kernel
theorem dX9_turn_65 : decode cX9_turn 65 = .ok (.lconst 1, 1) := by decide +kernel
theorem dX9_turn_66 : decode cX9_turn 66 = .ok (.lconst 0, 1) := by decide +kernel
theorem dX9_turn_67 : decode cX9_turn 67 = .ok (.lconst 1, 1) := by decide +kernel
theorem dX9_turn_68 : decode cX9_turn 68 = .ok (.aload_n 0, 1) := by decide +kernel
theorem dX9_turn_69 : decode cX9_turn 69 = .ok (.getfield 30, 3) := by decide +kernel
theorem dX9_turn_72 : decode cX9_turn 72 = .ok (.iconst 4, 1) := by decide +kernel
theorem dX9_turn_73 : decode cX9_turn 73 = .ok (.iload_n 1, 1) := by decide +kernel
theorem dX9_turn_74 : decode cX9_turn 74 = .ok (.imul, 1) := by decide +kernel
theorem dX9_turn_75 : decode cX9_turn 75 = .ok (.laload, 1) := by decide +kernel
theorem dX9_turn_76 : decode cX9_turn 76 = .ok (.iload_n 2, 1) := by decide +kernel
theorem dX9_turn_77 : decode cX9_turn 77 = .ok (.ifCond .eq 16, 3) := by decide +kernel
theorem dX9_turn_80 : decode cX9_turn 80 = .ok (.aload_n 0, 1) := by decide +kernel
theorem dX9_turn_81 : decode cX9_turn 81 = .ok (.getfield 30, 3) := by decide +kernel
theorem dX9_turn_84 : decode cX9_turn 84 = .ok (.iconst 4, 1) := by decide +kernel
theorem dX9_turn_85 : decode cX9_turn 85 = .ok (.iload_n 1, 1) := by decide +kernel
theorem dX9_turn_86 : decode cX9_turn 86 = .ok (.imul, 1) := by decide +kernel
theorem dX9_turn_87 : decode cX9_turn 87 = .ok (.iconst 1, 1) := by decide +kernel
theorem dX9_turn_88 : decode cX9_turn 88 = .ok (.iadd, 1) := by decide +kernel
theorem dX9_turn_89 : decode cX9_turn 89 = .ok (.laload, 1) := by decide +kernel
theorem dX9_turn_90 : decode cX9_turn 90 = .ok (.goto 4, 3) := by decide +kernel
theorem dX9_turn_93 : decode cX9_turn 93 = .ok (.lconst 0, 1) := by decide +kernel
theorem dX9_turn_94 : decode cX9_turn 94 = .ok (.aload_n 0, 1) := by decide +kernel
theorem dX9_turn_95 : decode cX9_turn 95 = .ok (.getfield 30, 3) := by decide +kernel
theorem dX9_turn_98 : decode cX9_turn 98 = .ok (.iconst 4, 1) := by decide +kernel
theorem dX9_turn_99 : decode cX9_turn 99 = .ok (.iload_n 1, 1) := by decide +kernel
theorem dX9_turn_100 : decode cX9_turn 100 = .ok (.imul, 1) := by decide +kernel
theorem dX9_turn_101 : decode cX9_turn 101 = .ok (.iload_n 2, 1) := by decide +kernel
theorem dX9_turn_102 : decode cX9_turn 102 = .ok (.ifCond .eq 7, 3) := by decide +kernel
theorem dX9_turn_105 : decode cX9_turn 105 = .ok (.iconst 3, 1) := by decide +kernel
theorem dX9_turn_106 : decode cX9_turn 106 = .ok (.goto 4, 3) := by decide +kernel
theorem dX9_turn_109 : decode cX9_turn 109 = .ok (.iconst 1, 1) := by decide +kernel
theorem dX9_turn_110 : decode cX9_turn 110 = .ok (.iadd, 1) := by decide +kernel
theorem dX9_turn_111 : decode cX9_turn 111 = .ok (.laload, 1) := by decide +kernel
theorem dX9_turn_112 : decode cX9_turn 112 = .ok (.iload_n 2, 1) := by decide +kernel
theorem dX9_turn_113 : decode cX9_turn 113 = .ok (.ifCond .eq 16, 3) := by decide +kernel
theorem dX9_turn_116 : decode cX9_turn 116 = .ok (.aload_n 0, 1) := by decide +kernel
theorem dX9_turn_117 : decode cX9_turn 117 = .ok (.getfield 30, 3) := by decide +kernel
theorem dX9_turn_120 : decode cX9_turn 120 = .ok (.iconst 4, 1) := by decide +kernel
theorem dX9_turn_121 : decode cX9_turn 121 = .ok (.iload_n 1, 1) := by decide +kernel
theorem dX9_turn_122 : decode cX9_turn 122 = .ok (.imul, 1) := by decide +kernel
theorem dX9_turn_123 : decode cX9_turn 123 = .ok (.iconst 2, 1) := by decide +kernel
theorem dX9_turn_124 : decode cX9_turn 124 = .ok (.iadd, 1) := by decide +kernel
theorem dX9_turn_125 : decode cX9_turn 125 = .ok (.laload, 1) := by decide +kernel
theorem dX9_turn_126 : decode cX9_turn 126 = .ok (.goto 6, 3) := by decide +kernel
theorem dX9_turn_129 : decode cX9_turn 129 = .ok (.ldc2_w 102, 3) := by decide +kernel
theorem dX9_turn_132 : decode cX9_turn 132 = .ok (.iload_n 2, 1) := by decide +kernel
theorem dX9_turn_133 : decode cX9_turn 133 = .ok (.invokevirtual 173, 3) := by decide +kernel
theorem dX9_turn_136 : decode cX9_turn 136 = .ok (.aload_n 0, 1) := by decide +kernel
theorem dX9_turn_137 : decode cX9_turn 137 = .ok (.getfield 69, 3) := by decide +kernel
theorem dX9_turn_140 : decode cX9_turn 140 = .ok (.ifCond .eq 9, 3) := by decide +kernel
theorem dX9_turn_143 : decode cX9_turn 143 = .ok (.ldc2_w 177, 3) := by decide +kernel
theorem dX9_turn_146 : decode cX9_turn 146 = .ok (.goto 24, 3) := by decide +kernel
theorem dX9_turn_149 : decode cX9_turn 149 = .ok (.aload_n 0, 1) := by decide +kernel
theorem dX9_turn_150 : decode cX9_turn 150 = .ok (.aload_n 0, 1) := by decide +kernel
theorem dX9_turn_151 : decode cX9_turn 151 = .ok (.getfield 157, 3) := by decide +kernel
theorem dX9_turn_154 : decode cX9_turn 154 = .ok (.aload_n 0, 1) := by decide +kernel
theorem dX9_turn_155 : decode cX9_turn 155 = .ok (.getfield 160, 3) := by decide +kernel
theorem dX9_turn_158 : decode cX9_turn 158 = .ok (.aload_n 0, 1) := by decide +kernel
theorem dX9_turn_159 : decode cX9_turn 159 = .ok (.getfield 145, 3) := by decide +kernel
theorem dX9_turn_162 : decode cX9_turn 162 = .ok (.aload_n 0, 1) := by decide +kernel
theorem dX9_turn_163 : decode cX9_turn 163 = .ok (.getfield 163, 3) := by decide +kernel
theorem dX9_turn_166 : decode cX9_turn 166 = .ok (.invokevirtual 129, 3) := by decide +kernel
theorem dX9_turn_169 : decode cX9_turn 169 = .ok (.i2l, 1) := by decide +kernel
theorem dX9_turn_170 : decode cX9_turn 170 = .ok (.lreturn, 1) := by decide +kernel
theorem dX9_turn_171 : decode cX9_turn 171 = .ok (.iconst 0, 1) := by decide +kernel
theorem dX9_turn_172 : decode cX9_turn 172 = .ok (.istore_n 2, 1) := by decide +kernel
theorem dX9_turn_173 : decode cX9_turn 173 = .ok (.iload_n 2, 1) := by decide +kernel
theorem dX9_turn_174 : decode cX9_turn 174 = .ok (.bipush 8, 2) := by decide +kernel
theorem dX9_turn_176 : decode cX9_turn 176 = .ok (.if_icmp .ge 30, 3) := by decide +kernel
theorem dX9_turn_179 : decode cX9_turn 179 = .ok (.aload_n 0, 1) := by decide +kernel
theorem dX9_turn_180 : decode cX9_turn 180 = .ok (.getfield 48, 3) := by decide +kernel
theorem dX9_turn_183 : decode cX9_turn 183 = .ok (.iload_n 2, 1) := by decide +kernel
theorem dX9_turn_184 : decode cX9_turn 184 = .ok (.iload_n 2, 1) := by decide +kernel
theorem dX9_turn_185 : decode cX9_turn 185 = .ok (.iconst 3, 1) := by decide +kernel
theorem dX9_turn_186 : decode cX9_turn 186 = .ok (.if_icmp .eq 8, 3) := by decide +kernel
theorem dX9_turn_189 : decode cX9_turn 189 = .ok (.iload_n 2, 1) := by decide +kernel
theorem dX9_turn_190 : decode cX9_turn 190 = .ok (.iconst 5, 1) := by decide +kernel
theorem dX9_turn_191 : decode cX9_turn 191 = .ok (.if_icmp .ne 7, 3) := by decide +kernel
theorem dX9_turn_194 : decode cX9_turn 194 = .ok (.lconst 1, 1) := by decide +kernel
theorem dX9_turn_195 : decode cX9_turn 195 = .ok (.goto 4, 3) := by decide +kernel
theorem dX9_turn_198 : decode cX9_turn 198 = .ok (.lconst 0, 1) := by decide +kernel
theorem dX9_turn_199 : decode cX9_turn 199 = .ok (.lastore, 1) := by decide +kernel
theorem dX9_turn_200 : decode cX9_turn 200 = .ok (.iinc 2 1, 3) := by decide +kernel
theorem dX9_turn_203 : decode cX9_turn 203 = .ok (.goto (-30), 3) := by decide +kernel
theorem dX9_turn_206 : decode cX9_turn 206 = .ok (.aload_n 0, 1) := by decide +kernel
theorem dX9_turn_207 : decode cX9_turn 207 = .ok (.iload_n 1, 1) := by decide +kernel
theorem dX9_turn_208 : decode cX9_turn 208 = .ok (.iload_n 1, 1) := by decide +kernel
theorem dX9_turn_209 : decode cX9_turn 209 = .ok (.invokevirtual 198, 3) := by decide +kernel
theorem dX9_turn_212 : decode cX9_turn 212 = .ok (.lreturn, 1) := by decide +kernel
theorem dX9_told_0 : decode cX9_told 0 = .ok (.aload_n 0, 1) := by decide +kernel
theorem dX9_told_1 : decode cX9_told 1 = .ok (.iload_n 1, 1) := by decide +kernel
theorem dX9_told_2 : decode cX9_told 2 = .ok (.invokevirtual 179, 3) := by decide +kernel
theorem dX9_told_5 : decode cX9_told 5 = .ok (.ifCond .eq 7, 3) := by decide +kernel
theorem dX9_told_8 : decode cX9_told 8 = .ok (.ldc2_w 183, 3) := by decide +kernel
theorem dX9_told_11 : decode cX9_told 11 = .ok (.lreturn, 1) := by decide +kernel
theorem dX9_told_12 : decode cX9_told 12 = .ok (.iload_n 2, 1) := by decide +kernel
theorem dX9_told_13 : decode cX9_told 13 = .ok (.tableswitch 88 0 4 #[35, 43, 51, 66, 74], 35) := by decide +kernel
theorem dX9_told_48 : decode cX9_told 48 = .ok (.aload_n 0, 1) := by decide +kernel
theorem dX9_told_49 : decode cX9_told 49 = .ok (.getfield 13, 3) := by decide +kernel
theorem dX9_told_52 : decode cX9_told 52 = .ok (.iload_n 1, 1) := by decide +kernel
theorem dX9_told_53 : decode cX9_told 53 = .ok (.iaload, 1) := by decide +kernel
theorem dX9_told_54 : decode cX9_told 54 = .ok (.i2l, 1) := by decide +kernel
theorem dX9_told_55 : decode cX9_told 55 = .ok (.lreturn, 1) := by decide +kernel
theorem dX9_told_56 : decode cX9_told 56 = .ok (.aload_n 0, 1) := by decide +kernel
theorem dX9_told_57 : decode cX9_told 57 = .ok (.getfield 17, 3) := by decide +kernel
theorem dX9_told_60 : decode cX9_told 60 = .ok (.iload_n 1, 1) := by decide +kernel
theorem dX9_told_61 : decode cX9_told 61 = .ok (.iaload, 1) := by decide +kernel
theorem dX9_told_62 : decode cX9_told 62 = .ok (.i2l, 1) := by decide +kernel
theorem dX9_told_63 : decode cX9_told 63 = .ok (.lreturn, 1) := by decide +kernel
theorem dX9_told_64 : decode cX9_told 64 = .ok (.aload_n 0, 1) := by decide +kernel
theorem dX9_told_65 : decode cX9_told 65 = .ok (.getfield 20, 3) := by decide +kernel
theorem dX9_told_68 : decode cX9_told 68 = .ok (.iload_n 1, 1) := by decide +kernel
theorem dX9_told_69 : decode cX9_told 69 = .ok (.baload, 1) := by decide +kernel
theorem dX9_told_70 : decode cX9_told 70 = .ok (.ifCond .eq 7, 3) := by decide +kernel
theorem dX9_told_73 : decode cX9_told 73 = .ok (.lconst 1, 1) := by decide +kernel
theorem dX9_told_74 : decode cX9_told 74 = .ok (.goto 4, 3) := by decide +kernel
theorem dX9_told_77 : decode cX9_told 77 = .ok (.lconst 0, 1) := by decide +kernel
theorem dX9_told_78 : decode cX9_told 78 = .ok (.lreturn, 1) := by decide +kernel
theorem dX9_told_79 : decode cX9_told 79 = .ok (.aload_n 0, 1) := by decide +kernel
theorem dX9_told_80 : decode cX9_told 80 = .ok (.getfield 27, 3) := by decide +kernel
theorem dX9_told_83 : decode cX9_told 83 = .ok (.iload_n 1, 1) := by decide +kernel
theorem dX9_told_84 : decode cX9_told 84 = .ok (.iaload, 1) := by decide +kernel
theorem dX9_told_85 : decode cX9_told 85 = .ok (.i2l, 1) := by decide +kernel
theorem dX9_told_86 : decode cX9_told 86 = .ok (.lreturn, 1) := by decide +kernel
theorem dX9_told_87 : decode cX9_told 87 = .ok (.aload_n 0, 1) := by decide +kernel
theorem dX9_told_88 : decode cX9_told 88 = .ok (.iload_n 1, 1) := by decide +kernel
theorem dX9_told_89 : decode cX9_told 89 = .ok (.invokevirtual 249, 3) := by decide +kernel
theorem dX9_told_92 : decode cX9_told 92 = .ok (.ifCond .eq 7, 3) := by decide +kernel
theorem dX9_told_95 : decode cX9_told 95 = .ok (.lconst 1, 1) := by decide +kernel
theorem dX9_told_96 : decode cX9_told 96 = .ok (.goto 4, 3) := by decide +kernel
theorem dX9_told_99 : decode cX9_told 99 = .ok (.lconst 0, 1) := by decide +kernel
theorem dX9_told_100 : decode cX9_told 100 = .ok (.lreturn, 1) := by decide +kernel
theorem dX9_told_101 : decode cX9_told 101 = .ok (.ldc2_w 109, 3) := by decide +kernel
theorem dX9_told_104 : decode cX9_told 104 = .ok (.lreturn, 1) := by decide +kernel
theorem dX9_round_0 : decode cX9_round 0 = .ok (.aload_n 0, 1) := by decide +kernel
theorem dX9_round_1 : decode cX9_round 1 = .ok (.iload_n 1, 1) := by decide +kernel
theorem dX9_round_2 : decode cX9_round 2 = .ok (.invokevirtual 179, 3) := by decide +kernel
theorem dX9_round_5 : decode cX9_round 5 = .ok (.ifCond .eq 7, 3) := by decide +kernel
theorem dX9_round_8 : decode cX9_round 8 = .ok (.ldc2_w 183, 3) := by decide +kernel
theorem dX9_round_11 : decode cX9_round 11 = .ok (.lreturn, 1) := by decide +kernel
theorem dX9_round_12 : decode cX9_round 12 = .ok (.iload_n 2, 1) := by decide +kernel
theorem dX9_round_13 : decode cX9_round 13 = .ok (.i2l, 1) := by decide +kernel
theorem dX9_round_14 : decode cX9_round 14 = .ok (.lconst 0, 1) := by decide +kernel
theorem dX9_round_15 : decode cX9_round 15 = .ok (.lconst 1, 1) := by decide +kernel
theorem dX9_round_16 : decode cX9_round 16 = .ok (.invokestatic 75, 3) := by decide +kernel
theorem dX9_round_19 : decode cX9_round 19 = .ok (.ifCond .ne 7, 3) := by decide +kernel
theorem dX9_round_22 : decode cX9_round 22 = .ok (.ldc2_w 109, 3) := by decide +kernel
theorem dX9_round_25 : decode cX9_round 25 = .ok (.lreturn, 1) := by decide +kernel
theorem dX9_round_26 : decode cX9_round 26 = .ok (.aload_n 0, 1) := by decide +kernel
theorem dX9_round_27 : decode cX9_round 27 = .ok (.getfield 13, 3) := by decide +kernel
theorem dX9_round_30 : decode cX9_round 30 = .ok (.iload_n 1, 1) := by decide +kernel
theorem dX9_round_31 : decode cX9_round 31 = .ok (.iaload, 1) := by decide +kernel
theorem dX9_round_32 : decode cX9_round 32 = .ok (.iconst 1, 1) := by decide +kernel
theorem dX9_round_33 : decode cX9_round 33 = .ok (.if_icmp .eq 7, 3) := by decide +kernel
theorem dX9_round_36 : decode cX9_round 36 = .ok (.ldc2_w 143, 3) := by decide +kernel
theorem dX9_round_39 : decode cX9_round 39 = .ok (.lreturn, 1) := by decide +kernel
theorem dX9_round_40 : decode cX9_round 40 = .ok (.iconst 0, 1) := by decide +kernel
theorem dX9_round_41 : decode cX9_round 41 = .ok (.istore_n 3, 1) := by decide +kernel
theorem dX9_round_42 : decode cX9_round 42 = .ok (.iload_n 3, 1) := by decide +kernel
theorem dX9_round_43 : decode cX9_round 43 = .ok (.bipush 60, 2) := by decide +kernel
theorem dX9_round_45 : decode cX9_round 45 = .ok (.if_icmp .ge 96, 3) := by decide +kernel
theorem dX9_round_48 : decode cX9_round 48 = .ok (.iload_n 3, 1) := by decide +kernel
theorem dX9_round_49 : decode cX9_round 49 = .ok (.iconst 1, 1) := by decide +kernel
theorem dX9_round_50 : decode cX9_round 50 = .ok (.iadd, 1) := by decide +kernel
theorem dX9_round_51 : decode cX9_round 51 = .ok (.istore 4, 2) := by decide +kernel
theorem dX9_round_53 : decode cX9_round 53 = .ok (.iload 4, 2) := by decide +kernel
theorem dX9_round_55 : decode cX9_round 55 = .ok (.bipush 60, 2) := by decide +kernel
theorem dX9_round_57 : decode cX9_round 57 = .ok (.if_icmp .gt 78, 3) := by decide +kernel
theorem dX9_round_60 : decode cX9_round 60 = .ok (.aload_n 0, 1) := by decide +kernel
theorem dX9_round_61 : decode cX9_round 61 = .ok (.getfield 33, 3) := by decide +kernel
theorem dX9_round_64 : decode cX9_round 64 = .ok (.bipush 61, 2) := by decide +kernel
theorem dX9_round_66 : decode cX9_round 66 = .ok (.iload_n 1, 1) := by decide +kernel
theorem dX9_round_67 : decode cX9_round 67 = .ok (.imul, 1) := by decide +kernel
theorem dX9_round_68 : decode cX9_round 68 = .ok (.iload_n 3, 1) := by decide +kernel
theorem dX9_round_69 : decode cX9_round 69 = .ok (.iadd, 1) := by decide +kernel
theorem dX9_round_70 : decode cX9_round 70 = .ok (.laload, 1) := by decide +kernel
theorem dX9_round_71 : decode cX9_round 71 = .ok (.aload_n 0, 1) := by decide +kernel
theorem dX9_round_72 : decode cX9_round 72 = .ok (.getfield 33, 3) := by decide +kernel
theorem dX9_round_75 : decode cX9_round 75 = .ok (.bipush 61, 2) := by decide +kernel
theorem dX9_round_77 : decode cX9_round 77 = .ok (.iload_n 1, 1) := by decide +kernel
theorem dX9_round_78 : decode cX9_round 78 = .ok (.imul, 1) := by decide +kernel
theorem dX9_round_79 : decode cX9_round 79 = .ok (.iload 4, 2) := by decide +kernel
theorem dX9_round_81 : decode cX9_round 81 = .ok (.iadd, 1) := by decide +kernel
theorem dX9_round_82 : decode cX9_round 82 = .ok (.laload, 1) := by decide +kernel
theorem dX9_round_83 : decode cX9_round 83 = .ok (.lcmp, 1) := by decide +kernel
theorem dX9_round_84 : decode cX9_round 84 = .ok (.ifCond .ne 45, 3) := by decide +kernel
theorem dX9_round_87 : decode cX9_round 87 = .ok (.aload_n 0, 1) := by decide +kernel
theorem dX9_round_88 : decode cX9_round 88 = .ok (.getfield 36, 3) := by decide +kernel
theorem dX9_round_91 : decode cX9_round 91 = .ok (.bipush 61, 2) := by decide +kernel
theorem dX9_round_93 : decode cX9_round 93 = .ok (.iload_n 1, 1) := by decide +kernel
theorem dX9_round_94 : decode cX9_round 94 = .ok (.imul, 1) := by decide +kernel
theorem dX9_round_95 : decode cX9_round 95 = .ok (.iload_n 3, 1) := by decide +kernel
theorem dX9_round_96 : decode cX9_round 96 = .ok (.iadd, 1) := by decide +kernel
theorem dX9_round_97 : decode cX9_round 97 = .ok (.laload, 1) := by decide +kernel
theorem dX9_round_98 : decode cX9_round 98 = .ok (.aload_n 0, 1) := by decide +kernel
theorem dX9_round_99 : decode cX9_round 99 = .ok (.getfield 36, 3) := by decide +kernel
theorem dX9_round_102 : decode cX9_round 102 = .ok (.bipush 61, 2) := by decide +kernel
theorem dX9_round_104 : decode cX9_round 104 = .ok (.iload_n 1, 1) := by decide +kernel
theorem dX9_round_105 : decode cX9_round 105 = .ok (.imul, 1) := by decide +kernel
theorem dX9_round_106 : decode cX9_round 106 = .ok (.iload 4, 2) := by decide +kernel
theorem dX9_round_108 : decode cX9_round 108 = .ok (.iadd, 1) := by decide +kernel
theorem dX9_round_109 : decode cX9_round 109 = .ok (.laload, 1) := by decide +kernel
theorem dX9_round_110 : decode cX9_round 110 = .ok (.lcmp, 1) := by decide +kernel
theorem dX9_round_111 : decode cX9_round 111 = .ok (.ifCond .ne 18, 3) := by decide +kernel
theorem dX9_round_114 : decode cX9_round 114 = .ok (.iload_n 2, 1) := by decide +kernel
theorem dX9_round_115 : decode cX9_round 115 = .ok (.ifCond .ne 8, 3) := by decide +kernel
theorem dX9_round_118 : decode cX9_round 118 = .ok (.iload_n 3, 1) := by decide +kernel
theorem dX9_round_119 : decode cX9_round 119 = .ok (.i2l, 1) := by decide +kernel
theorem dX9_round_120 : decode cX9_round 120 = .ok (.goto 8, 3) := by decide +kernel
theorem dX9_round_123 : decode cX9_round 123 = .ok (.iload 4, 2) := by decide +kernel
theorem dX9_round_125 : decode cX9_round 125 = .ok (.iload_n 3, 1) := by decide +kernel
theorem dX9_round_126 : decode cX9_round 126 = .ok (.isub, 1) := by decide +kernel
theorem dX9_round_127 : decode cX9_round 127 = .ok (.i2l, 1) := by decide +kernel
theorem dX9_round_128 : decode cX9_round 128 = .ok (.lreturn, 1) := by decide +kernel
theorem dX9_round_129 : decode cX9_round 129 = .ok (.iinc 4 1, 3) := by decide +kernel
theorem dX9_round_132 : decode cX9_round 132 = .ok (.goto (-79), 3) := by decide +kernel
theorem dX9_round_135 : decode cX9_round 135 = .ok (.iinc 3 1, 3) := by decide +kernel
theorem dX9_round_138 : decode cX9_round 138 = .ok (.goto (-96), 3) := by decide +kernel
theorem dX9_round_141 : decode cX9_round 141 = .ok (.ldc2_w 255, 3) := by decide +kernel
theorem dX9_round_144 : decode cX9_round 144 = .ok (.lreturn, 1) := by decide +kernel
theorem dX9_sign_0 : decode cX9_sign 0 = .ok (.aload_n 0, 1) := by decide +kernel
theorem dX9_sign_1 : decode cX9_sign 1 = .ok (.iload_n 1, 1) := by decide +kernel
theorem dX9_sign_2 : decode cX9_sign 2 = .ok (.invokevirtual 179, 3) := by decide +kernel
theorem dX9_sign_5 : decode cX9_sign 5 = .ok (.ifCond .eq 7, 3) := by decide +kernel
theorem dX9_sign_8 : decode cX9_sign 8 = .ok (.ldc2_w 183, 3) := by decide +kernel
theorem dX9_sign_11 : decode cX9_sign 11 = .ok (.lreturn, 1) := by decide +kernel
theorem dX9_sign_12 : decode cX9_sign 12 = .ok (.aload_n 0, 1) := by decide +kernel
theorem dX9_sign_13 : decode cX9_sign 13 = .ok (.getfield 17, 3) := by decide +kernel
theorem dX9_sign_16 : decode cX9_sign 16 = .ok (.iload_n 1, 1) := by decide +kernel
theorem dX9_sign_17 : decode cX9_sign 17 = .ok (.iaload, 1) := by decide +kernel
theorem dX9_sign_18 : decode cX9_sign 18 = .ok (.ifCond .ne 7, 3) := by decide +kernel
theorem dX9_sign_21 : decode cX9_sign 21 = .ok (.ldc2_w 255, 3) := by decide +kernel
theorem dX9_sign_24 : decode cX9_sign 24 = .ok (.lreturn, 1) := by decide +kernel
theorem dX9_sign_25 : decode cX9_sign 25 = .ok (.aload_n 0, 1) := by decide +kernel
theorem dX9_sign_26 : decode cX9_sign 26 = .ok (.getfield 23, 3) := by decide +kernel
theorem dX9_sign_29 : decode cX9_sign 29 = .ok (.bipush 60, 2) := by decide +kernel
theorem dX9_sign_31 : decode cX9_sign 31 = .ok (.iload_n 1, 1) := by decide +kernel
theorem dX9_sign_32 : decode cX9_sign 32 = .ok (.imul, 1) := by decide +kernel
theorem dX9_sign_33 : decode cX9_sign 33 = .ok (.laload, 1) := by decide +kernel
theorem dX9_sign_34 : decode cX9_sign 34 = .ok (.lstore_n 2, 1) := by decide +kernel
theorem dX9_sign_35 : decode cX9_sign 35 = .ok (.lload_n 2, 1) := by decide +kernel
theorem dX9_sign_36 : decode cX9_sign 36 = .ok (.lconst 0, 1) := by decide +kernel
theorem dX9_sign_37 : decode cX9_sign 37 = .ok (.lcmp, 1) := by decide +kernel
theorem dX9_sign_38 : decode cX9_sign 38 = .ok (.ifCond .eq 17, 3) := by decide +kernel
theorem dX9_sign_41 : decode cX9_sign 41 = .ok (.lload_n 2, 1) := by decide +kernel
theorem dX9_sign_42 : decode cX9_sign 42 = .ok (.lconst 0, 1) := by decide +kernel
theorem dX9_sign_43 : decode cX9_sign 43 = .ok (.lcmp, 1) := by decide +kernel
theorem dX9_sign_44 : decode cX9_sign 44 = .ok (.ifCond .ge 9, 3) := by decide +kernel
theorem dX9_sign_47 : decode cX9_sign 47 = .ok (.ldc2_w 149, 3) := by decide +kernel
theorem dX9_sign_50 : decode cX9_sign 50 = .ok (.goto 4, 3) := by decide +kernel
theorem dX9_sign_53 : decode cX9_sign 53 = .ok (.lconst 1, 1) := by decide +kernel
theorem dX9_sign_54 : decode cX9_sign 54 = .ok (.lreturn, 1) := by decide +kernel
theorem dX9_sign_55 : decode cX9_sign 55 = .ok (.aload_n 0, 1) := by decide +kernel
theorem dX9_sign_56 : decode cX9_sign 56 = .ok (.getfield 17, 3) := by decide +kernel
theorem dX9_sign_59 : decode cX9_sign 59 = .ok (.iload_n 1, 1) := by decide +kernel
theorem dX9_sign_60 : decode cX9_sign 60 = .ok (.iaload, 1) := by decide +kernel
theorem dX9_sign_61 : decode cX9_sign 61 = .ok (.iconst 1, 1) := by decide +kernel
theorem dX9_sign_62 : decode cX9_sign 62 = .ok (.if_icmp .le 7, 3) := by decide +kernel
theorem dX9_sign_65 : decode cX9_sign 65 = .ok (.lconst 1, 1) := by decide +kernel
theorem dX9_sign_66 : decode cX9_sign 66 = .ok (.goto 19, 3) := by decide +kernel
theorem dX9_sign_69 : decode cX9_sign 69 = .ok (.aload_n 0, 1) := by decide +kernel
theorem dX9_sign_70 : decode cX9_sign 70 = .ok (.getfield 20, 3) := by decide +kernel
theorem dX9_sign_73 : decode cX9_sign 73 = .ok (.iload_n 1, 1) := by decide +kernel
theorem dX9_sign_74 : decode cX9_sign 74 = .ok (.baload, 1) := by decide +kernel
theorem dX9_sign_75 : decode cX9_sign 75 = .ok (.ifCond .eq 7, 3) := by decide +kernel
theorem dX9_sign_78 : decode cX9_sign 78 = .ok (.lconst 0, 1) := by decide +kernel
theorem dX9_sign_79 : decode cX9_sign 79 = .ok (.goto 6, 3) := by decide +kernel
theorem dX9_sign_82 : decode cX9_sign 82 = .ok (.ldc2_w 255, 3) := by decide +kernel
theorem dX9_sign_85 : decode cX9_sign 85 = .ok (.lreturn, 1) := by decide +kernel
abbrev eX9_round (G : GG) (R : Int64 × AH) : EE := eM G 5 (some .long) false 2 46 0 0 (some (.long R.1)) R.2
theorem wX9_round_114 (G : GG) (hG : GT G) (R : Int64 × AH) (l2 : Int32) (l3 : Int32) (l4 : Int32) (h : AH) (X : fX9_round_114 l2 l3 l4 h = some R) : AW (eX9_round G R) RX9 cX9_round 114 [none, none, some (.int l2), some (.int l3), some (.int l4)] [] h 0 0 := by
  unfold fX9_round_114 at X
  refine r_ild2 115 dX9_round_114 rfl ?_
  refine r_if_ne 123 118 dX9_round_115 (by decide) rfl X (fun _ X => ?_) (fun _ X => ?_)
  · refine r_ild4 125 dX9_round_123 rfl ?_
    refine r_ild3 126 dX9_round_125 rfl ?_
    refine r_isub 127 dX9_round_126 rfl ?_
    refine r_i2l 128 dX9_round_127 rfl ?_
    exact r_retL dX9_round_128 (Nat.zero_le _) (Nat.zero_le _) X
  · refine r_ild3 119 dX9_round_118 rfl ?_
    refine r_i2l 120 dX9_round_119 rfl ?_
    refine r_goto 128 dX9_round_120 (by decide) ?_
    exact r_retL dX9_round_128 (Nat.zero_le _) (Nat.zero_le _) X
theorem wX9_round_53 (G : GG) (hG : GT G) (R : Int64 × AH) {K42 : Nat → Int32 → Int32 → Int32 → AH → Fn Int64} {K53 : Nat → Int32 → Int32 → Int32 → Int32 → AH → Fn Int64} (hK42 : ∀ (l0 : Nat) (l1 : Int32) (l2 : Int32) (l3 : Int32) (h : AH), K42 l0 l1 l2 l3 h = some R → AW (eX9_round G R) RX9 cX9_round 42 [some (.ref (gB G + l0)), some (.int l1), some (.int l2), some (.int l3), none] [] h 0 0) (hK53 : ∀ (l0 : Nat) (l1 : Int32) (l2 : Int32) (l3 : Int32) (l4 : Int32) (h : AH), K53 l0 l1 l2 l3 l4 h = some R → AW (eX9_round G R) RX9 cX9_round 53 [some (.ref (gB G + l0)), some (.int l1), some (.int l2), some (.int l3), some (.int l4)] [] h 0 0) (l0 : Nat) (l1 : Int32) (l2 : Int32) (l3 : Int32) (l4 : Int32) (h : AH) (X : fX9_round_53 K42 K53 l0 l1 l2 l3 l4 h = some R) : AW (eX9_round G R) RX9 cX9_round 53 [some (.ref (gB G + l0)), some (.int l1), some (.int l2), some (.int l3), some (.int l4)] [] h 0 0 := by
  unfold fX9_round_53 at X
  refine r_ild4 55 dX9_round_53 rfl ?_
  refine r_bipush 57 _ dX9_round_55 rfl kb_60 ?_
  refine r_icmp_gt 135 60 dX9_round_57 (by decide) rfl X (fun _ X => ?_) (fun _ X => ?_)
  · refine r_iinc3w 138 dX9_round_135 rfl rfl ki_1 X (fun x101 X => ?_)
    refine r_goto 42 dX9_round_138 (by decide) ?_
    exact r_cut (hK42 _ _ _ _ _ X) ⟨rfl, ⟨rfl, ⟨rfl, ⟨rfl, trivial⟩⟩⟩⟩
  · refine r_ald0 61 dX9_round_60 rfl ?_
    refine r_gR 64 dX9_round_61 rfl lfX9_33 rfl X (fun b102 X => ?_)
    refine r_bipush 66 _ dX9_round_64 rfl kb_61 ?_
    refine r_ild1 67 dX9_round_66 rfl ?_
    refine r_imul 68 dX9_round_67 rfl ?_
    refine r_ild3 69 dX9_round_68 rfl ?_
    refine r_iadd 70 dX9_round_69 rfl ?_
    refine r_aL 71 1 dX9_round_70 rfl rfl X (fun x103 X => ?_)
    refine r_ald0 72 dX9_round_71 rfl ?_
    refine r_gR 75 dX9_round_72 rfl lfX9_33 rfl X (fun b104 X => ?_)
    refine r_bipush 77 _ dX9_round_75 rfl kb_61 ?_
    refine r_ild1 78 dX9_round_77 rfl ?_
    refine r_imul 79 dX9_round_78 rfl ?_
    refine r_ild4 81 dX9_round_79 rfl ?_
    refine r_iadd 82 dX9_round_81 rfl ?_
    refine r_aL 83 1 dX9_round_82 rfl rfl X (fun x105 X => ?_)
    refine r_lif_ne 129 87 dX9_round_83 dX9_round_84 (by decide) rfl X (fun _ X => ?_) (fun _ X => ?_)
    · refine r_iinc4w 132 dX9_round_129 rfl rfl ki_1 X (fun x106 X => ?_)
      refine r_goto 53 dX9_round_132 (by decide) ?_
      exact r_cut (hK53 _ _ _ _ _ _ X) ⟨rfl, ⟨rfl, ⟨rfl, ⟨rfl, ⟨rfl, trivial⟩⟩⟩⟩⟩
    · refine r_ald0 88 dX9_round_87 rfl ?_
      refine r_gR 91 dX9_round_88 rfl lfX9_36 rfl X (fun b107 X => ?_)
      refine r_bipush 93 _ dX9_round_91 rfl kb_61 ?_
      refine r_ild1 94 dX9_round_93 rfl ?_
      refine r_imul 95 dX9_round_94 rfl ?_
      refine r_ild3 96 dX9_round_95 rfl ?_
      refine r_iadd 97 dX9_round_96 rfl ?_
      refine r_aL 98 1 dX9_round_97 rfl rfl X (fun x108 X => ?_)
      refine r_ald0 99 dX9_round_98 rfl ?_
      refine r_gR 102 dX9_round_99 rfl lfX9_36 rfl X (fun b109 X => ?_)
      refine r_bipush 104 _ dX9_round_102 rfl kb_61 ?_
      refine r_ild1 105 dX9_round_104 rfl ?_
      refine r_imul 106 dX9_round_105 rfl ?_
      refine r_ild4 108 dX9_round_106 rfl ?_
      refine r_iadd 109 dX9_round_108 rfl ?_
      refine r_aL 110 1 dX9_round_109 rfl rfl X (fun x110 X => ?_)
      refine r_lif_ne 129 114 dX9_round_110 dX9_round_111 (by decide) rfl X (fun _ X => ?_) (fun _ X => ?_)
      · refine r_iinc4w 132 dX9_round_129 rfl rfl ki_1 X (fun x111 X => ?_)
        refine r_goto 53 dX9_round_132 (by decide) ?_
        exact r_cut (hK53 _ _ _ _ _ _ X) ⟨rfl, ⟨rfl, ⟨rfl, ⟨rfl, ⟨rfl, trivial⟩⟩⟩⟩⟩
      · exact r_cut (wX9_round_114 G hG R _ _ _ _ X) ⟨rfl, ⟨rfl, ⟨rfl, trivial⟩⟩⟩
theorem wX9_round_53L (G : GG) (hG : GT G) (R : Int64 × AH) {K42 : Nat → Int32 → Int32 → Int32 → AH → Fn Int64} (hK42 : ∀ (l0 : Nat) (l1 : Int32) (l2 : Int32) (l3 : Int32) (h : AH), K42 l0 l1 l2 l3 h = some R → AW (eX9_round G R) RX9 cX9_round 42 [some (.ref (gB G + l0)), some (.int l1), some (.int l2), some (.int l3), none] [] h 0 0) : ∀ (m : Nat) (l0 : Nat) (l1 : Int32) (l2 : Int32) (l3 : Int32) (l4 : Int32) (h : AH), fX9_round_53L K42 m l0 l1 l2 l3 l4 h = some R → AW (eX9_round G R) RX9 cX9_round 53 [some (.ref (gB G + l0)), some (.int l1), some (.int l2), some (.int l3), some (.int l4)] [] h 0 0 := by
  intro m
  induction m with
  | zero => intro l0 l1 l2 l3 l4 h X; exact nomatch (show (none : Fn Int64) = some R from X)
  | succ m ih => intro l0 l1 l2 l3 l4 h X; exact wX9_round_53 G hG R hK42 ih l0 l1 l2 l3 l4 h X
theorem wX9_round_42 (G : GG) (hG : GT G) (R : Int64 × AH) {K42 : Nat → Int32 → Int32 → Int32 → AH → Fn Int64} (hK42 : ∀ (l0 : Nat) (l1 : Int32) (l2 : Int32) (l3 : Int32) (h : AH), K42 l0 l1 l2 l3 h = some R → AW (eX9_round G R) RX9 cX9_round 42 [some (.ref (gB G + l0)), some (.int l1), some (.int l2), some (.int l3), none] [] h 0 0) (l0 : Nat) (l1 : Int32) (l2 : Int32) (l3 : Int32) (h : AH) (X : fX9_round_42 K42 l0 l1 l2 l3 h = some R) : AW (eX9_round G R) RX9 cX9_round 42 [some (.ref (gB G + l0)), some (.int l1), some (.int l2), some (.int l3), none] [] h 0 0 := by
  unfold fX9_round_42 at X
  refine r_ild3 43 dX9_round_42 rfl ?_
  refine r_bipush 45 _ dX9_round_43 rfl kb_60 ?_
  refine r_icmp_ge 141 48 dX9_round_45 (by decide) rfl X (fun _ X => ?_) (fun _ X => ?_)
  · refine r_ldc2 144 dX9_round_141 rfl lkX9_255 ?_
    exact r_retL dX9_round_144 (Nat.zero_le _) (Nat.zero_le _) X
  · refine r_ild3 49 dX9_round_48 rfl ?_
    refine r_iconst 50 _ dX9_round_49 rfl ki_1 ?_
    refine r_iadd 51 dX9_round_50 rfl ?_
    refine r_ist4w 53 dX9_round_51 rfl rfl X (fun x101 X => ?_)
    exact r_cut (wX9_round_53L G hG R hK42 1000 _ _ _ _ _ _ X) ⟨rfl, ⟨rfl, ⟨rfl, ⟨rfl, ⟨rfl, trivial⟩⟩⟩⟩⟩
theorem wX9_round_42L (G : GG) (hG : GT G) (R : Int64 × AH) : ∀ (m : Nat) (l0 : Nat) (l1 : Int32) (l2 : Int32) (l3 : Int32) (h : AH), fX9_round_42L m l0 l1 l2 l3 h = some R → AW (eX9_round G R) RX9 cX9_round 42 [some (.ref (gB G + l0)), some (.int l1), some (.int l2), some (.int l3), none] [] h 0 0 := by
  intro m
  induction m with
  | zero => intro l0 l1 l2 l3 h X; exact nomatch (show (none : Fn Int64) = some R from X)
  | succ m ih => intro l0 l1 l2 l3 h X; exact wX9_round_42 G hG R ih l0 l1 l2 l3 h X
theorem wX9_round (G : GG) (hG : GT G) (R : Int64 × AH) (a0 : Nat) (x0 : Int32) (x1 : Int32) (h : AH) (X : fX9_round a0 x0 x1 h = some R) : AW (eX9_round G R) RX9 cX9_round 0 [some (.ref (gB G + a0)), some (.int x0), some (.int x1), none, none] [] h 0 0 := by
  unfold fX9_round at X
  refine r_ald0 1 dX9_round_0 rfl ?_
  refine r_ild1 2 dX9_round_1 rfl ?_
  obtain ⟨hs, X⟩ := r_cv X
  obtain ⟨x102, h101, hc, X⟩ := bnd_ok X
  refine r_callV1 5 dX9_round_2 rfl lmX9_179 hs (mtX9_noStream G hG hc) rfl ⟨(Nat.zero_le _), (Nat.zero_le _)⟩ ?_
  refine r_if_eq 12 8 dX9_round_5 (by decide) rfl X (fun _ X => ?_) (fun _ X => ?_)
  · refine r_ild2 13 dX9_round_12 rfl ?_
    refine r_i2l 14 dX9_round_13 rfl ?_
    refine r_lconst 15 _ dX9_round_14 rfl kl_0 ?_
    refine r_lconst 16 _ dX9_round_15 rfl kl_1 ?_
    obtain ⟨x104, h103, hc, X⟩ := bnd_ok X
    refine r_callS3 19 dX9_round_16 rfl lmX9_75 (mtX9_in G hG hc) rfl ⟨(Nat.zero_le _), (Nat.zero_le _)⟩ ?_
    refine r_if_ne 26 22 dX9_round_19 (by decide) rfl X (fun _ X => ?_) (fun _ X => ?_)
    · refine r_ald0 27 dX9_round_26 rfl ?_
      refine r_gR 30 dX9_round_27 rfl lfX9_13 rfl X (fun b105 X => ?_)
      refine r_ild1 31 dX9_round_30 rfl ?_
      refine r_aI 32 0 dX9_round_31 rfl rfl X (fun x106 X => ?_)
      refine r_iconst 33 _ dX9_round_32 rfl ki_1 ?_
      refine r_icmp_eq 40 36 dX9_round_33 (by decide) rfl X (fun _ X => ?_) (fun _ X => ?_)
      · refine r_iconst 41 _ dX9_round_40 rfl ki_0 ?_
        refine r_ist3 42 dX9_round_41 rfl rfl ?_
        exact r_cut (wX9_round_42L G hG R 1000 _ _ _ _ _ X) ⟨rfl, ⟨rfl, ⟨rfl, ⟨rfl, trivial⟩⟩⟩⟩
      · refine r_ldc2 39 dX9_round_36 rfl lkX9_143 ?_
        exact r_retL dX9_round_39 (Nat.zero_le _) (Nat.zero_le _) X
    · refine r_ldc2 25 dX9_round_22 rfl lkX9_109 ?_
      exact r_retL dX9_round_25 (Nat.zero_le _) (Nat.zero_le _) X
  · refine r_ldc2 11 dX9_round_8 rfl lkX9_183 ?_
    exact r_retL dX9_round_11 (Nat.zero_le _) (Nat.zero_le _) X
theorem mtX9_round (G : GG) (hG : GT G) {a0 : Nat} {x0 : Int32} {x1 : Int32} {h h' : AH} {v : Int64} (hc : fX9_round a0 x0 x1 h = some (v, h')) : AMet G yX9_round cX9_round 5 (some .long) 2 46 0 0 [.ref (gB G + a0), .int x0, .int x1] h (some (.long v)) h' :=
  amet_of false [some (.ref (gB G + a0)), some (.int x0), some (.int x1), none, none] (by decide +kernel) (by decide) (Nat.le_of_ble_eq_true rfl) rfl (Nat.le_of_ble_eq_true rfl) (wX9_round G hG (v, h') _ _ _ h hc)
abbrev eX9_row (G : GG) (R : Int64 × AH) : EE := eM G 3 (some .long) false 1 25 0 0 (some (.long R.1)) R.2
theorem wX9_row (G : GG) (hG : GT G) (R : Int64 × AH) (a0 : Nat) (x0 : Int32) (x1 : Int32) (h : AH) (X : fX9_row a0 x0 x1 h = some R) : AW (eX9_row G R) RX9 cX9_row 0 [some (.ref (gB G + a0)), some (.int x0), some (.int x1)] [] h 0 0 := by
  unfold fX9_row at X
  refine r_ild1 1 dX9_row_0 rfl ?_
  refine r_i2l 2 dX9_row_1 rfl ?_
  refine r_lconst 3 _ dX9_row_2 rfl kl_1 ?_
  refine r_ldc2 6 dX9_row_3 rfl lkX9_136 ?_
  obtain ⟨x102, h101, hc, X⟩ := bnd_ok X
  refine r_callS3 9 dX9_row_6 rfl lmX9_75 (mtX9_in G hG hc) rfl ⟨(Nat.zero_le _), (Nat.zero_le _)⟩ ?_
  refine r_if_eq 24 12 dX9_row_9 (by decide) rfl X (fun _ X => ?_) (fun _ X => ?_)
  · refine r_ldc2 27 dX9_row_24 rfl lkX9_109 ?_
    exact r_retL dX9_row_27 (Nat.zero_le _) (Nat.zero_le _) X
  · refine r_ild2 13 dX9_row_12 rfl ?_
    refine r_i2l 14 dX9_row_13 rfl ?_
    refine r_lconst 15 _ dX9_row_14 rfl kl_0 ?_
    refine r_ldc2 18 dX9_row_15 rfl lkX9_136 ?_
    obtain ⟨x104, h103, hc, X⟩ := bnd_ok X
    refine r_callS3 21 dX9_row_18 rfl lmX9_75 (mtX9_in G hG hc) rfl ⟨(Nat.zero_le _), (Nat.zero_le _)⟩ ?_
    refine r_if_ne 28 24 dX9_row_21 (by decide) rfl X (fun _ X => ?_) (fun _ X => ?_)
    · refine r_ald0 29 dX9_row_28 rfl ?_
      refine r_gI 32 dX9_row_29 rfl lfX9_138 rfl X (fun x105 X => ?_)
      refine r_bipush 34 _ dX9_row_32 rfl kb_8 ?_
      refine r_icmp_ne 41 37 dX9_row_34 (by decide) rfl X (fun _ X => ?_) (fun _ X => ?_)
      · refine r_ald0 42 dX9_row_41 rfl ?_
        refine r_gR 45 dX9_row_42 rfl lfX9_39 rfl X (fun b106 X => ?_)
        refine r_ald0 46 dX9_row_45 rfl ?_
        refine r_gI 49 dX9_row_46 rfl lfX9_138 rfl X (fun x107 X => ?_)
        refine r_ild1 50 dX9_row_49 rfl ?_
        refine r_zI 51 0 dX9_row_50 rfl rfl X (fun h108 X => ?_)
        refine r_ald0 52 dX9_row_51 rfl ?_
        refine r_gR 55 dX9_row_52 rfl lfX9_42 rfl X (fun b109 X => ?_)
        refine r_ald0 56 dX9_row_55 rfl ?_
        refine r_gI 59 dX9_row_56 rfl lfX9_138 rfl X (fun x110 X => ?_)
        refine r_ild2 60 dX9_row_59 rfl ?_
        refine r_zI 61 0 dX9_row_60 rfl rfl X (fun h111 X => ?_)
        refine r_ald0 62 dX9_row_61 rfl ?_
        refine r_dup 63 dX9_row_62 rfl rfl ?_
        refine r_gI 66 dX9_row_63 rfl lfX9_138 rfl X (fun x112 X => ?_)
        refine r_iconst 67 _ dX9_row_66 rfl ki_1 ?_
        refine r_iadd 68 dX9_row_67 rfl ?_
        refine r_pI 71 dX9_row_68 rfl lpX9_138 rfl X (fun h113 X => ?_)
        refine r_ald0 72 dX9_row_71 rfl ?_
        refine r_gI 75 dX9_row_72 rfl lfX9_138 rfl X (fun x114 X => ?_)
        refine r_i2l 76 dX9_row_75 rfl ?_
        exact r_retL dX9_row_76 (Nat.zero_le _) (Nat.zero_le _) X
      · refine r_ldc2 40 dX9_row_37 rfl lkX9_111 ?_
        exact r_retL dX9_row_40 (Nat.zero_le _) (Nat.zero_le _) X
    · refine r_ldc2 27 dX9_row_24 rfl lkX9_109 ?_
      exact r_retL dX9_row_27 (Nat.zero_le _) (Nat.zero_le _) X
theorem mtX9_row (G : GG) (hG : GT G) {a0 : Nat} {x0 : Int32} {x1 : Int32} {h h' : AH} {v : Int64} (hc : fX9_row a0 x0 x1 h = some (v, h')) : AMet G yX9_row cX9_row 3 (some .long) 1 25 0 0 [.ref (gB G + a0), .int x0, .int x1] h (some (.long v)) h' :=
  amet_of false [some (.ref (gB G + a0)), some (.int x0), some (.int x1)] (by decide +kernel) (by decide) (Nat.le_of_ble_eq_true rfl) rfl (Nat.le_of_ble_eq_true rfl) (wX9_row G hG (v, h') _ _ _ h hc)
abbrev eX9_rule (G : GG) (R : Int64 × AH) : EE := eM G 7 (some .long) false 1 25 0 0 (some (.long R.1)) R.2
theorem wX9_rule_115 (G : GG) (hG : GT G) (R : Int64 × AH) (l0 : Nat) (l2 : Int32) (h : AH) (X : fX9_rule_115 l0 l2 h = some R) : AW (eX9_rule G R) RX9 cX9_rule 115 [some (.ref (gB G + l0)), none, some (.int l2), none, none, none, none] [] h 0 0 := by
  unfold fX9_rule_115 at X
  refine r_ald0 116 dX9_rule_115 rfl ?_
  refine r_iconst 117 _ dX9_rule_116 rfl ki_0 ?_
  refine r_pI 120 dX9_rule_117 rfl lpX9_138 rfl X (fun h101 X => ?_)
  refine r_ild2 121 dX9_rule_120 rfl ?_
  refine r_i2l 122 dX9_rule_121 rfl ?_
  exact r_retL dX9_rule_122 (Nat.zero_le _) (Nat.zero_le _) X
theorem wX9_rule_57 (G : GG) (hG : GT G) (R : Int64 × AH) {K57 : Nat → Int32 → Int32 → AH → Fn Int64} (hK57 : ∀ (l0 : Nat) (l2 : Int32) (l3 : Int32) (h : AH), K57 l0 l2 l3 h = some R → AW (eX9_rule G R) RX9 cX9_rule 57 [some (.ref (gB G + l0)), none, some (.int l2), some (.int l3), none, none, none] [] h 0 0) (l0 : Nat) (l2 : Int32) (l3 : Int32) (h : AH) (X : fX9_rule_57 K57 l0 l2 l3 h = some R) : AW (eX9_rule G R) RX9 cX9_rule 57 [some (.ref (gB G + l0)), none, some (.int l2), some (.int l3), none, none, none] [] h 0 0 := by
  unfold fX9_rule_57 at X
  refine r_ild3 58 dX9_rule_57 rfl ?_
  refine r_bipush 60 _ dX9_rule_58 rfl kb_60 ?_
  refine r_icmp_ge 115 63 dX9_rule_60 (by decide) rfl X (fun _ X => ?_) (fun _ X => ?_)
  · exact r_cut (wX9_rule_115 G hG R _ _ _ X) ⟨rfl, ⟨rfl, trivial⟩⟩
  · refine r_ild3 64 dX9_rule_63 rfl ?_
    refine r_iconst 65 _ dX9_rule_64 rfl ki_1 ?_
    refine r_isub 66 dX9_rule_65 rfl ?_
    refine r_ald0 67 dX9_rule_66 rfl ?_
    refine r_gI 70 dX9_rule_67 rfl lfX9_138 rfl X (fun x101 X => ?_)
    refine r_irem 71 dX9_rule_70 rfl X (fun X => ?_)
    refine r_ist4w 73 dX9_rule_71 rfl rfl X (fun x102 X => ?_)
    refine r_ild3 74 dX9_rule_73 rfl ?_
    refine r_iconst 75 _ dX9_rule_74 rfl ki_1 ?_
    refine r_isub 76 dX9_rule_75 rfl ?_
    refine r_ald0 77 dX9_rule_76 rfl ?_
    refine r_gI 80 dX9_rule_77 rfl lfX9_138 rfl X (fun x103 X => ?_)
    refine r_idiv 81 dX9_rule_80 rfl X (fun X => ?_)
    refine r_i2l 82 dX9_rule_81 rfl ?_
    refine r_lst5w 84 dX9_rule_82 rfl rfl X (fun x104 X => ?_)
    refine r_ald0 85 dX9_rule_84 rfl ?_
    refine r_ild2 86 dX9_rule_85 rfl ?_
    refine r_ald0 87 dX9_rule_86 rfl ?_
    refine r_gR 90 dX9_rule_87 rfl lfX9_39 rfl X (fun b105 X => ?_)
    refine r_ild4 92 dX9_rule_90 rfl ?_
    refine r_aI 93 0 dX9_rule_92 rfl rfl X (fun x106 X => ?_)
    refine r_i2l 94 dX9_rule_93 rfl ?_
    refine r_lld5 96 dX9_rule_94 rfl ?_
    refine r_ald0 97 dX9_rule_96 rfl ?_
    refine r_gR 100 dX9_rule_97 rfl lfX9_42 rfl X (fun b107 X => ?_)
    refine r_ild4 102 dX9_rule_100 rfl ?_
    refine r_aI 103 0 dX9_rule_102 rfl rfl X (fun x108 X => ?_)
    refine r_i2l 104 dX9_rule_103 rfl ?_
    refine r_lmul 105 dX9_rule_104 rfl ?_
    refine r_ladd 106 dX9_rule_105 rfl ?_
    obtain ⟨hs, X⟩ := r_cv X
    obtain ⟨_, h109, hc, X⟩ := bnd_ok X
    refine r_callV2v 109 dX9_rule_106 rfl lmX9_94 hs (mtX9_give G hG hc) rfl ⟨(Nat.zero_le _), (Nat.zero_le _)⟩ ?_
    refine r_iinc3w 112 dX9_rule_109 rfl rfl ki_1 X (fun x110 X => ?_)
    refine r_goto 57 dX9_rule_112 (by decide) ?_
    exact r_cut (hK57 _ _ _ _ X) ⟨rfl, ⟨rfl, ⟨rfl, trivial⟩⟩⟩
theorem wX9_rule_57L (G : GG) (hG : GT G) (R : Int64 × AH) : ∀ (m : Nat) (l0 : Nat) (l2 : Int32) (l3 : Int32) (h : AH), fX9_rule_57L m l0 l2 l3 h = some R → AW (eX9_rule G R) RX9 cX9_rule 57 [some (.ref (gB G + l0)), none, some (.int l2), some (.int l3), none, none, none] [] h 0 0 := by
  intro m
  induction m with
  | zero => intro l0 l2 l3 h X; exact nomatch (show (none : Fn Int64) = some R from X)
  | succ m ih => intro l0 l2 l3 h X; exact wX9_rule_57 G hG R ih l0 l2 l3 h X
theorem wX9_rule (G : GG) (hG : GT G) (R : Int64 × AH) (a0 : Nat) (x0 : Int32) (h : AH) (X : fX9_rule a0 x0 h = some R) : AW (eX9_rule G R) RX9 cX9_rule 0 [some (.ref (gB G + a0)), some (.int x0), none, none, none, none, none] [] h 0 0 := by
  unfold fX9_rule at X
  refine r_ild1 1 dX9_rule_0 rfl ?_
  refine r_i2l 2 dX9_rule_1 rfl ?_
  refine r_ldc2 5 dX9_rule_2 rfl lkX9_141 ?_
  refine r_ldc2 8 dX9_rule_5 rfl lkX9_136 ?_
  obtain ⟨x102, h101, hc, X⟩ := bnd_ok X
  refine r_callS3 11 dX9_rule_8 rfl lmX9_75 (mtX9_in G hG hc) rfl ⟨(Nat.zero_le _), (Nat.zero_le _)⟩ ?_
  refine r_if_ne 18 14 dX9_rule_11 (by decide) rfl X (fun _ X => ?_) (fun _ X => ?_)
  · refine r_ald0 19 dX9_rule_18 rfl ?_
    refine r_gI 22 dX9_rule_19 rfl lfX9_138 rfl X (fun x103 X => ?_)
    refine r_if_ne 29 25 dX9_rule_22 (by decide) rfl X (fun _ X => ?_) (fun _ X => ?_)
    · refine r_ald0 30 dX9_rule_29 rfl ?_
      refine r_gI 33 dX9_rule_30 rfl lfX9_79 rfl X (fun x104 X => ?_)
      refine r_bipush 35 _ dX9_rule_33 rfl kb_40 ?_
      refine r_icmp_ne 42 38 dX9_rule_35 (by decide) rfl X (fun _ X => ?_) (fun _ X => ?_)
      · refine r_ald0 43 dX9_rule_42 rfl ?_
        refine r_iconst 44 _ dX9_rule_43 rfl ki_2 ?_
        obtain ⟨hs, X⟩ := r_cv X
        obtain ⟨x106, h105, hc, X⟩ := bnd_ok X
        refine r_callV1 47 dX9_rule_44 rfl lmX9_83 hs (mtX9_newStream G hG hc) rfl ⟨(Nat.zero_le _), (Nat.zero_le _)⟩ ?_
        refine r_ist2 48 dX9_rule_47 rfl rfl ?_
        refine r_ald0 49 dX9_rule_48 rfl ?_
        refine r_ild2 50 dX9_rule_49 rfl ?_
        refine r_ild1 51 dX9_rule_50 rfl ?_
        refine r_i2l 52 dX9_rule_51 rfl ?_
        obtain ⟨hs, X⟩ := r_cv X
        obtain ⟨_, h107, hc, X⟩ := bnd_ok X
        refine r_callV2v 55 dX9_rule_52 rfl lmX9_94 hs (mtX9_give G hG hc) rfl ⟨(Nat.zero_le _), (Nat.zero_le _)⟩ ?_
        refine r_iconst 56 _ dX9_rule_55 rfl ki_1 ?_
        refine r_ist3 57 dX9_rule_56 rfl rfl ?_
        exact r_cut (wX9_rule_57L G hG R 1000 _ _ _ _ X) ⟨rfl, ⟨rfl, ⟨rfl, trivial⟩⟩⟩
      · refine r_ldc2 41 dX9_rule_38 rfl lkX9_111 ?_
        exact r_retL dX9_rule_41 (Nat.zero_le _) (Nat.zero_le _) X
    · refine r_ldc2 28 dX9_rule_25 rfl lkX9_143 ?_
      exact r_retL dX9_rule_28 (Nat.zero_le _) (Nat.zero_le _) X
  · refine r_ldc2 17 dX9_rule_14 rfl lkX9_109 ?_
    exact r_retL dX9_rule_17 (Nat.zero_le _) (Nat.zero_le _) X
theorem mtX9_rule (G : GG) (hG : GT G) {a0 : Nat} {x0 : Int32} {h h' : AH} {v : Int64} (hc : fX9_rule a0 x0 h = some (v, h')) : AMet G yX9_rule cX9_rule 7 (some .long) 1 25 0 0 [.ref (gB G + a0), .int x0] h (some (.long v)) h' :=
  amet_of false [some (.ref (gB G + a0)), some (.int x0), none, none, none, none, none] (by decide +kernel) (by decide) (Nat.le_of_ble_eq_true rfl) rfl (Nat.le_of_ble_eq_true rfl) (wX9_rule G hG (v, h') _ _ h hc)
abbrev eX9_sign (G : GG) (R : Int64 × AH) : EE := eM G 4 (some .long) false 2 46 0 0 (some (.long R.1)) R.2
theorem wX9_sign (G : GG) (hG : GT G) (R : Int64 × AH) (a0 : Nat) (x0 : Int32) (h : AH) (X : fX9_sign a0 x0 h = some R) : AW (eX9_sign G R) RX9 cX9_sign 0 [some (.ref (gB G + a0)), some (.int x0), none, none] [] h 0 0 := by
  unfold fX9_sign at X
  refine r_ald0 1 dX9_sign_0 rfl ?_
  refine r_ild1 2 dX9_sign_1 rfl ?_
  obtain ⟨hs, X⟩ := r_cv X
  obtain ⟨x102, h101, hc, X⟩ := bnd_ok X
  refine r_callV1 5 dX9_sign_2 rfl lmX9_179 hs (mtX9_noStream G hG hc) rfl ⟨(Nat.zero_le _), (Nat.zero_le _)⟩ ?_
  refine r_if_eq 12 8 dX9_sign_5 (by decide) rfl X (fun _ X => ?_) (fun _ X => ?_)
  · refine r_ald0 13 dX9_sign_12 rfl ?_
    refine r_gR 16 dX9_sign_13 rfl lfX9_17 rfl X (fun b103 X => ?_)
    refine r_ild1 17 dX9_sign_16 rfl ?_
    refine r_aI 18 0 dX9_sign_17 rfl rfl X (fun x104 X => ?_)
    refine r_if_ne 25 21 dX9_sign_18 (by decide) rfl X (fun _ X => ?_) (fun _ X => ?_)
    · refine r_ald0 26 dX9_sign_25 rfl ?_
      refine r_gR 29 dX9_sign_26 rfl lfX9_23 rfl X (fun b105 X => ?_)
      refine r_bipush 31 _ dX9_sign_29 rfl kb_60 ?_
      refine r_ild1 32 dX9_sign_31 rfl ?_
      refine r_imul 33 dX9_sign_32 rfl ?_
      refine r_aL 34 1 dX9_sign_33 rfl rfl X (fun x106 X => ?_)
      refine r_lst2 35 dX9_sign_34 rfl rfl ?_
      refine r_lld2 36 dX9_sign_35 rfl ?_
      refine r_lconst 37 _ dX9_sign_36 rfl kl_0 ?_
      refine r_lif_eq 55 41 dX9_sign_37 dX9_sign_38 (by decide) rfl X (fun _ X => ?_) (fun _ X => ?_)
      · refine r_ald0 56 dX9_sign_55 rfl ?_
        refine r_gR 59 dX9_sign_56 rfl lfX9_17 rfl X (fun b107 X => ?_)
        refine r_ild1 60 dX9_sign_59 rfl ?_
        refine r_aI 61 0 dX9_sign_60 rfl rfl X (fun x108 X => ?_)
        refine r_iconst 62 _ dX9_sign_61 rfl ki_1 ?_
        refine r_icmp_le 69 65 dX9_sign_62 (by decide) rfl X (fun _ X => ?_) (fun _ X => ?_)
        · refine r_ald0 70 dX9_sign_69 rfl ?_
          refine r_gR 73 dX9_sign_70 rfl lfX9_20 rfl X (fun b109 X => ?_)
          refine r_ild1 74 dX9_sign_73 rfl ?_
          refine r_aZ 75 2 dX9_sign_74 rfl rfl X (fun x110 X => ?_)
          refine r_if_eq 82 78 dX9_sign_75 (by decide) rfl X (fun _ X => ?_) (fun _ X => ?_)
          · refine r_ldc2 85 dX9_sign_82 rfl lkX9_255 ?_
            exact r_retL dX9_sign_85 (Nat.zero_le _) (Nat.zero_le _) X
          · refine r_lconst 79 _ dX9_sign_78 rfl kl_0 ?_
            refine r_goto 85 dX9_sign_79 (by decide) ?_
            exact r_retL dX9_sign_85 (Nat.zero_le _) (Nat.zero_le _) X
        · refine r_lconst 66 _ dX9_sign_65 rfl kl_1 ?_
          refine r_goto 85 dX9_sign_66 (by decide) ?_
          exact r_retL dX9_sign_85 (Nat.zero_le _) (Nat.zero_le _) X
      · refine r_lld2 42 dX9_sign_41 rfl ?_
        refine r_lconst 43 _ dX9_sign_42 rfl kl_0 ?_
        refine r_lif_ge 53 47 dX9_sign_43 dX9_sign_44 (by decide) rfl X (fun _ X => ?_) (fun _ X => ?_)
        · refine r_lconst 54 _ dX9_sign_53 rfl kl_1 ?_
          exact r_retL dX9_sign_54 (Nat.zero_le _) (Nat.zero_le _) X
        · refine r_ldc2 50 dX9_sign_47 rfl lkX9_149 ?_
          refine r_goto 54 dX9_sign_50 (by decide) ?_
          exact r_retL dX9_sign_54 (Nat.zero_le _) (Nat.zero_le _) X
    · refine r_ldc2 24 dX9_sign_21 rfl lkX9_255 ?_
      exact r_retL dX9_sign_24 (Nat.zero_le _) (Nat.zero_le _) X
  · refine r_ldc2 11 dX9_sign_8 rfl lkX9_183 ?_
    exact r_retL dX9_sign_11 (Nat.zero_le _) (Nat.zero_le _) X
theorem mtX9_sign (G : GG) (hG : GT G) {a0 : Nat} {x0 : Int32} {h h' : AH} {v : Int64} (hc : fX9_sign a0 x0 h = some (v, h')) : AMet G yX9_sign cX9_sign 4 (some .long) 2 46 0 0 [.ref (gB G + a0), .int x0] h (some (.long v)) h' :=
  amet_of false [some (.ref (gB G + a0)), some (.int x0), none, none] (by decide +kernel) (by decide) (Nat.le_of_ble_eq_true rfl) rfl (Nat.le_of_ble_eq_true rfl) (wX9_sign G hG (v, h') _ _ h hc)
abbrev eX9_told (G : GG) (R : Int64 × AH) : EE := eM G 3 (some .long) false 2 46 0 0 (some (.long R.1)) R.2
theorem wX9_told (G : GG) (hG : GT G) (R : Int64 × AH) (a0 : Nat) (x0 : Int32) (x1 : Int32) (h : AH) (X : fX9_told a0 x0 x1 h = some R) : AW (eX9_told G R) RX9 cX9_told 0 [some (.ref (gB G + a0)), some (.int x0), some (.int x1)] [] h 0 0 := by
  unfold fX9_told at X
  refine r_ald0 1 dX9_told_0 rfl ?_
  refine r_ild1 2 dX9_told_1 rfl ?_
  obtain ⟨hs, X⟩ := r_cv X
  obtain ⟨x102, h101, hc, X⟩ := bnd_ok X
  refine r_callV1 5 dX9_told_2 rfl lmX9_179 hs (mtX9_noStream G hG hc) rfl ⟨(Nat.zero_le _), (Nat.zero_le _)⟩ ?_
  refine r_if_eq 12 8 dX9_told_5 (by decide) rfl X (fun _ X => ?_) (fun _ X => ?_)
  · refine r_ild2 13 dX9_told_12 rfl ?_
    refine r_case 48 0 0 35 dX9_told_13 (by decide) (by decide) (by decide) (by decide) X (fun _ X => ?_) (fun n0 X => ?_)
    · refine r_ald0 49 dX9_told_48 rfl ?_
      refine r_gR 52 dX9_told_49 rfl lfX9_13 rfl X (fun b111 X => ?_)
      refine r_ild1 53 dX9_told_52 rfl ?_
      refine r_aI 54 0 dX9_told_53 rfl rfl X (fun x112 X => ?_)
      refine r_i2l 55 dX9_told_54 rfl ?_
      exact r_retL dX9_told_55 (Nat.zero_le _) (Nat.zero_le _) X
    · refine r_case 56 1 1 43 dX9_told_13 (by decide) (by decide) (by decide) (by decide) X (fun _ X => ?_) (fun n1 X => ?_)
      · refine r_ald0 57 dX9_told_56 rfl ?_
        refine r_gR 60 dX9_told_57 rfl lfX9_17 rfl X (fun b109 X => ?_)
        refine r_ild1 61 dX9_told_60 rfl ?_
        refine r_aI 62 0 dX9_told_61 rfl rfl X (fun x110 X => ?_)
        refine r_i2l 63 dX9_told_62 rfl ?_
        exact r_retL dX9_told_63 (Nat.zero_le _) (Nat.zero_le _) X
      · refine r_case 64 2 2 51 dX9_told_13 (by decide) (by decide) (by decide) (by decide) X (fun _ X => ?_) (fun n2 X => ?_)
        · refine r_ald0 65 dX9_told_64 rfl ?_
          refine r_gR 68 dX9_told_65 rfl lfX9_20 rfl X (fun b107 X => ?_)
          refine r_ild1 69 dX9_told_68 rfl ?_
          refine r_aZ 70 2 dX9_told_69 rfl rfl X (fun x108 X => ?_)
          refine r_if_eq 77 73 dX9_told_70 (by decide) rfl X (fun _ X => ?_) (fun _ X => ?_)
          · refine r_lconst 78 _ dX9_told_77 rfl kl_0 ?_
            exact r_retL dX9_told_78 (Nat.zero_le _) (Nat.zero_le _) X
          · refine r_lconst 74 _ dX9_told_73 rfl kl_1 ?_
            refine r_goto 78 dX9_told_74 (by decide) ?_
            exact r_retL dX9_told_78 (Nat.zero_le _) (Nat.zero_le _) X
        · refine r_case 79 3 3 66 dX9_told_13 (by decide) (by decide) (by decide) (by decide) X (fun _ X => ?_) (fun n3 X => ?_)
          · refine r_ald0 80 dX9_told_79 rfl ?_
            refine r_gR 83 dX9_told_80 rfl lfX9_27 rfl X (fun b105 X => ?_)
            refine r_ild1 84 dX9_told_83 rfl ?_
            refine r_aI 85 0 dX9_told_84 rfl rfl X (fun x106 X => ?_)
            refine r_i2l 86 dX9_told_85 rfl ?_
            exact r_retL dX9_told_86 (Nat.zero_le _) (Nat.zero_le _) X
          · refine r_case 87 4 4 74 dX9_told_13 (by decide) (by decide) (by decide) (by decide) X (fun _ X => ?_) (fun n4 X => ?_)
            · refine r_ald0 88 dX9_told_87 rfl ?_
              refine r_ild1 89 dX9_told_88 rfl ?_
              obtain ⟨hs, X⟩ := r_cv X
              obtain ⟨x104, h103, hc, X⟩ := bnd_ok X
              refine r_callV1 92 dX9_told_89 rfl lmX9_249 hs (mtX9_isOpenMade G hG hc) rfl ⟨(Nat.zero_le _), (Nat.zero_le _)⟩ ?_
              refine r_if_eq 99 95 dX9_told_92 (by decide) rfl X (fun _ X => ?_) (fun _ X => ?_)
              · refine r_lconst 100 _ dX9_told_99 rfl kl_0 ?_
                exact r_retL dX9_told_100 (Nat.zero_le _) (Nat.zero_le _) X
              · refine r_lconst 96 _ dX9_told_95 rfl kl_1 ?_
                refine r_goto 100 dX9_told_96 (by decide) ?_
                exact r_retL dX9_told_100 (Nat.zero_le _) (Nat.zero_le _) X
            · refine r_default 101 dX9_told_13 (by omega) (by decide) ?_
              refine r_ldc2 104 dX9_told_101 rfl lkX9_109 ?_
              exact r_retL dX9_told_104 (Nat.zero_le _) (Nat.zero_le _) X
  · refine r_ldc2 11 dX9_told_8 rfl lkX9_183 ?_
    exact r_retL dX9_told_11 (Nat.zero_le _) (Nat.zero_le _) X
theorem mtX9_told (G : GG) (hG : GT G) {a0 : Nat} {x0 : Int32} {x1 : Int32} {h h' : AH} {v : Int64} (hc : fX9_told a0 x0 x1 h = some (v, h')) : AMet G yX9_told cX9_told 3 (some .long) 2 46 0 0 [.ref (gB G + a0), .int x0, .int x1] h (some (.long v)) h' :=
  amet_of false [some (.ref (gB G + a0)), some (.int x0), some (.int x1)] (by decide +kernel) (by decide) (Nat.le_of_ble_eq_true rfl) rfl (Nat.le_of_ble_eq_true rfl) (wX9_told G hG (v, h') _ _ _ h hc)
abbrev eX9_turn (G : GG) (R : Int64 × AH) : EE := eM G 3 (some .long) false 5 127 0 0 (some (.long R.1)) R.2
theorem wX9_turn_206 (G : GG) (hG : GT G) (R : Int64 × AH) (l0 : Nat) (l1 : Int32) (h : AH) (X : fX9_turn_206 l0 l1 h = some R) : AW (eX9_turn G R) RX9 cX9_turn 206 [some (.ref (gB G + l0)), some (.int l1), none] [] h 0 0 := by
  unfold fX9_turn_206 at X
  refine r_ald0 207 dX9_turn_206 rfl ?_
  refine r_ild1 208 dX9_turn_207 rfl ?_
  refine r_ild1 209 dX9_turn_208 rfl ?_
  obtain ⟨hs, X⟩ := r_cv X
  obtain ⟨x102, h101, hc, X⟩ := bnd_ok X
  refine r_callV2 212 dX9_turn_209 rfl lmX9_198 hs (mtX9_make G hG hc) rfl ⟨(Nat.zero_le _), (Nat.zero_le _)⟩ ?_
  exact r_retL dX9_turn_212 (Nat.zero_le _) (Nat.zero_le _) X
theorem wX9_turn_173 (G : GG) (hG : GT G) (R : Int64 × AH) {K173 : Nat → Int32 → Int32 → AH → Fn Int64} (hK173 : ∀ (l0 : Nat) (l1 : Int32) (l2 : Int32) (h : AH), K173 l0 l1 l2 h = some R → AW (eX9_turn G R) RX9 cX9_turn 173 [some (.ref (gB G + l0)), some (.int l1), some (.int l2)] [] h 0 0) (l0 : Nat) (l1 : Int32) (l2 : Int32) (h : AH) (X : fX9_turn_173 K173 l0 l1 l2 h = some R) : AW (eX9_turn G R) RX9 cX9_turn 173 [some (.ref (gB G + l0)), some (.int l1), some (.int l2)] [] h 0 0 := by
  unfold fX9_turn_173 at X
  refine r_ild2 174 dX9_turn_173 rfl ?_
  refine r_bipush 176 _ dX9_turn_174 rfl kb_8 ?_
  refine r_icmp_ge 206 179 dX9_turn_176 (by decide) rfl X (fun _ X => ?_) (fun _ X => ?_)
  · exact r_cut (wX9_turn_206 G hG R _ _ _ X) ⟨rfl, ⟨rfl, trivial⟩⟩
  · refine r_ald0 180 dX9_turn_179 rfl ?_
    refine r_gR 183 dX9_turn_180 rfl lfX9_48 rfl X (fun b101 X => ?_)
    refine r_ild2 184 dX9_turn_183 rfl ?_
    refine r_ild2 185 dX9_turn_184 rfl ?_
    refine r_iconst 186 _ dX9_turn_185 rfl ki_3 ?_
    refine r_icmp_eq 194 189 dX9_turn_186 (by decide) rfl X (fun _ X => ?_) (fun _ X => ?_)
    · refine r_lconst 195 _ dX9_turn_194 rfl kl_1 ?_
      refine r_goto 199 dX9_turn_195 (by decide) ?_
      refine r_zL 200 1 dX9_turn_199 rfl rfl X (fun h102 X => ?_)
      refine r_iinc2w 203 dX9_turn_200 rfl rfl ki_1 X (fun x103 X => ?_)
      refine r_goto 173 dX9_turn_203 (by decide) ?_
      exact r_cut (hK173 _ _ _ _ X) ⟨rfl, ⟨rfl, ⟨rfl, trivial⟩⟩⟩
    · refine r_ild2 190 dX9_turn_189 rfl ?_
      refine r_iconst 191 _ dX9_turn_190 rfl ki_5 ?_
      refine r_icmp_ne 198 194 dX9_turn_191 (by decide) rfl X (fun _ X => ?_) (fun _ X => ?_)
      · refine r_lconst 199 _ dX9_turn_198 rfl kl_0 ?_
        refine r_zL 200 1 dX9_turn_199 rfl rfl X (fun h104 X => ?_)
        refine r_iinc2w 203 dX9_turn_200 rfl rfl ki_1 X (fun x105 X => ?_)
        refine r_goto 173 dX9_turn_203 (by decide) ?_
        exact r_cut (hK173 _ _ _ _ X) ⟨rfl, ⟨rfl, ⟨rfl, trivial⟩⟩⟩
      · refine r_lconst 195 _ dX9_turn_194 rfl kl_1 ?_
        refine r_goto 199 dX9_turn_195 (by decide) ?_
        refine r_zL 200 1 dX9_turn_199 rfl rfl X (fun h106 X => ?_)
        refine r_iinc2w 203 dX9_turn_200 rfl rfl ki_1 X (fun x107 X => ?_)
        refine r_goto 173 dX9_turn_203 (by decide) ?_
        exact r_cut (hK173 _ _ _ _ X) ⟨rfl, ⟨rfl, ⟨rfl, trivial⟩⟩⟩
theorem wX9_turn_173L (G : GG) (hG : GT G) (R : Int64 × AH) : ∀ (m : Nat) (l0 : Nat) (l1 : Int32) (l2 : Int32) (h : AH), fX9_turn_173L m l0 l1 l2 h = some R → AW (eX9_turn G R) RX9 cX9_turn 173 [some (.ref (gB G + l0)), some (.int l1), some (.int l2)] [] h 0 0 := by
  intro m
  induction m with
  | zero => intro l0 l1 l2 h X; exact nomatch (show (none : Fn Int64) = some R from X)
  | succ m ih => intro l0 l1 l2 h X; exact wX9_turn_173 G hG R ih l0 l1 l2 h X
theorem wX9_turn_132 (G : GG) (hG : GT G) (R : Int64 × AH) (l0 : Nat) (l2 : Int32) (s0 : Nat) (s1 : Int32) (s2 : Int64) (s3 : Int64) (s4 : Int64) (s5 : Int64) (s6 : Int64) (s7 : Int64) (s8 : Int64) (h : AH) (X : fX9_turn_132 l0 l2 s0 s1 s2 s3 s4 s5 s6 s7 s8 h = some R) : AW (eX9_turn G R) RX9 cX9_turn 132 [some (.ref (gB G + l0)), none, some (.int l2)] [.long s8, .long s7, .long s6, .long s5, .long s4, .long s3, .long s2, .int s1, .ref (gB G + s0)] h 0 0 := by
  unfold fX9_turn_132 at X
  refine r_ild2 133 dX9_turn_132 rfl ?_
  obtain ⟨hs, X⟩ := r_cv X
  obtain ⟨_, h101, hc, X⟩ := bnd_ok X
  refine r_callV9v 136 dX9_turn_133 rfl lmX9_173 hs (mtX9_exactly G hG hc) rfl ⟨(Nat.zero_le _), (Nat.zero_le _)⟩ ?_
  refine r_ald0 137 dX9_turn_136 rfl ?_
  refine r_gI 140 dX9_turn_137 rfl lfX9_69 rfl X (fun x102 X => ?_)
  refine r_if_eq 149 143 dX9_turn_140 (by decide) rfl X (fun _ X => ?_) (fun _ X => ?_)
  · refine r_ald0 150 dX9_turn_149 rfl ?_
    refine r_ald0 151 dX9_turn_150 rfl ?_
    refine r_gL 154 dX9_turn_151 rfl lfX9_157 rfl X (fun x103 X => ?_)
    refine r_ald0 155 dX9_turn_154 rfl ?_
    refine r_gL 158 dX9_turn_155 rfl lfX9_160 rfl X (fun x104 X => ?_)
    refine r_ald0 159 dX9_turn_158 rfl ?_
    refine r_gL 162 dX9_turn_159 rfl lfX9_145 rfl X (fun x105 X => ?_)
    refine r_ald0 163 dX9_turn_162 rfl ?_
    refine r_gL 166 dX9_turn_163 rfl lfX9_163 rfl X (fun x106 X => ?_)
    obtain ⟨hs, X⟩ := r_cv X
    obtain ⟨x108, h107, hc, X⟩ := bnd_ok X
    refine r_callV4 169 dX9_turn_166 rfl lmX9_129 hs (mtX9_put G hG hc) rfl ⟨(Nat.zero_le _), (Nat.zero_le _)⟩ ?_
    refine r_i2l 170 dX9_turn_169 rfl ?_
    exact r_retL dX9_turn_170 (Nat.zero_le _) (Nat.zero_le _) X
  · refine r_ldc2 146 dX9_turn_143 rfl lkX9_177 ?_
    refine r_goto 170 dX9_turn_146 (by decide) ?_
    exact r_retL dX9_turn_170 (Nat.zero_le _) (Nat.zero_le _) X
theorem wX9_turn_110 (G : GG) (hG : GT G) (R : Int64 × AH) (l0 : Nat) (l1 : Int32) (l2 : Int32) (s0 : Nat) (s1 : Int32) (s2 : Int64) (s3 : Int64) (s4 : Int64) (s5 : Int64) (s6 : Int64) (s7 : Nat) (s8 : Int32) (s9 : Int32) (h : AH) (X : fX9_turn_110 l0 l1 l2 s0 s1 s2 s3 s4 s5 s6 s7 s8 s9 h = some R) : AW (eX9_turn G R) RX9 cX9_turn 110 [some (.ref (gB G + l0)), some (.int l1), some (.int l2)] [.int s9, .int s8, .ref (gB G + s7), .long s6, .long s5, .long s4, .long s3, .long s2, .int s1, .ref (gB G + s0)] h 0 0 := by
  unfold fX9_turn_110 at X
  refine r_iadd 111 dX9_turn_110 rfl ?_
  refine r_aL 112 1 dX9_turn_111 rfl rfl X (fun x101 X => ?_)
  refine r_ild2 113 dX9_turn_112 rfl ?_
  refine r_if_eq 129 116 dX9_turn_113 (by decide) rfl X (fun _ X => ?_) (fun _ X => ?_)
  · refine r_ldc2 132 dX9_turn_129 rfl lkX9_102 ?_
    exact r_cut (wX9_turn_132 G hG R _ _ _ _ _ _ _ _ _ _ _ _ X) ⟨rfl, ⟨rfl, trivial⟩⟩
  · refine r_ald0 117 dX9_turn_116 rfl ?_
    refine r_gR 120 dX9_turn_117 rfl lfX9_30 rfl X (fun b102 X => ?_)
    refine r_iconst 121 _ dX9_turn_120 rfl ki_4 ?_
    refine r_ild1 122 dX9_turn_121 rfl ?_
    refine r_imul 123 dX9_turn_122 rfl ?_
    refine r_iconst 124 _ dX9_turn_123 rfl ki_2 ?_
    refine r_iadd 125 dX9_turn_124 rfl ?_
    refine r_aL 126 1 dX9_turn_125 rfl rfl X (fun x103 X => ?_)
    refine r_goto 132 dX9_turn_126 (by decide) ?_
    exact r_cut (wX9_turn_132 G hG R _ _ _ _ _ _ _ _ _ _ _ _ X) ⟨rfl, ⟨rfl, trivial⟩⟩
theorem wX9_turn_62 (G : GG) (hG : GT G) (R : Int64 × AH) (l0 : Nat) (l1 : Int32) (s0 : Int32) (h : AH) (X : fX9_turn_62 l0 l1 s0 h = some R) : AW (eX9_turn G R) RX9 cX9_turn 62 [some (.ref (gB G + l0)), some (.int l1), none] [.int s0] h 0 0 := by
  unfold fX9_turn_62 at X
  refine r_ist2 63 dX9_turn_62 rfl rfl ?_
  refine r_ald0 64 dX9_turn_63 rfl ?_
  refine r_iconst 65 _ dX9_turn_64 rfl ki_3 ?_
  refine r_lconst 66 _ dX9_turn_65 rfl kl_1 ?_
  refine r_lconst 67 _ dX9_turn_66 rfl kl_0 ?_
  refine r_lconst 68 _ dX9_turn_67 rfl kl_1 ?_
  refine r_ald0 69 dX9_turn_68 rfl ?_
  refine r_gR 72 dX9_turn_69 rfl lfX9_30 rfl X (fun b101 X => ?_)
  refine r_iconst 73 _ dX9_turn_72 rfl ki_4 ?_
  refine r_ild1 74 dX9_turn_73 rfl ?_
  refine r_imul 75 dX9_turn_74 rfl ?_
  refine r_aL 76 1 dX9_turn_75 rfl rfl X (fun x102 X => ?_)
  refine r_ild2 77 dX9_turn_76 rfl ?_
  refine r_if_eq 93 80 dX9_turn_77 (by decide) rfl X (fun _ X => ?_) (fun _ X => ?_)
  · refine r_lconst 94 _ dX9_turn_93 rfl kl_0 ?_
    refine r_ald0 95 dX9_turn_94 rfl ?_
    refine r_gR 98 dX9_turn_95 rfl lfX9_30 rfl X (fun b103 X => ?_)
    refine r_iconst 99 _ dX9_turn_98 rfl ki_4 ?_
    refine r_ild1 100 dX9_turn_99 rfl ?_
    refine r_imul 101 dX9_turn_100 rfl ?_
    refine r_ild2 102 dX9_turn_101 rfl ?_
    refine r_if_eq 109 105 dX9_turn_102 (by decide) rfl X (fun _ X => ?_) (fun _ X => ?_)
    · refine r_iconst 110 _ dX9_turn_109 rfl ki_1 ?_
      exact r_cut (wX9_turn_110 G hG R _ _ _ _ _ _ _ _ _ _ _ _ _ _ X) ⟨rfl, ⟨rfl, ⟨rfl, trivial⟩⟩⟩
    · refine r_iconst 106 _ dX9_turn_105 rfl ki_3 ?_
      refine r_goto 110 dX9_turn_106 (by decide) ?_
      exact r_cut (wX9_turn_110 G hG R _ _ _ _ _ _ _ _ _ _ _ _ _ _ X) ⟨rfl, ⟨rfl, ⟨rfl, trivial⟩⟩⟩
  · refine r_ald0 81 dX9_turn_80 rfl ?_
    refine r_gR 84 dX9_turn_81 rfl lfX9_30 rfl X (fun b104 X => ?_)
    refine r_iconst 85 _ dX9_turn_84 rfl ki_4 ?_
    refine r_ild1 86 dX9_turn_85 rfl ?_
    refine r_imul 87 dX9_turn_86 rfl ?_
    refine r_iconst 88 _ dX9_turn_87 rfl ki_1 ?_
    refine r_iadd 89 dX9_turn_88 rfl ?_
    refine r_aL 90 1 dX9_turn_89 rfl rfl X (fun x105 X => ?_)
    refine r_goto 94 dX9_turn_90 (by decide) ?_
    refine r_ald0 95 dX9_turn_94 rfl ?_
    refine r_gR 98 dX9_turn_95 rfl lfX9_30 rfl X (fun b106 X => ?_)
    refine r_iconst 99 _ dX9_turn_98 rfl ki_4 ?_
    refine r_ild1 100 dX9_turn_99 rfl ?_
    refine r_imul 101 dX9_turn_100 rfl ?_
    refine r_ild2 102 dX9_turn_101 rfl ?_
    refine r_if_eq 109 105 dX9_turn_102 (by decide) rfl X (fun _ X => ?_) (fun _ X => ?_)
    · refine r_iconst 110 _ dX9_turn_109 rfl ki_1 ?_
      exact r_cut (wX9_turn_110 G hG R _ _ _ _ _ _ _ _ _ _ _ _ _ _ X) ⟨rfl, ⟨rfl, ⟨rfl, trivial⟩⟩⟩
    · refine r_iconst 106 _ dX9_turn_105 rfl ki_3 ?_
      refine r_goto 110 dX9_turn_106 (by decide) ?_
      exact r_cut (wX9_turn_110 G hG R _ _ _ _ _ _ _ _ _ _ _ _ _ _ X) ⟨rfl, ⟨rfl, ⟨rfl, trivial⟩⟩⟩
theorem wX9_turn (G : GG) (hG : GT G) (R : Int64 × AH) (a0 : Nat) (x0 : Int32) (h : AH) (X : fX9_turn a0 x0 h = some R) : AW (eX9_turn G R) RX9 cX9_turn 0 [some (.ref (gB G + a0)), some (.int x0), none] [] h 0 0 := by
  unfold fX9_turn at X
  refine r_ald0 1 dX9_turn_0 rfl ?_
  refine r_ild1 2 dX9_turn_1 rfl ?_
  obtain ⟨hs, X⟩ := r_cv X
  obtain ⟨x102, h101, hc, X⟩ := bnd_ok X
  refine r_callV1 5 dX9_turn_2 rfl lmX9_179 hs (mtX9_noStream G hG hc) rfl ⟨(Nat.zero_le _), (Nat.zero_le _)⟩ ?_
  refine r_if_eq 12 8 dX9_turn_5 (by decide) rfl X (fun _ X => ?_) (fun _ X => ?_)
  · refine r_ald0 13 dX9_turn_12 rfl ?_
    refine r_ild1 14 dX9_turn_13 rfl ?_
    obtain ⟨hs, X⟩ := r_cv X
    obtain ⟨x104, h103, hc, X⟩ := bnd_ok X
    refine r_callV1 17 dX9_turn_14 rfl lmX9_187 hs (mtX9_isNought G hG hc) rfl ⟨(Nat.zero_le _), (Nat.zero_le _)⟩ ?_
    refine r_if_eq 24 20 dX9_turn_17 (by decide) rfl X (fun _ X => ?_) (fun _ X => ?_)
    · refine r_ald0 25 dX9_turn_24 rfl ?_
      refine r_gI 28 dX9_turn_25 rfl lfX9_79 rfl X (fun x105 X => ?_)
      refine r_bipush 30 _ dX9_turn_28 rfl kb_40 ?_
      refine r_icmp_ne 37 33 dX9_turn_30 (by decide) rfl X (fun _ X => ?_) (fun _ X => ?_)
      · refine r_ald0 38 dX9_turn_37 rfl ?_
        refine r_gR 41 dX9_turn_38 rfl lfX9_13 rfl X (fun b106 X => ?_)
        refine r_ild1 42 dX9_turn_41 rfl ?_
        refine r_aI 43 0 dX9_turn_42 rfl rfl X (fun x107 X => ?_)
        refine r_iconst 44 _ dX9_turn_43 rfl ki_2 ?_
        refine r_icmp_ge 171 47 dX9_turn_44 (by decide) rfl X (fun _ X => ?_) (fun _ X => ?_)
        · refine r_iconst 172 _ dX9_turn_171 rfl ki_0 ?_
          refine r_ist2 173 dX9_turn_172 rfl rfl ?_
          exact r_cut (wX9_turn_173L G hG R 1000 _ _ _ _ X) ⟨rfl, ⟨rfl, ⟨rfl, trivial⟩⟩⟩
        · refine r_ald0 48 dX9_turn_47 rfl ?_
          refine r_gR 51 dX9_turn_48 rfl lfX9_13 rfl X (fun b108 X => ?_)
          refine r_ild1 52 dX9_turn_51 rfl ?_
          refine r_aI 53 0 dX9_turn_52 rfl rfl X (fun x109 X => ?_)
          refine r_iconst 54 _ dX9_turn_53 rfl ki_1 ?_
          refine r_icmp_ne 61 57 dX9_turn_54 (by decide) rfl X (fun _ X => ?_) (fun _ X => ?_)
          · refine r_iconst 62 _ dX9_turn_61 rfl ki_0 ?_
            exact r_cut (wX9_turn_62 G hG R _ _ _ _ X) ⟨rfl, ⟨rfl, trivial⟩⟩
          · refine r_iconst 58 _ dX9_turn_57 rfl ki_1 ?_
            refine r_goto 62 dX9_turn_58 (by decide) ?_
            exact r_cut (wX9_turn_62 G hG R _ _ _ _ X) ⟨rfl, ⟨rfl, trivial⟩⟩
      · refine r_ldc2 36 dX9_turn_33 rfl lkX9_111 ?_
        exact r_retL dX9_turn_36 (Nat.zero_le _) (Nat.zero_le _) X
    · refine r_ldc2 23 dX9_turn_20 rfl lkX9_143 ?_
      exact r_retL dX9_turn_23 (Nat.zero_le _) (Nat.zero_le _) X
  · refine r_ldc2 11 dX9_turn_8 rfl lkX9_183 ?_
    exact r_retL dX9_turn_11 (Nat.zero_le _) (Nat.zero_le _) X
theorem mtX9_turn (G : GG) (hG : GT G) {a0 : Nat} {x0 : Int32} {h h' : AH} {v : Int64} (hc : fX9_turn a0 x0 h = some (v, h')) : AMet G yX9_turn cX9_turn 3 (some .long) 5 127 0 0 [.ref (gB G + a0), .int x0] h (some (.long v)) h' :=
  amet_of false [some (.ref (gB G + a0)), some (.int x0), none] (by decide +kernel) (by decide) (Nat.le_of_ble_eq_true rfl) rfl (Nat.le_of_ble_eq_true rfl) (wX9_turn G hG (v, h') _ _ h hc)
