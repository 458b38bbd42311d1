theorem dX0_init_0 : decode cX0_init 0 = .ok (.aload_n 0, 1) := by decide +kernel
theorem dX0_init_1 : decode cX0_init 1 = .ok (.invokespecial 3, 3) := by decide +kernel
theorem dX0_init_4 : decode cX0_init 4 = .ok (.aload_n 0, 1) := by decide +kernel
theorem dX0_init_5 : decode cX0_init 5 = .ok (.lconst 0, 1) := by decide +kernel
theorem dX0_init_6 : decode cX0_init 6 = .ok (.putfield 9, 3) := by decide +kernel
theorem dX0_init_9 : decode cX0_init 9 = .ok (.aload_n 0, 1) := by decide +kernel
theorem dX0_init_10 : decode cX0_init 10 = .ok (.lconst 0, 1) := by decide +kernel
theorem dX0_init_11 : decode cX0_init 11 = .ok (.putfield 15, 3) := by decide +kernel
theorem dX0_init_14 : decode cX0_init 14 = .ok (.aload_n 0, 1) := by decide +kernel
theorem dX0_init_15 : decode cX0_init 15 = .ok (.lconst 0, 1) := by decide +kernel
theorem dX0_init_16 : decode cX0_init 16 = .ok (.putfield 18, 3) := by decide +kernel
theorem dX0_init_19 : decode cX0_init 19 = .ok (.aload_n 0, 1) := by decide +kernel
theorem dX0_init_20 : decode cX0_init 20 = .ok (.lconst 0, 1) := by decide +kernel
theorem dX0_init_21 : decode cX0_init 21 = .ok (.putfield 21, 3) := by decide +kernel
theorem dX0_init_24 : decode cX0_init 24 = .ok (.return_, 1) := by decide +kernel
theorem dX0_ofRatio_0 : decode cX0_ofRatio 0 = .ok (.aload_n 2, 1) := by decide +kernel
theorem dX0_ofRatio_1 : decode cX0_ofRatio 1 = .ok (.getfield 24, 3) := by decide +kernel
theorem dX0_ofRatio_4 : decode cX0_ofRatio 4 = .ok (.aload_n 1, 1) := by decide +kernel
theorem dX0_ofRatio_5 : decode cX0_ofRatio 5 = .ok (.getfield 30, 3) := by decide +kernel
theorem dX0_ofRatio_8 : decode cX0_ofRatio 8 = .ok (.if_icmp .ge 7, 3) := by decide +kernel
theorem dX0_ofRatio_11 : decode cX0_ofRatio 11 = .ok (.ldc2_w 35, 3) := by decide +kernel
theorem dX0_ofRatio_14 : decode cX0_ofRatio 14 = .ok (.lreturn, 1) := by decide +kernel
theorem dX0_ofRatio_15 : decode cX0_ofRatio 15 = .ok (.aload_n 2, 1) := by decide +kernel
theorem dX0_ofRatio_16 : decode cX0_ofRatio 16 = .ok (.aload_n 2, 1) := by decide +kernel
theorem dX0_ofRatio_17 : decode cX0_ofRatio 17 = .ok (.getfield 24, 3) := by decide +kernel
theorem dX0_ofRatio_20 : decode cX0_ofRatio 20 = .ok (.iconst 1, 1) := by decide +kernel
theorem dX0_ofRatio_21 : decode cX0_ofRatio 21 = .ok (.isub, 1) := by decide +kernel
theorem dX0_ofRatio_22 : decode cX0_ofRatio 22 = .ok (.invokevirtual 37, 3) := by decide +kernel
theorem dX0_ofRatio_25 : decode cX0_ofRatio 25 = .ok (.lstore 5, 2) := by decide +kernel
theorem dX0_ofRatio_27 : decode cX0_ofRatio 27 = .ok (.ldc2_w 41, 3) := by decide +kernel
theorem dX0_ofRatio_30 : decode cX0_ofRatio 30 = .ok (.lload 5, 2) := by decide +kernel
theorem dX0_ofRatio_32 : decode cX0_ofRatio 32 = .ok (.invokestatic 43, 3) := by decide +kernel
theorem dX0_ofRatio_35 : decode cX0_ofRatio 35 = .ok (.invokestatic 47, 3) := by decide +kernel
theorem dX0_ofRatio_38 : decode cX0_ofRatio 38 = .ok (.ifCond .eq 7, 3) := by decide +kernel
theorem dX0_ofRatio_41 : decode cX0_ofRatio 41 = .ok (.ldc2_w 35, 3) := by decide +kernel
theorem dX0_ofRatio_44 : decode cX0_ofRatio 44 = .ok (.lreturn, 1) := by decide +kernel
theorem dX0_ofRatio_45 : decode cX0_ofRatio 45 = .ok (.aload_n 0, 1) := by decide +kernel
theorem dX0_ofRatio_46 : decode cX0_ofRatio 46 = .ok (.aload_n 2, 1) := by decide +kernel
theorem dX0_ofRatio_47 : decode cX0_ofRatio 47 = .ok (.aload_n 2, 1) := by decide +kernel
theorem dX0_ofRatio_48 : decode cX0_ofRatio 48 = .ok (.getfield 24, 3) := by decide +kernel
theorem dX0_ofRatio_51 : decode cX0_ofRatio 51 = .ok (.iconst 1, 1) := by decide +kernel
theorem dX0_ofRatio_52 : decode cX0_ofRatio 52 = .ok (.isub, 1) := by decide +kernel
theorem dX0_ofRatio_53 : decode cX0_ofRatio 53 = .ok (.invokevirtual 51, 3) := by decide +kernel
theorem dX0_ofRatio_56 : decode cX0_ofRatio 56 = .ok (.lload 5, 2) := by decide +kernel
theorem dX0_ofRatio_58 : decode cX0_ofRatio 58 = .ok (.invokevirtual 54, 3) := by decide +kernel
theorem dX0_ofRatio_61 : decode cX0_ofRatio 61 = .ok (.iconst 1, 1) := by decide +kernel
theorem dX0_ofRatio_62 : decode cX0_ofRatio 62 = .ok (.istore 7, 2) := by decide +kernel
theorem dX0_ofRatio_64 : decode cX0_ofRatio 64 = .ok (.iload 7, 2) := by decide +kernel
theorem dX0_ofRatio_66 : decode cX0_ofRatio 66 = .ok (.iload 4, 2) := by decide +kernel
theorem dX0_ofRatio_68 : decode cX0_ofRatio 68 = .ok (.if_icmp .gt 22, 3) := by decide +kernel
theorem dX0_ofRatio_71 : decode cX0_ofRatio 71 = .ok (.aload_n 0, 1) := by decide +kernel
theorem dX0_ofRatio_72 : decode cX0_ofRatio 72 = .ok (.aload_n 0, 1) := by decide +kernel
theorem dX0_ofRatio_73 : decode cX0_ofRatio 73 = .ok (.getfield 15, 3) := by decide +kernel
theorem dX0_ofRatio_76 : decode cX0_ofRatio 76 = .ok (.iload_n 3, 1) := by decide +kernel
theorem dX0_ofRatio_77 : decode cX0_ofRatio 77 = .ok (.i2l, 1) := by decide +kernel
theorem dX0_ofRatio_78 : decode cX0_ofRatio 78 = .ok (.lmul, 1) := by decide +kernel
theorem dX0_ofRatio_79 : decode cX0_ofRatio 79 = .ok (.lload 5, 2) := by decide +kernel
theorem dX0_ofRatio_81 : decode cX0_ofRatio 81 = .ok (.invokevirtual 54, 3) := by decide +kernel
theorem dX0_ofRatio_84 : decode cX0_ofRatio 84 = .ok (.iinc 7 1, 3) := by decide +kernel
theorem dX0_ofRatio_87 : decode cX0_ofRatio 87 = .ok (.goto (-23), 3) := by decide +kernel
theorem dX0_ofRatio_90 : decode cX0_ofRatio 90 = .ok (.aload_n 0, 1) := by decide +kernel
theorem dX0_ofRatio_91 : decode cX0_ofRatio 91 = .ok (.getfield 9, 3) := by decide +kernel
theorem dX0_ofRatio_94 : decode cX0_ofRatio 94 = .ok (.lreturn, 1) := by decide +kernel
theorem dX0_ofSpan_0 : decode cX0_ofSpan 0 = .ok (.aload_n 1, 1) := by decide +kernel
theorem dX0_ofSpan_1 : decode cX0_ofSpan 1 = .ok (.invokevirtual 58, 3) := by decide +kernel
theorem dX0_ofSpan_4 : decode cX0_ofSpan 4 = .ok (.istore 4, 2) := by decide +kernel
theorem dX0_ofSpan_6 : decode cX0_ofSpan 6 = .ok (.iload 4, 2) := by decide +kernel
theorem dX0_ofSpan_8 : decode cX0_ofSpan 8 = .ok (.ifCond .ge 7, 3) := by decide +kernel
theorem dX0_ofSpan_11 : decode cX0_ofSpan 11 = .ok (.ldc2_w 62, 3) := by decide +kernel
theorem dX0_ofSpan_14 : decode cX0_ofSpan 14 = .ok (.lreturn, 1) := by decide +kernel
theorem dX0_ofSpan_15 : decode cX0_ofSpan 15 = .ok (.iload 4, 2) := by decide +kernel
theorem dX0_ofSpan_17 : decode cX0_ofSpan 17 = .ok (.iconst 2, 1) := by decide +kernel
theorem dX0_ofSpan_18 : decode cX0_ofSpan 18 = .ok (.irem, 1) := by decide +kernel
theorem dX0_ofSpan_19 : decode cX0_ofSpan 19 = .ok (.ifCond .ne 7, 3) := by decide +kernel
theorem dX0_ofSpan_22 : decode cX0_ofSpan 22 = .ok (.iconst 1, 1) := by decide +kernel
theorem dX0_ofSpan_23 : decode cX0_ofSpan 23 = .ok (.goto 4, 3) := by decide +kernel
theorem dX0_ofSpan_26 : decode cX0_ofSpan 26 = .ok (.iconst 0, 1) := by decide +kernel
theorem dX0_ofSpan_27 : decode cX0_ofSpan 27 = .ok (.istore 5, 2) := by decide +kernel
theorem dX0_ofSpan_29 : decode cX0_ofSpan 29 = .ok (.aload_n 1, 1) := by decide +kernel
theorem dX0_ofSpan_30 : decode cX0_ofSpan 30 = .ok (.iload 4, 2) := by decide +kernel
theorem dX0_ofSpan_32 : decode cX0_ofSpan 32 = .ok (.invokevirtual 51, 3) := by decide +kernel
theorem dX0_ofSpan_35 : decode cX0_ofSpan 35 = .ok (.aload_n 1, 1) := by decide +kernel
theorem dX0_ofSpan_36 : decode cX0_ofSpan 36 = .ok (.iload 4, 2) := by decide +kernel
theorem dX0_ofSpan_38 : decode cX0_ofSpan 38 = .ok (.iconst 1, 1) := by decide +kernel
theorem dX0_ofSpan_39 : decode cX0_ofSpan 39 = .ok (.isub, 1) := by decide +kernel
theorem dX0_ofSpan_40 : decode cX0_ofSpan 40 = .ok (.invokevirtual 51, 3) := by decide +kernel
theorem dX0_ofSpan_43 : decode cX0_ofSpan 43 = .ok (.ladd, 1) := by decide +kernel
theorem dX0_ofSpan_44 : decode cX0_ofSpan 44 = .ok (.lstore 6, 2) := by decide +kernel
theorem dX0_ofSpan_46 : decode cX0_ofSpan 46 = .ok (.aload_n 1, 1) := by decide +kernel
theorem dX0_ofSpan_47 : decode cX0_ofSpan 47 = .ok (.iload 4, 2) := by decide +kernel
theorem dX0_ofSpan_49 : decode cX0_ofSpan 49 = .ok (.invokevirtual 37, 3) := by decide +kernel
theorem dX0_ofSpan_52 : decode cX0_ofSpan 52 = .ok (.aload_n 1, 1) := by decide +kernel
theorem dX0_ofSpan_53 : decode cX0_ofSpan 53 = .ok (.iload 4, 2) := by decide +kernel
theorem dX0_ofSpan_55 : decode cX0_ofSpan 55 = .ok (.iconst 1, 1) := by decide +kernel
theorem dX0_ofSpan_56 : decode cX0_ofSpan 56 = .ok (.isub, 1) := by decide +kernel
theorem dX0_ofSpan_57 : decode cX0_ofSpan 57 = .ok (.invokevirtual 37, 3) := by decide +kernel
theorem dX0_ofSpan_60 : decode cX0_ofSpan 60 = .ok (.ladd, 1) := by decide +kernel
theorem dX0_ofSpan_61 : decode cX0_ofSpan 61 = .ok (.lstore 8, 2) := by decide +kernel
theorem dX0_ofSpan_63 : decode cX0_ofSpan 63 = .ok (.iload 5, 2) := by decide +kernel
theorem dX0_ofSpan_65 : decode cX0_ofSpan 65 = .ok (.ifCond .eq 12, 3) := by decide +kernel
theorem dX0_ofSpan_68 : decode cX0_ofSpan 68 = .ok (.aload_n 1, 1) := by decide +kernel
theorem dX0_ofSpan_69 : decode cX0_ofSpan 69 = .ok (.iload 4, 2) := by decide +kernel
theorem dX0_ofSpan_71 : decode cX0_ofSpan 71 = .ok (.invokevirtual 37, 3) := by decide +kernel
theorem dX0_ofSpan_74 : decode cX0_ofSpan 74 = .ok (.goto 5, 3) := by decide +kernel
theorem dX0_ofSpan_77 : decode cX0_ofSpan 77 = .ok (.lload 8, 2) := by decide +kernel
theorem dX0_ofSpan_79 : decode cX0_ofSpan 79 = .ok (.lstore 10, 2) := by decide +kernel
theorem dX0_ofSpan_81 : decode cX0_ofSpan 81 = .ok (.iload 5, 2) := by decide +kernel
theorem dX0_ofSpan_83 : decode cX0_ofSpan 83 = .ok (.ifCond .eq 8, 3) := by decide +kernel
theorem dX0_ofSpan_86 : decode cX0_ofSpan 86 = .ok (.lload 8, 2) := by decide +kernel
theorem dX0_ofSpan_88 : decode cX0_ofSpan 88 = .ok (.goto 9, 3) := by decide +kernel
theorem dX0_ofSpan_91 : decode cX0_ofSpan 91 = .ok (.aload_n 1, 1) := by decide +kernel
theorem dX0_ofSpan_92 : decode cX0_ofSpan 92 = .ok (.iload 4, 2) := by decide +kernel
theorem dX0_ofSpan_94 : decode cX0_ofSpan 94 = .ok (.invokevirtual 37, 3) := by decide +kernel
theorem dX0_ofSpan_97 : decode cX0_ofSpan 97 = .ok (.lstore 12, 2) := by decide +kernel
theorem dX0_ofSpan_99 : decode cX0_ofSpan 99 = .ok (.aload_n 0, 1) := by decide +kernel
theorem dX0_ofSpan_100 : decode cX0_ofSpan 100 = .ok (.iload 5, 2) := by decide +kernel
theorem dX0_ofSpan_102 : decode cX0_ofSpan 102 = .ok (.ifCond .eq 12, 3) := by decide +kernel
theorem dX0_ofSpan_105 : decode cX0_ofSpan 105 = .ok (.aload_n 1, 1) := by decide +kernel
theorem dX0_ofSpan_106 : decode cX0_ofSpan 106 = .ok (.iload 4, 2) := by decide +kernel
theorem dX0_ofSpan_108 : decode cX0_ofSpan 108 = .ok (.invokevirtual 51, 3) := by decide +kernel
theorem dX0_ofSpan_111 : decode cX0_ofSpan 111 = .ok (.goto 5, 3) := by decide +kernel
theorem dX0_ofSpan_114 : decode cX0_ofSpan 114 = .ok (.lload 6, 2) := by decide +kernel
theorem dX0_ofSpan_116 : decode cX0_ofSpan 116 = .ok (.lload 10, 2) := by decide +kernel
theorem dX0_ofSpan_118 : decode cX0_ofSpan 118 = .ok (.invokevirtual 54, 3) := by decide +kernel
theorem dX0_ofSpan_121 : decode cX0_ofSpan 121 = .ok (.aload_n 0, 1) := by decide +kernel
theorem dX0_ofSpan_122 : decode cX0_ofSpan 122 = .ok (.iload 5, 2) := by decide +kernel
theorem dX0_ofSpan_124 : decode cX0_ofSpan 124 = .ok (.ifCond .eq 8, 3) := by decide +kernel
theorem dX0_ofSpan_127 : decode cX0_ofSpan 127 = .ok (.lload 6, 2) := by decide +kernel
theorem dX0_ofSpan_129 : decode cX0_ofSpan 129 = .ok (.goto 9, 3) := by decide +kernel
theorem dX0_ofSpan_132 : decode cX0_ofSpan 132 = .ok (.aload_n 1, 1) := by decide +kernel
theorem dX0_ofSpan_133 : decode cX0_ofSpan 133 = .ok (.iload 4, 2) := by decide +kernel
theorem dX0_ofSpan_135 : decode cX0_ofSpan 135 = .ok (.invokevirtual 51, 3) := by decide +kernel
theorem dX0_ofSpan_138 : decode cX0_ofSpan 138 = .ok (.lload 12, 2) := by decide +kernel
theorem dX0_ofSpan_140 : decode cX0_ofSpan 140 = .ok (.invokevirtual 64, 3) := by decide +kernel
theorem dX0_ofSpan_143 : decode cX0_ofSpan 143 = .ok (.iconst 1, 1) := by decide +kernel
theorem dX0_ofSpan_144 : decode cX0_ofSpan 144 = .ok (.istore 14, 2) := by decide +kernel
theorem dX0_ofSpan_146 : decode cX0_ofSpan 146 = .ok (.iload 14, 2) := by decide +kernel
theorem dX0_ofSpan_148 : decode cX0_ofSpan 148 = .ok (.iload_n 3, 1) := by decide +kernel
theorem dX0_ofSpan_149 : decode cX0_ofSpan 149 = .ok (.if_icmp .gt 47, 3) := by decide +kernel
theorem dX0_ofSpan_152 : decode cX0_ofSpan 152 = .ok (.aload_n 0, 1) := by decide +kernel
theorem dX0_ofSpan_153 : decode cX0_ofSpan 153 = .ok (.getfield 9, 3) := by decide +kernel
theorem dX0_ofSpan_156 : decode cX0_ofSpan 156 = .ok (.aload_n 0, 1) := by decide +kernel
theorem dX0_ofSpan_157 : decode cX0_ofSpan 157 = .ok (.getfield 18, 3) := by decide +kernel
theorem dX0_ofSpan_160 : decode cX0_ofSpan 160 = .ok (.lcmp, 1) := by decide +kernel
theorem dX0_ofSpan_161 : decode cX0_ofSpan 161 = .ok (.ifCond .ne 35, 3) := by decide +kernel
theorem dX0_ofSpan_164 : decode cX0_ofSpan 164 = .ok (.aload_n 0, 1) := by decide +kernel
theorem dX0_ofSpan_165 : decode cX0_ofSpan 165 = .ok (.aload_n 0, 1) := by decide +kernel
theorem dX0_ofSpan_166 : decode cX0_ofSpan 166 = .ok (.getfield 15, 3) := by decide +kernel
theorem dX0_ofSpan_169 : decode cX0_ofSpan 169 = .ok (.iload_n 2, 1) := by decide +kernel
theorem dX0_ofSpan_170 : decode cX0_ofSpan 170 = .ok (.i2l, 1) := by decide +kernel
theorem dX0_ofSpan_171 : decode cX0_ofSpan 171 = .ok (.lmul, 1) := by decide +kernel
theorem dX0_ofSpan_172 : decode cX0_ofSpan 172 = .ok (.lload 10, 2) := by decide +kernel
theorem dX0_ofSpan_174 : decode cX0_ofSpan 174 = .ok (.invokevirtual 54, 3) := by decide +kernel
theorem dX0_ofSpan_177 : decode cX0_ofSpan 177 = .ok (.aload_n 0, 1) := by decide +kernel
theorem dX0_ofSpan_178 : decode cX0_ofSpan 178 = .ok (.aload_n 0, 1) := by decide +kernel
theorem dX0_ofSpan_179 : decode cX0_ofSpan 179 = .ok (.getfield 21, 3) := by decide +kernel
theorem dX0_ofSpan_182 : decode cX0_ofSpan 182 = .ok (.iload_n 2, 1) := by decide +kernel
theorem dX0_ofSpan_183 : decode cX0_ofSpan 183 = .ok (.i2l, 1) := by decide +kernel
theorem dX0_ofSpan_184 : decode cX0_ofSpan 184 = .ok (.lmul, 1) := by decide +kernel
theorem dX0_ofSpan_185 : decode cX0_ofSpan 185 = .ok (.lload 12, 2) := by decide +kernel
theorem dX0_ofSpan_187 : decode cX0_ofSpan 187 = .ok (.invokevirtual 64, 3) := by decide +kernel
theorem dX0_ofSpan_190 : decode cX0_ofSpan 190 = .ok (.iinc 14 1, 3) := by decide +kernel
theorem dX0_ofSpan_193 : decode cX0_ofSpan 193 = .ok (.goto (-47), 3) := by decide +kernel
theorem dX0_ofSpan_196 : decode cX0_ofSpan 196 = .ok (.aload_n 0, 1) := by decide +kernel
theorem dX0_ofSpan_197 : decode cX0_ofSpan 197 = .ok (.getfield 9, 3) := by decide +kernel
theorem dX0_ofSpan_200 : decode cX0_ofSpan 200 = .ok (.aload_n 0, 1) := by decide +kernel
theorem dX0_ofSpan_201 : decode cX0_ofSpan 201 = .ok (.getfield 18, 3) := by decide +kernel
theorem dX0_ofSpan_204 : decode cX0_ofSpan 204 = .ok (.lcmp, 1) := by decide +kernel
theorem dX0_ofSpan_205 : decode cX0_ofSpan 205 = .ok (.ifCond .ne 10, 3) := by decide +kernel
theorem dX0_ofSpan_208 : decode cX0_ofSpan 208 = .ok (.aload_n 0, 1) := by decide +kernel
theorem dX0_ofSpan_209 : decode cX0_ofSpan 209 = .ok (.getfield 9, 3) := by decide +kernel
theorem dX0_ofSpan_212 : decode cX0_ofSpan 212 = .ok (.goto 6, 3) := by decide +kernel
theorem dX0_ofSpan_215 : decode cX0_ofSpan 215 = .ok (.ldc2_w 62, 3) := by decide +kernel
theorem dX0_ofSpan_218 : decode cX0_ofSpan 218 = .ok (.lreturn, 1) := by decide +kernel
theorem dX0_splitLow_0 : decode cX0_splitLow 0 = .ok (.aload_n 0, 1) := by decide +kernel
theorem dX0_splitLow_1 : decode cX0_splitLow 1 = .ok (.lload_n 1, 1) := by decide +kernel
theorem dX0_splitLow_2 : decode cX0_splitLow 2 = .ok (.lload_n 3, 1) := by decide +kernel
theorem dX0_splitLow_3 : decode cX0_splitLow 3 = .ok (.invokestatic 67, 3) := by decide +kernel
theorem dX0_splitLow_6 : decode cX0_splitLow 6 = .ok (.putfield 9, 3) := by decide +kernel
theorem dX0_splitLow_9 : decode cX0_splitLow 9 = .ok (.aload_n 0, 1) := by decide +kernel
theorem dX0_splitLow_10 : decode cX0_splitLow 10 = .ok (.lload_n 1, 1) := by decide +kernel
theorem dX0_splitLow_11 : decode cX0_splitLow 11 = .ok (.aload_n 0, 1) := by decide +kernel
theorem dX0_splitLow_12 : decode cX0_splitLow 12 = .ok (.getfield 9, 3) := by decide +kernel
theorem dX0_splitLow_15 : decode cX0_splitLow 15 = .ok (.lload_n 3, 1) := by decide +kernel
theorem dX0_splitLow_16 : decode cX0_splitLow 16 = .ok (.lmul, 1) := by decide +kernel
theorem dX0_splitLow_17 : decode cX0_splitLow 17 = .ok (.lsub, 1) := by decide +kernel
theorem dX0_splitLow_18 : decode cX0_splitLow 18 = .ok (.putfield 15, 3) := by decide +kernel
theorem dX0_splitLow_21 : decode cX0_splitLow 21 = .ok (.return_, 1) := by decide +kernel
theorem dX0_splitHigh_0 : decode cX0_splitHigh 0 = .ok (.aload_n 0, 1) := by decide +kernel
theorem dX0_splitHigh_1 : decode cX0_splitHigh 1 = .ok (.lload_n 1, 1) := by decide +kernel
theorem dX0_splitHigh_2 : decode cX0_splitHigh 2 = .ok (.lneg, 1) := by decide +kernel
theorem dX0_splitHigh_3 : decode cX0_splitHigh 3 = .ok (.lload_n 3, 1) := by decide +kernel
theorem dX0_splitHigh_4 : decode cX0_splitHigh 4 = .ok (.invokestatic 67, 3) := by decide +kernel
theorem dX0_splitHigh_7 : decode cX0_splitHigh 7 = .ok (.lneg, 1) := by decide +kernel
theorem dX0_splitHigh_8 : decode cX0_splitHigh 8 = .ok (.lconst 1, 1) := by decide +kernel
theorem dX0_splitHigh_9 : decode cX0_splitHigh 9 = .ok (.lsub, 1) := by decide +kernel
theorem dX0_splitHigh_10 : decode cX0_splitHigh 10 = .ok (.putfield 18, 3) := by decide +kernel
theorem dX0_splitHigh_13 : decode cX0_splitHigh 13 = .ok (.aload_n 0, 1) := by decide +kernel
theorem dX0_splitHigh_14 : decode cX0_splitHigh 14 = .ok (.lload_n 1, 1) := by decide +kernel
theorem dX0_splitHigh_15 : decode cX0_splitHigh 15 = .ok (.aload_n 0, 1) := by decide +kernel
theorem dX0_splitHigh_16 : decode cX0_splitHigh 16 = .ok (.getfield 18, 3) := by decide +kernel
theorem dX0_splitHigh_19 : decode cX0_splitHigh 19 = .ok (.lload_n 3, 1) := by decide +kernel
theorem dX0_splitHigh_20 : decode cX0_splitHigh 20 = .ok (.lmul, 1) := by decide +kernel
theorem dX0_splitHigh_21 : decode cX0_splitHigh 21 = .ok (.lsub, 1) := by decide +kernel
theorem dX0_splitHigh_22 : decode cX0_splitHigh 22 = .ok (.putfield 21, 3) := by decide +kernel
theorem dX0_splitHigh_25 : decode cX0_splitHigh 25 = .ok (.return_, 1) := by decide +kernel
theorem dX1_init_0 : decode cX1_init 0 = .ok (.aload_n 0, 1) := by decide +kernel
theorem dX1_init_1 : decode cX1_init 1 = .ok (.invokespecial 3, 3) := by decide +kernel
theorem dX1_init_4 : decode cX1_init 4 = .ok (.aload_n 0, 1) := by decide +kernel
theorem dX1_init_5 : decode cX1_init 5 = .ok (.new 9, 3) := by decide +kernel
theorem dX1_init_8 : decode cX1_init 8 = .ok (.dup, 1) := by decide +kernel
theorem dX1_init_9 : decode cX1_init 9 = .ok (.iconst 0, 1) := by decide +kernel
theorem dX1_init_10 : decode cX1_init 10 = .ok (.iconst 2, 1) := by decide +kernel
theorem dX1_init_11 : decode cX1_init 11 = .ok (.invokespecial 11, 3) := by decide +kernel
theorem dX1_init_14 : decode cX1_init 14 = .ok (.putfield 14, 3) := by decide +kernel
theorem dX1_init_17 : decode cX1_init 17 = .ok (.aload_n 0, 1) := by decide +kernel
theorem dX1_init_18 : decode cX1_init 18 = .ok (.new 9, 3) := by decide +kernel
theorem dX1_init_21 : decode cX1_init 21 = .ok (.dup, 1) := by decide +kernel
theorem dX1_init_22 : decode cX1_init 22 = .ok (.iconst 1, 1) := by decide +kernel
theorem dX1_init_23 : decode cX1_init 23 = .ok (.iconst 1, 1) := by decide +kernel
theorem dX1_init_24 : decode cX1_init 24 = .ok (.invokespecial 11, 3) := by decide +kernel
theorem dX1_init_27 : decode cX1_init 27 = .ok (.putfield 20, 3) := by decide +kernel
theorem dX1_init_30 : decode cX1_init 30 = .ok (.aload_n 0, 1) := by decide +kernel
theorem dX1_init_31 : decode cX1_init 31 = .ok (.bipush 8, 2) := by decide +kernel
theorem dX1_init_33 : decode cX1_init 33 = .ok (.newarray .long, 2) := by decide +kernel
theorem dX1_init_35 : decode cX1_init 35 = .ok (.putfield 23, 3) := by decide +kernel
theorem dX1_init_38 : decode cX1_init 38 = .ok (.aload_n 0, 1) := by decide +kernel
theorem dX1_init_39 : decode cX1_init 39 = .ok (.bipush 8, 2) := by decide +kernel
theorem dX1_init_41 : decode cX1_init 41 = .ok (.newarray .long, 2) := by decide +kernel
theorem dX1_init_43 : decode cX1_init 43 = .ok (.putfield 27, 3) := by decide +kernel
theorem dX1_init_46 : decode cX1_init 46 = .ok (.aload_n 0, 1) := by decide +kernel
theorem dX1_init_47 : decode cX1_init 47 = .ok (.iconst 4, 1) := by decide +kernel
theorem dX1_init_48 : decode cX1_init 48 = .ok (.newarray .long, 2) := by decide +kernel
theorem dX1_init_50 : decode cX1_init 50 = .ok (.putfield 30, 3) := by decide +kernel
theorem dX1_init_53 : decode cX1_init 53 = .ok (.aload_n 0, 1) := by decide +kernel
theorem dX1_init_54 : decode cX1_init 54 = .ok (.iconst 4, 1) := by decide +kernel
theorem dX1_init_55 : decode cX1_init 55 = .ok (.newarray .long, 2) := by decide +kernel
theorem dX1_init_57 : decode cX1_init 57 = .ok (.putfield 33, 3) := by decide +kernel
theorem dX1_init_60 : decode cX1_init 60 = .ok (.aload_n 0, 1) := by decide +kernel
theorem dX1_init_61 : decode cX1_init 61 = .ok (.iconst 0, 1) := by decide +kernel
theorem dX1_init_62 : decode cX1_init 62 = .ok (.putfield 36, 3) := by decide +kernel
theorem dX1_init_65 : decode cX1_init 65 = .ok (.aload_n 0, 1) := by decide +kernel
theorem dX1_init_66 : decode cX1_init 66 = .ok (.sipush 1820, 3) := by decide +kernel
theorem dX1_init_69 : decode cX1_init 69 = .ok (.newarray .long, 2) := by decide +kernel
theorem dX1_init_71 : decode cX1_init 71 = .ok (.putfield 40, 3) := by decide +kernel
theorem dX1_init_74 : decode cX1_init 74 = .ok (.aload_n 0, 1) := by decide +kernel
theorem dX1_init_75 : decode cX1_init 75 = .ok (.iconst 0, 1) := by decide +kernel
theorem dX1_init_76 : decode cX1_init 76 = .ok (.putfield 43, 3) := by decide +kernel
theorem dX1_init_79 : decode cX1_init 79 = .ok (.return_, 1) := by decide +kernel
theorem dX2_init_0 : decode cX2_init 0 = .ok (.aload_n 0, 1) := by decide +kernel
theorem dX2_init_1 : decode cX2_init 1 = .ok (.invokespecial 3, 3) := by decide +kernel
theorem dX2_init_4 : decode cX2_init 4 = .ok (.aload_n 0, 1) := by decide +kernel
theorem dX2_init_5 : decode cX2_init 5 = .ok (.bipush 60, 2) := by decide +kernel
theorem dX2_init_7 : decode cX2_init 7 = .ok (.newarray .long, 2) := by decide +kernel
theorem dX2_init_9 : decode cX2_init 9 = .ok (.putfield 9, 3) := by decide +kernel
theorem dX2_init_12 : decode cX2_init 12 = .ok (.aload_n 0, 1) := by decide +kernel
theorem dX2_init_13 : decode cX2_init 13 = .ok (.bipush 60, 2) := by decide +kernel
theorem dX2_init_15 : decode cX2_init 15 = .ok (.newarray .long, 2) := by decide +kernel
theorem dX2_init_17 : decode cX2_init 17 = .ok (.putfield 15, 3) := by decide +kernel
theorem dX2_init_20 : decode cX2_init 20 = .ok (.aload_n 0, 1) := by decide +kernel
theorem dX2_init_21 : decode cX2_init 21 = .ok (.iconst 0, 1) := by decide +kernel
theorem dX2_init_22 : decode cX2_init 22 = .ok (.putfield 18, 3) := by decide +kernel
theorem dX2_init_25 : decode cX2_init 25 = .ok (.return_, 1) := by decide +kernel
theorem dX2_lastForSpan_0 : decode cX2_lastForSpan 0 = .ok (.iconst 0, 1) := by decide +kernel
theorem dX2_lastForSpan_1 : decode cX2_lastForSpan 1 = .ok (.istore_n 1, 1) := by decide +kernel
theorem dX2_lastForSpan_2 : decode cX2_lastForSpan 2 = .ok (.iload_n 1, 1) := by decide +kernel
theorem dX2_lastForSpan_3 : decode cX2_lastForSpan 3 = .ok (.aload_n 0, 1) := by decide +kernel
theorem dX2_lastForSpan_4 : decode cX2_lastForSpan 4 = .ok (.getfield 18, 3) := by decide +kernel
theorem dX2_lastForSpan_7 : decode cX2_lastForSpan 7 = .ok (.if_icmp .ge 83, 3) := by decide +kernel
theorem dX2_lastForSpan_10 : decode cX2_lastForSpan 10 = .ok (.aload_n 0, 1) := by decide +kernel
theorem dX2_lastForSpan_11 : decode cX2_lastForSpan 11 = .ok (.iload_n 1, 1) := by decide +kernel
theorem dX2_lastForSpan_12 : decode cX2_lastForSpan 12 = .ok (.invokevirtual 31, 3) := by decide +kernel
theorem dX2_lastForSpan_15 : decode cX2_lastForSpan 15 = .ok (.invokestatic 48, 3) := by decide +kernel
theorem dX2_lastForSpan_18 : decode cX2_lastForSpan 18 = .ok (.ifCond .eq 56, 3) := by decide +kernel
theorem dX2_lastForSpan_21 : decode cX2_lastForSpan 21 = .ok (.aload_n 0, 1) := by decide +kernel
theorem dX2_lastForSpan_22 : decode cX2_lastForSpan 22 = .ok (.iload_n 1, 1) := by decide +kernel
theorem dX2_lastForSpan_23 : decode cX2_lastForSpan 23 = .ok (.invokevirtual 31, 3) := by decide +kernel
theorem dX2_lastForSpan_26 : decode cX2_lastForSpan 26 = .ok (.aload_n 0, 1) := by decide +kernel
theorem dX2_lastForSpan_27 : decode cX2_lastForSpan 27 = .ok (.iload_n 1, 1) := by decide +kernel
theorem dX2_lastForSpan_28 : decode cX2_lastForSpan 28 = .ok (.iconst 1, 1) := by decide +kernel
theorem dX2_lastForSpan_29 : decode cX2_lastForSpan 29 = .ok (.isub, 1) := by decide +kernel
theorem dX2_lastForSpan_30 : decode cX2_lastForSpan 30 = .ok (.invokevirtual 31, 3) := by decide +kernel
theorem dX2_lastForSpan_33 : decode cX2_lastForSpan 33 = .ok (.ladd, 1) := by decide +kernel
theorem dX2_lastForSpan_34 : decode cX2_lastForSpan 34 = .ok (.invokestatic 48, 3) := by decide +kernel
theorem dX2_lastForSpan_37 : decode cX2_lastForSpan 37 = .ok (.ifCond .eq 37, 3) := by decide +kernel
theorem dX2_lastForSpan_40 : decode cX2_lastForSpan 40 = .ok (.aload_n 0, 1) := by decide +kernel
theorem dX2_lastForSpan_41 : decode cX2_lastForSpan 41 = .ok (.iload_n 1, 1) := by decide +kernel
theorem dX2_lastForSpan_42 : decode cX2_lastForSpan 42 = .ok (.invokevirtual 41, 3) := by decide +kernel
theorem dX2_lastForSpan_45 : decode cX2_lastForSpan 45 = .ok (.invokestatic 48, 3) := by decide +kernel
theorem dX2_lastForSpan_48 : decode cX2_lastForSpan 48 = .ok (.ifCond .eq 26, 3) := by decide +kernel
theorem dX2_lastForSpan_51 : decode cX2_lastForSpan 51 = .ok (.aload_n 0, 1) := by decide +kernel
theorem dX2_lastForSpan_52 : decode cX2_lastForSpan 52 = .ok (.iload_n 1, 1) := by decide +kernel
theorem dX2_lastForSpan_53 : decode cX2_lastForSpan 53 = .ok (.invokevirtual 41, 3) := by decide +kernel
theorem dX2_lastForSpan_56 : decode cX2_lastForSpan 56 = .ok (.aload_n 0, 1) := by decide +kernel
theorem dX2_lastForSpan_57 : decode cX2_lastForSpan 57 = .ok (.iload_n 1, 1) := by decide +kernel
theorem dX2_lastForSpan_58 : decode cX2_lastForSpan 58 = .ok (.iconst 1, 1) := by decide +kernel
theorem dX2_lastForSpan_59 : decode cX2_lastForSpan 59 = .ok (.isub, 1) := by decide +kernel
theorem dX2_lastForSpan_60 : decode cX2_lastForSpan 60 = .ok (.invokevirtual 41, 3) := by decide +kernel
theorem dX2_lastForSpan_63 : decode cX2_lastForSpan 63 = .ok (.ladd, 1) := by decide +kernel
theorem dX2_lastForSpan_64 : decode cX2_lastForSpan 64 = .ok (.invokestatic 48, 3) := by decide +kernel
theorem dX2_lastForSpan_67 : decode cX2_lastForSpan 67 = .ok (.ifCond .eq 7, 3) := by decide +kernel
theorem dX2_lastForSpan_70 : decode cX2_lastForSpan 70 = .ok (.iconst 1, 1) := by decide +kernel
theorem dX2_lastForSpan_71 : decode cX2_lastForSpan 71 = .ok (.goto 4, 3) := by decide +kernel
theorem dX2_lastForSpan_74 : decode cX2_lastForSpan 74 = .ok (.iconst 0, 1) := by decide +kernel
theorem dX2_lastForSpan_75 : decode cX2_lastForSpan 75 = .ok (.istore_n 2, 1) := by decide +kernel
theorem dX2_lastForSpan_76 : decode cX2_lastForSpan 76 = .ok (.iload_n 2, 1) := by decide +kernel
theorem dX2_lastForSpan_77 : decode cX2_lastForSpan 77 = .ok (.ifCond .ne 7, 3) := by decide +kernel
theorem dX2_lastForSpan_80 : decode cX2_lastForSpan 80 = .ok (.iload_n 1, 1) := by decide +kernel
theorem dX2_lastForSpan_81 : decode cX2_lastForSpan 81 = .ok (.iconst 1, 1) := by decide +kernel
theorem dX2_lastForSpan_82 : decode cX2_lastForSpan 82 = .ok (.isub, 1) := by decide +kernel
theorem dX2_lastForSpan_83 : decode cX2_lastForSpan 83 = .ok (.ireturn, 1) := by decide +kernel
theorem dX2_lastForSpan_84 : decode cX2_lastForSpan 84 = .ok (.iinc 1 1, 3) := by decide +kernel
theorem dX2_lastForSpan_87 : decode cX2_lastForSpan 87 = .ok (.goto (-85), 3) := by decide +kernel
theorem dX2_lastForSpan_90 : decode cX2_lastForSpan 90 = .ok (.aload_n 0, 1) := by decide +kernel
theorem dX2_lastForSpan_91 : decode cX2_lastForSpan 91 = .ok (.getfield 18, 3) := by decide +kernel
theorem dX2_lastForSpan_94 : decode cX2_lastForSpan 94 = .ok (.iconst 1, 1) := by decide +kernel
theorem dX2_lastForSpan_95 : decode cX2_lastForSpan 95 = .ok (.isub, 1) := by decide +kernel
theorem dX2_lastForSpan_96 : decode cX2_lastForSpan 96 = .ok (.ireturn, 1) := by decide +kernel
theorem dX2_isSmall_0 : decode cX2_isSmall 0 = .ok (.lload_n 0, 1) := by decide +kernel
theorem dX2_isSmall_1 : decode cX2_isSmall 1 = .ok (.ldc2_w 51, 3) := by decide +kernel
theorem dX2_isSmall_4 : decode cX2_isSmall 4 = .ok (.lcmp, 1) := by decide +kernel
theorem dX2_isSmall_5 : decode cX2_isSmall 5 = .ok (.ifCond .gt 15, 3) := by decide +kernel
theorem dX2_isSmall_8 : decode cX2_isSmall 8 = .ok (.lload_n 0, 1) := by decide +kernel
theorem dX2_isSmall_9 : decode cX2_isSmall 9 = .ok (.ldc2_w 53, 3) := by decide +kernel
theorem dX2_isSmall_12 : decode cX2_isSmall 12 = .ok (.lcmp, 1) := by decide +kernel
theorem dX2_isSmall_13 : decode cX2_isSmall 13 = .ok (.ifCond .lt 7, 3) := by decide +kernel
theorem dX2_isSmall_16 : decode cX2_isSmall 16 = .ok (.iconst 1, 1) := by decide +kernel
theorem dX2_isSmall_17 : decode cX2_isSmall 17 = .ok (.goto 4, 3) := by decide +kernel
theorem dX2_isSmall_20 : decode cX2_isSmall 20 = .ok (.iconst 0, 1) := by decide +kernel
theorem dX2_isSmall_21 : decode cX2_isSmall 21 = .ok (.ireturn, 1) := by decide +kernel
theorem dX3_init_0 : decode cX3_init 0 = .ok (.aload_n 0, 1) := by decide +kernel
theorem dX3_init_1 : decode cX3_init 1 = .ok (.invokespecial 3, 3) := by decide +kernel
theorem dX3_init_4 : decode cX3_init 4 = .ok (.aload_n 0, 1) := by decide +kernel
theorem dX3_init_5 : decode cX3_init 5 = .ok (.lconst 0, 1) := by decide +kernel
theorem dX3_init_6 : decode cX3_init 6 = .ok (.putfield 9, 3) := by decide +kernel
theorem dX3_init_9 : decode cX3_init 9 = .ok (.aload_n 0, 1) := by decide +kernel
theorem dX3_init_10 : decode cX3_init 10 = .ok (.lconst 0, 1) := by decide +kernel
theorem dX3_init_11 : decode cX3_init 11 = .ok (.putfield 15, 3) := by decide +kernel
theorem dX3_init_14 : decode cX3_init 14 = .ok (.aload_n 0, 1) := by decide +kernel
theorem dX3_init_15 : decode cX3_init 15 = .ok (.lconst 0, 1) := by decide +kernel
theorem dX3_init_16 : decode cX3_init 16 = .ok (.putfield 18, 3) := by decide +kernel
theorem dX3_init_19 : decode cX3_init 19 = .ok (.aload_n 0, 1) := by decide +kernel
theorem dX3_init_20 : decode cX3_init 20 = .ok (.lconst 1, 1) := by decide +kernel
theorem dX3_init_21 : decode cX3_init 21 = .ok (.putfield 21, 3) := by decide +kernel
theorem dX3_init_24 : decode cX3_init 24 = .ok (.return_, 1) := by decide +kernel
theorem dX4_init_0 : decode cX4_init 0 = .ok (.aload_n 0, 1) := by decide +kernel
theorem dX4_init_1 : decode cX4_init 1 = .ok (.invokespecial 3, 3) := by decide +kernel
theorem dX4_init_4 : decode cX4_init 4 = .ok (.aload_n 0, 1) := by decide +kernel
theorem dX4_init_5 : decode cX4_init 5 = .ok (.bipush 61, 2) := by decide +kernel
theorem dX4_init_7 : decode cX4_init 7 = .ok (.newarray .long, 2) := by decide +kernel
theorem dX4_init_9 : decode cX4_init 9 = .ok (.putfield 9, 3) := by decide +kernel
theorem dX4_init_12 : decode cX4_init 12 = .ok (.aload_n 0, 1) := by decide +kernel
theorem dX4_init_13 : decode cX4_init 13 = .ok (.bipush 61, 2) := by decide +kernel
theorem dX4_init_15 : decode cX4_init 15 = .ok (.newarray .long, 2) := by decide +kernel
theorem dX4_init_17 : decode cX4_init 17 = .ok (.putfield 15, 3) := by decide +kernel
theorem dX4_init_20 : decode cX4_init 20 = .ok (.aload_n 0, 1) := by decide +kernel
theorem dX4_init_21 : decode cX4_init 21 = .ok (.bipush 61, 2) := by decide +kernel
theorem dX4_init_23 : decode cX4_init 23 = .ok (.newarray .long, 2) := by decide +kernel
theorem dX4_init_25 : decode cX4_init 25 = .ok (.putfield 18, 3) := by decide +kernel
theorem dX4_init_28 : decode cX4_init 28 = .ok (.aload_n 0, 1) := by decide +kernel
theorem dX4_init_29 : decode cX4_init 29 = .ok (.iconst 0, 1) := by decide +kernel
theorem dX4_init_30 : decode cX4_init 30 = .ok (.putfield 21, 3) := by decide +kernel
theorem dX4_init_33 : decode cX4_init 33 = .ok (.aload_n 0, 1) := by decide +kernel
theorem dX4_init_34 : decode cX4_init 34 = .ok (.iconst 0, 1) := by decide +kernel
theorem dX4_init_35 : decode cX4_init 35 = .ok (.putfield 25, 3) := by decide +kernel
theorem dX4_init_38 : decode cX4_init 38 = .ok (.return_, 1) := by decide +kernel
theorem dX5_init_0 : decode cX5_init 0 = .ok (.aload_n 0, 1) := by decide +kernel
theorem dX5_init_1 : decode cX5_init 1 = .ok (.invokespecial 3, 3) := by decide +kernel
theorem dX5_init_4 : decode cX5_init 4 = .ok (.aload_n 0, 1) := by decide +kernel
theorem dX5_init_5 : decode cX5_init 5 = .ok (.lconst 0, 1) := by decide +kernel
theorem dX5_init_6 : decode cX5_init 6 = .ok (.putfield 9, 3) := by decide +kernel
theorem dX5_init_9 : decode cX5_init 9 = .ok (.aload_n 0, 1) := by decide +kernel
theorem dX5_init_10 : decode cX5_init 10 = .ok (.lconst 1, 1) := by decide +kernel
theorem dX5_init_11 : decode cX5_init 11 = .ok (.putfield 15, 3) := by decide +kernel
theorem dX5_init_14 : decode cX5_init 14 = .ok (.aload_n 0, 1) := by decide +kernel
theorem dX5_init_15 : decode cX5_init 15 = .ok (.lconst 0, 1) := by decide +kernel
theorem dX5_init_16 : decode cX5_init 16 = .ok (.putfield 18, 3) := by decide +kernel
theorem dX5_init_19 : decode cX5_init 19 = .ok (.aload_n 0, 1) := by decide +kernel
theorem dX5_init_20 : decode cX5_init 20 = .ok (.lconst 1, 1) := by decide +kernel
theorem dX5_init_21 : decode cX5_init 21 = .ok (.putfield 21, 3) := by decide +kernel
theorem dX5_init_24 : decode cX5_init 24 = .ok (.aload_n 0, 1) := by decide +kernel
theorem dX5_init_25 : decode cX5_init 25 = .ok (.new 24, 3) := by decide +kernel
theorem dX5_init_28 : decode cX5_init 28 = .ok (.dup, 1) := by decide +kernel
theorem dX5_init_29 : decode cX5_init 29 = .ok (.invokespecial 26, 3) := by decide +kernel
theorem dX5_init_32 : decode cX5_init 32 = .ok (.putfield 27, 3) := by decide +kernel
theorem dX5_init_35 : decode cX5_init 35 = .ok (.aload_n 0, 1) := by decide +kernel
theorem dX5_init_36 : decode cX5_init 36 = .ok (.new 31, 3) := by decide +kernel
theorem dX5_init_39 : decode cX5_init 39 = .ok (.dup, 1) := by decide +kernel
theorem dX5_init_40 : decode cX5_init 40 = .ok (.invokespecial 33, 3) := by decide +kernel
theorem dX5_init_43 : decode cX5_init 43 = .ok (.putfield 34, 3) := by decide +kernel
theorem dX5_init_46 : decode cX5_init 46 = .ok (.return_, 1) := by decide +kernel
theorem dX6_init_0 : decode cX6_init 0 = .ok (.aload_n 0, 1) := by decide +kernel
theorem dX6_init_1 : decode cX6_init 1 = .ok (.invokespecial 1, 3) := by decide +kernel
theorem dX6_init_4 : decode cX6_init 4 = .ok (.aload_n 0, 1) := by decide +kernel
theorem dX6_init_5 : decode cX6_init 5 = .ok (.aconst_null, 1) := by decide +kernel
theorem dX6_init_6 : decode cX6_init 6 = .ok (.putfield 7, 3) := by decide +kernel
theorem dX6_init_9 : decode cX6_init 9 = .ok (.aload_n 0, 1) := by decide +kernel
theorem dX6_init_10 : decode cX6_init 10 = .ok (.iconst 0, 1) := by decide +kernel
theorem dX6_init_11 : decode cX6_init 11 = .ok (.putfield 13, 3) := by decide +kernel
theorem dX6_init_14 : decode cX6_init 14 = .ok (.aload_n 0, 1) := by decide +kernel
theorem dX6_init_15 : decode cX6_init 15 = .ok (.iconst 0, 1) := by decide +kernel
theorem dX6_init_16 : decode cX6_init 16 = .ok (.putfield 17, 3) := by decide +kernel
theorem dX6_init_19 : decode cX6_init 19 = .ok (.aload_n 0, 1) := by decide +kernel
theorem dX6_init_20 : decode cX6_init 20 = .ok (.iload_n 1, 1) := by decide +kernel
theorem dX6_init_21 : decode cX6_init 21 = .ok (.putfield 21, 3) := by decide +kernel
theorem dX6_init_24 : decode cX6_init 24 = .ok (.aload_n 0, 1) := by decide +kernel
theorem dX6_init_25 : decode cX6_init 25 = .ok (.iload_n 2, 1) := by decide +kernel
theorem dX6_init_26 : decode cX6_init 26 = .ok (.putfield 24, 3) := by decide +kernel
theorem dX6_init_29 : decode cX6_init 29 = .ok (.return_, 1) := by decide +kernel
theorem dX7_init_0 : decode cX7_init 0 = .ok (.aload_n 0, 1) := by decide +kernel
theorem dX7_init_1 : decode cX7_init 1 = .ok (.invokespecial 3, 3) := by decide +kernel
theorem dX7_init_4 : decode cX7_init 4 = .ok (.aload_n 0, 1) := by decide +kernel
theorem dX7_init_5 : decode cX7_init 5 = .ok (.bipush 60, 2) := by decide +kernel
theorem dX7_init_7 : decode cX7_init 7 = .ok (.newarray .long, 2) := by decide +kernel
theorem dX7_init_9 : decode cX7_init 9 = .ok (.putfield 9, 3) := by decide +kernel
theorem dX7_init_12 : decode cX7_init 12 = .ok (.aload_n 0, 1) := by decide +kernel
theorem dX7_init_13 : decode cX7_init 13 = .ok (.iconst 0, 1) := by decide +kernel
theorem dX7_init_14 : decode cX7_init 14 = .ok (.putfield 15, 3) := by decide +kernel
theorem dX7_init_17 : decode cX7_init 17 = .ok (.aload_n 0, 1) := by decide +kernel
theorem dX7_init_18 : decode cX7_init 18 = .ok (.iconst 0, 1) := by decide +kernel
theorem dX7_init_19 : decode cX7_init 19 = .ok (.putfield 19, 3) := by decide +kernel
theorem dX7_init_22 : decode cX7_init 22 = .ok (.aload_n 0, 1) := by decide +kernel
theorem dX7_init_23 : decode cX7_init 23 = .ok (.iconst 0, 1) := by decide +kernel
theorem dX7_init_24 : decode cX7_init 24 = .ok (.putfield 23, 3) := by decide +kernel
theorem dX7_init_27 : decode cX7_init 27 = .ok (.aload_n 0, 1) := by decide +kernel
theorem dX7_init_28 : decode cX7_init 28 = .ok (.iconst 0, 1) := by decide +kernel
theorem dX7_init_29 : decode cX7_init 29 = .ok (.putfield 26, 3) := by decide +kernel
theorem dX7_init_32 : decode cX7_init 32 = .ok (.aload_n 0, 1) := by decide +kernel
theorem dX7_init_33 : decode cX7_init 33 = .ok (.iconst 0, 1) := by decide +kernel
theorem dX7_init_34 : decode cX7_init 34 = .ok (.putfield 29, 3) := by decide +kernel
theorem dX7_init_37 : decode cX7_init 37 = .ok (.aload_n 0, 1) := by decide +kernel
theorem dX7_init_38 : decode cX7_init 38 = .ok (.lconst 0, 1) := by decide +kernel
theorem dX7_init_39 : decode cX7_init 39 = .ok (.putfield 32, 3) := by decide +kernel
theorem dX7_init_42 : decode cX7_init 42 = .ok (.aload_n 0, 1) := by decide +kernel
theorem dX7_init_43 : decode cX7_init 43 = .ok (.lconst 0, 1) := by decide +kernel
theorem dX7_init_44 : decode cX7_init 44 = .ok (.putfield 36, 3) := by decide +kernel
theorem dX7_init_47 : decode cX7_init 47 = .ok (.aload_n 0, 1) := by decide +kernel
theorem dX7_init_48 : decode cX7_init 48 = .ok (.lconst 0, 1) := by decide +kernel
theorem dX7_init_49 : decode cX7_init 49 = .ok (.putfield 39, 3) := by decide +kernel
theorem dX7_init_52 : decode cX7_init 52 = .ok (.aload_n 0, 1) := by decide +kernel
theorem dX7_init_53 : decode cX7_init 53 = .ok (.lconst 1, 1) := by decide +kernel
theorem dX7_init_54 : decode cX7_init 54 = .ok (.putfield 42, 3) := by decide +kernel
theorem dX7_init_57 : decode cX7_init 57 = .ok (.return_, 1) := by decide +kernel
theorem dX7_isOpen_0 : decode cX7_isOpen 0 = .ok (.aload_n 0, 1) := by decide +kernel
theorem dX7_isOpen_1 : decode cX7_isOpen 1 = .ok (.getfield 19, 3) := by decide +kernel
theorem dX7_isOpen_4 : decode cX7_isOpen 4 = .ok (.iconst 3, 1) := by decide +kernel
theorem dX7_isOpen_5 : decode cX7_isOpen 5 = .ok (.if_icmp .ne 23, 3) := by decide +kernel
theorem dX7_isOpen_8 : decode cX7_isOpen 8 = .ok (.aload_n 0, 1) := by decide +kernel
theorem dX7_isOpen_9 : decode cX7_isOpen 9 = .ok (.getfield 26, 3) := by decide +kernel
theorem dX7_isOpen_12 : decode cX7_isOpen 12 = .ok (.ifCond .ne 16, 3) := by decide +kernel
theorem dX7_isOpen_15 : decode cX7_isOpen 15 = .ok (.aload_n 0, 1) := by decide +kernel
theorem dX7_isOpen_16 : decode cX7_isOpen 16 = .ok (.getfield 23, 3) := by decide +kernel
theorem dX7_isOpen_19 : decode cX7_isOpen 19 = .ok (.bipush 60, 2) := by decide +kernel
theorem dX7_isOpen_21 : decode cX7_isOpen 21 = .ok (.if_icmp .ge 7, 3) := by decide +kernel
theorem dX7_isOpen_24 : decode cX7_isOpen 24 = .ok (.iconst 1, 1) := by decide +kernel
theorem dX7_isOpen_25 : decode cX7_isOpen 25 = .ok (.goto 4, 3) := by decide +kernel
theorem dX7_isOpen_28 : decode cX7_isOpen 28 = .ok (.iconst 0, 1) := by decide +kernel
theorem dX7_isOpen_29 : decode cX7_isOpen 29 = .ok (.ireturn, 1) := by decide +kernel
theorem dX8_init_0 : decode cX8_init 0 = .ok (.aload_n 0, 1) := by decide +kernel
theorem dX8_init_1 : decode cX8_init 1 = .ok (.invokespecial 3, 3) := by decide +kernel
theorem dX8_init_4 : decode cX8_init 4 = .ok (.aload_n 0, 1) := by decide +kernel
theorem dX8_init_5 : decode cX8_init 5 = .ok (.bipush 40, 2) := by decide +kernel
theorem dX8_init_7 : decode cX8_init 7 = .ok (.anewarray 9, 3) := by decide +kernel
theorem dX8_init_10 : decode cX8_init 10 = .ok (.putfield 11, 3) := by decide +kernel
theorem dX8_init_13 : decode cX8_init 13 = .ok (.aload_n 0, 1) := by decide +kernel
theorem dX8_init_14 : decode cX8_init 14 = .ok (.new 9, 3) := by decide +kernel
theorem dX8_init_17 : decode cX8_init 17 = .ok (.dup, 1) := by decide +kernel
theorem dX8_init_18 : decode cX8_init 18 = .ok (.invokespecial 15, 3) := by decide +kernel
theorem dX8_init_21 : decode cX8_init 21 = .ok (.putfield 16, 3) := by decide +kernel
theorem dX8_init_24 : decode cX8_init 24 = .ok (.aload_n 0, 1) := by decide +kernel
theorem dX8_init_25 : decode cX8_init 25 = .ok (.bipush 8, 2) := by decide +kernel
theorem dX8_init_27 : decode cX8_init 27 = .ok (.newarray .long, 2) := by decide +kernel
theorem dX8_init_29 : decode cX8_init 29 = .ok (.putfield 20, 3) := by decide +kernel
theorem dX8_init_32 : decode cX8_init 32 = .ok (.aload_n 0, 1) := by decide +kernel
theorem dX8_init_33 : decode cX8_init 33 = .ok (.bipush 8, 2) := by decide +kernel
theorem dX8_init_35 : decode cX8_init 35 = .ok (.newarray .long, 2) := by decide +kernel
theorem dX8_init_37 : decode cX8_init 37 = .ok (.putfield 24, 3) := by decide +kernel
theorem dX8_init_40 : decode cX8_init 40 = .ok (.aload_n 0, 1) := by decide +kernel
theorem dX8_init_41 : decode cX8_init 41 = .ok (.iconst 0, 1) := by decide +kernel
theorem dX8_init_42 : decode cX8_init 42 = .ok (.putfield 27, 3) := by decide +kernel
theorem dX8_init_45 : decode cX8_init 45 = .ok (.aload_n 0, 1) := by decide +kernel
theorem dX8_init_46 : decode cX8_init 46 = .ok (.bipush 8, 2) := by decide +kernel
theorem dX8_init_48 : decode cX8_init 48 = .ok (.newarray .long, 2) := by decide +kernel
theorem dX8_init_50 : decode cX8_init 50 = .ok (.putfield 31, 3) := by decide +kernel
theorem dX8_init_53 : decode cX8_init 53 = .ok (.aload_n 0, 1) := by decide +kernel
theorem dX8_init_54 : decode cX8_init 54 = .ok (.new 34, 3) := by decide +kernel
theorem dX8_init_57 : decode cX8_init 57 = .ok (.dup, 1) := by decide +kernel
theorem dX8_init_58 : decode cX8_init 58 = .ok (.invokespecial 36, 3) := by decide +kernel
theorem dX8_init_61 : decode cX8_init 61 = .ok (.putfield 37, 3) := by decide +kernel
theorem dX8_init_64 : decode cX8_init 64 = .ok (.aload_n 0, 1) := by decide +kernel
theorem dX8_init_65 : decode cX8_init 65 = .ok (.new 41, 3) := by decide +kernel
theorem dX8_init_68 : decode cX8_init 68 = .ok (.dup, 1) := by decide +kernel
theorem dX8_init_69 : decode cX8_init 69 = .ok (.invokespecial 43, 3) := by decide +kernel
theorem dX8_init_72 : decode cX8_init 72 = .ok (.putfield 44, 3) := by decide +kernel
theorem dX8_init_75 : decode cX8_init 75 = .ok (.aload_n 0, 1) := by decide +kernel
theorem dX8_init_76 : decode cX8_init 76 = .ok (.new 48, 3) := by decide +kernel
theorem dX8_init_79 : decode cX8_init 79 = .ok (.dup, 1) := by decide +kernel
theorem dX8_init_80 : decode cX8_init 80 = .ok (.invokespecial 50, 3) := by decide +kernel
theorem dX8_init_83 : decode cX8_init 83 = .ok (.putfield 51, 3) := by decide +kernel
theorem dX8_init_86 : decode cX8_init 86 = .ok (.aload_n 0, 1) := by decide +kernel
theorem dX8_init_87 : decode cX8_init 87 = .ok (.new 55, 3) := by decide +kernel
theorem dX8_init_90 : decode cX8_init 90 = .ok (.dup, 1) := by decide +kernel
theorem dX8_init_91 : decode cX8_init 91 = .ok (.invokespecial 57, 3) := by decide +kernel
theorem dX8_init_94 : decode cX8_init 94 = .ok (.putfield 58, 3) := by decide +kernel
theorem dX8_init_97 : decode cX8_init 97 = .ok (.aload_n 0, 1) := by decide +kernel
theorem dX8_init_98 : decode cX8_init 98 = .ok (.new 62, 3) := by decide +kernel
theorem dX8_init_101 : decode cX8_init 101 = .ok (.dup, 1) := by decide +kernel
theorem dX8_init_102 : decode cX8_init 102 = .ok (.invokespecial 64, 3) := by decide +kernel
theorem dX8_init_105 : decode cX8_init 105 = .ok (.putfield 65, 3) := by decide +kernel
theorem dX8_init_108 : decode cX8_init 108 = .ok (.aload_n 0, 1) := by decide +kernel
theorem dX8_init_109 : decode cX8_init 109 = .ok (.new 69, 3) := by decide +kernel
theorem dX8_init_112 : decode cX8_init 112 = .ok (.dup, 1) := by decide +kernel
theorem dX8_init_113 : decode cX8_init 113 = .ok (.invokespecial 71, 3) := by decide +kernel
theorem dX8_init_116 : decode cX8_init 116 = .ok (.putfield 72, 3) := by decide +kernel
theorem dX8_init_119 : decode cX8_init 119 = .ok (.iconst 0, 1) := by decide +kernel
theorem dX8_init_120 : decode cX8_init 120 = .ok (.istore_n 1, 1) := by decide +kernel
theorem dX8_init_121 : decode cX8_init 121 = .ok (.iload_n 1, 1) := by decide +kernel
theorem dX8_init_122 : decode cX8_init 122 = .ok (.bipush 40, 2) := by decide +kernel
theorem dX8_init_124 : decode cX8_init 124 = .ok (.if_icmp .ge 22, 3) := by decide +kernel
theorem dX8_init_127 : decode cX8_init 127 = .ok (.aload_n 0, 1) := by decide +kernel
theorem dX8_init_128 : decode cX8_init 128 = .ok (.getfield 11, 3) := by decide +kernel
theorem dX8_init_131 : decode cX8_init 131 = .ok (.iload_n 1, 1) := by decide +kernel
theorem dX8_init_132 : decode cX8_init 132 = .ok (.new 9, 3) := by decide +kernel
theorem dX8_init_135 : decode cX8_init 135 = .ok (.dup, 1) := by decide +kernel
theorem dX8_init_136 : decode cX8_init 136 = .ok (.invokespecial 15, 3) := by decide +kernel
theorem dX8_init_139 : decode cX8_init 139 = .ok (.aastore, 1) := by decide +kernel
theorem dX8_init_140 : decode cX8_init 140 = .ok (.iinc 1 1, 3) := by decide +kernel
theorem dX8_init_143 : decode cX8_init 143 = .ok (.goto (-22), 3) := by decide +kernel
theorem dX8_init_146 : decode cX8_init 146 = .ok (.aload_n 0, 1) := by decide +kernel
theorem dX8_init_147 : decode cX8_init 147 = .ok (.getfield 16, 3) := by decide +kernel
theorem dX8_init_150 : decode cX8_init 150 = .ok (.lconst 1, 1) := by decide +kernel
theorem dX8_init_151 : decode cX8_init 151 = .ok (.lconst 1, 1) := by decide +kernel
theorem dX8_init_152 : decode cX8_init 152 = .ok (.invokevirtual 76, 3) := by decide +kernel
theorem dX8_init_155 : decode cX8_init 155 = .ok (.return_, 1) := by decide +kernel
theorem dX8_factor_0 : decode cX8_factor 0 = .ok (.iload_n 1, 1) := by decide +kernel
theorem dX8_factor_1 : decode cX8_factor 1 = .ok (.ifCond .lt 21, 3) := by decide +kernel
theorem dX8_factor_4 : decode cX8_factor 4 = .ok (.iload_n 1, 1) := by decide +kernel
theorem dX8_factor_5 : decode cX8_factor 5 = .ok (.aload_n 0, 1) := by decide +kernel
theorem dX8_factor_6 : decode cX8_factor 6 = .ok (.getfield 31, 3) := by decide +kernel
theorem dX8_factor_9 : decode cX8_factor 9 = .ok (.arraylength, 1) := by decide +kernel
theorem dX8_factor_10 : decode cX8_factor 10 = .ok (.if_icmp .ge 12, 3) := by decide +kernel
theorem dX8_factor_13 : decode cX8_factor 13 = .ok (.iload_n 2, 1) := by decide +kernel
theorem dX8_factor_14 : decode cX8_factor 14 = .ok (.ldc 108, 2) := by decide +kernel
theorem dX8_factor_16 : decode cX8_factor 16 = .ok (.invokestatic 100, 3) := by decide +kernel
theorem dX8_factor_19 : decode cX8_factor 19 = .ok (.ifCond .eq 7, 3) := by decide +kernel
theorem dX8_factor_22 : decode cX8_factor 22 = .ok (.ldc2_w 84, 3) := by decide +kernel
theorem dX8_factor_25 : decode cX8_factor 25 = .ok (.lreturn, 1) := by decide +kernel
theorem dX8_factor_26 : decode cX8_factor 26 = .ok (.aload_n 0, 1) := by decide +kernel
theorem dX8_factor_27 : decode cX8_factor 27 = .ok (.getfield 31, 3) := by decide +kernel
theorem dX8_factor_30 : decode cX8_factor 30 = .ok (.iload_n 1, 1) := by decide +kernel
theorem dX8_factor_31 : decode cX8_factor 31 = .ok (.laload, 1) := by decide +kernel
theorem dX8_factor_32 : decode cX8_factor 32 = .ok (.lstore_n 3, 1) := by decide +kernel
theorem dX8_factor_33 : decode cX8_factor 33 = .ok (.aload_n 0, 1) := by decide +kernel
theorem dX8_factor_34 : decode cX8_factor 34 = .ok (.getfield 31, 3) := by decide +kernel
theorem dX8_factor_37 : decode cX8_factor 37 = .ok (.iload_n 1, 1) := by decide +kernel
theorem dX8_factor_38 : decode cX8_factor 38 = .ok (.iload_n 2, 1) := by decide +kernel
theorem dX8_factor_39 : decode cX8_factor 39 = .ok (.i2l, 1) := by decide +kernel
theorem dX8_factor_40 : decode cX8_factor 40 = .ok (.lastore, 1) := by decide +kernel
theorem dX8_factor_41 : decode cX8_factor 41 = .ok (.lload_n 3, 1) := by decide +kernel
theorem dX8_factor_42 : decode cX8_factor 42 = .ok (.lreturn, 1) := by decide +kernel
theorem dX8_drop_0 : decode cX8_drop 0 = .ok (.aload_n 0, 1) := by decide +kernel
theorem dX8_drop_1 : decode cX8_drop 1 = .ok (.iload_n 1, 1) := by decide +kernel
theorem dX8_drop_2 : decode cX8_drop 2 = .ok (.invokevirtual 118, 3) := by decide +kernel
theorem dX8_drop_5 : decode cX8_drop 5 = .ok (.astore_n 2, 1) := by decide +kernel
theorem dX8_drop_6 : decode cX8_drop 6 = .ok (.aload_n 2, 1) := by decide +kernel
theorem dX8_drop_7 : decode cX8_drop 7 = .ok (.ifnonnull 7, 3) := by decide +kernel
theorem dX8_drop_10 : decode cX8_drop 10 = .ok (.ldc2_w 122, 3) := by decide +kernel
theorem dX8_drop_13 : decode cX8_drop 13 = .ok (.lreturn, 1) := by decide +kernel
theorem dX8_drop_14 : decode cX8_drop 14 = .ok (.aload_n 2, 1) := by decide +kernel
theorem dX8_drop_15 : decode cX8_drop 15 = .ok (.iconst 0, 1) := by decide +kernel
theorem dX8_drop_16 : decode cX8_drop 16 = .ok (.putfield 159, 3) := by decide +kernel
theorem dX8_drop_19 : decode cX8_drop 19 = .ok (.aload_n 0, 1) := by decide +kernel
theorem dX8_drop_20 : decode cX8_drop 20 = .ok (.invokevirtual 163, 3) := by decide +kernel
theorem dX8_drop_23 : decode cX8_drop 23 = .ok (.i2l, 1) := by decide +kernel
theorem dX8_drop_24 : decode cX8_drop 24 = .ok (.lreturn, 1) := by decide +kernel
theorem dX8_exact_0 : decode cX8_exact 0 = .ok (.aload_n 0, 1) := by decide +kernel
theorem dX8_exact_1 : decode cX8_exact 1 = .ok (.iload_n 1, 1) := by decide +kernel
theorem dX8_exact_2 : decode cX8_exact 2 = .ok (.invokevirtual 118, 3) := by decide +kernel
theorem dX8_exact_5 : decode cX8_exact 5 = .ok (.astore_n 3, 1) := by decide +kernel
theorem dX8_exact_6 : decode cX8_exact 6 = .ok (.aload_n 3, 1) := by decide +kernel
theorem dX8_exact_7 : decode cX8_exact 7 = .ok (.ifnonnull 7, 3) := by decide +kernel
theorem dX8_exact_10 : decode cX8_exact 10 = .ok (.ldc2_w 122, 3) := by decide +kernel
theorem dX8_exact_13 : decode cX8_exact 13 = .ok (.lreturn, 1) := by decide +kernel
theorem dX8_exact_14 : decode cX8_exact 14 = .ok (.iload_n 2, 1) := by decide +kernel
theorem dX8_exact_15 : decode cX8_exact 15 = .ok (.ifCond .lt 19, 3) := by decide +kernel
theorem dX8_exact_18 : decode cX8_exact 18 = .ok (.iload_n 2, 1) := by decide +kernel
theorem dX8_exact_19 : decode cX8_exact 19 = .ok (.aload_n 3, 1) := by decide +kernel
theorem dX8_exact_20 : decode cX8_exact 20 = .ok (.getfield 144, 3) := by decide +kernel
theorem dX8_exact_23 : decode cX8_exact 23 = .ok (.ifCond .ne 7, 3) := by decide +kernel
theorem dX8_exact_26 : decode cX8_exact 26 = .ok (.iconst 1, 1) := by decide +kernel
theorem dX8_exact_27 : decode cX8_exact 27 = .ok (.goto 4, 3) := by decide +kernel
theorem dX8_exact_30 : decode cX8_exact 30 = .ok (.iconst 3, 1) := by decide +kernel
theorem dX8_exact_31 : decode cX8_exact 31 = .ok (.if_icmp .le 7, 3) := by decide +kernel
theorem dX8_exact_34 : decode cX8_exact 34 = .ok (.ldc2_w 84, 3) := by decide +kernel
theorem dX8_exact_37 : decode cX8_exact 37 = .ok (.lreturn, 1) := by decide +kernel
theorem dX8_exact_38 : decode cX8_exact 38 = .ok (.aload_n 3, 1) := by decide +kernel
theorem dX8_exact_39 : decode cX8_exact 39 = .ok (.getfield 144, 3) := by decide +kernel
theorem dX8_exact_42 : decode cX8_exact 42 = .ok (.ifCond .ne 19, 3) := by decide +kernel
theorem dX8_exact_45 : decode cX8_exact 45 = .ok (.iload_n 2, 1) := by decide +kernel
theorem dX8_exact_46 : decode cX8_exact 46 = .ok (.ifCond .ne 10, 3) := by decide +kernel
theorem dX8_exact_49 : decode cX8_exact 49 = .ok (.aload_n 3, 1) := by decide +kernel
theorem dX8_exact_50 : decode cX8_exact 50 = .ok (.getfield 187, 3) := by decide +kernel
theorem dX8_exact_53 : decode cX8_exact 53 = .ok (.goto 7, 3) := by decide +kernel
theorem dX8_exact_56 : decode cX8_exact 56 = .ok (.aload_n 3, 1) := by decide +kernel
theorem dX8_exact_57 : decode cX8_exact 57 = .ok (.getfield 190, 3) := by decide +kernel
theorem dX8_exact_60 : decode cX8_exact 60 = .ok (.lreturn, 1) := by decide +kernel
theorem dX8_exact_61 : decode cX8_exact 61 = .ok (.aload_n 3, 1) := by decide +kernel
theorem dX8_exact_62 : decode cX8_exact 62 = .ok (.getfield 144, 3) := by decide +kernel
theorem dX8_exact_65 : decode cX8_exact 65 = .ok (.iconst 1, 1) := by decide +kernel
theorem dX8_exact_66 : decode cX8_exact 66 = .ok (.if_icmp .ne 11, 3) := by decide +kernel
theorem dX8_exact_69 : decode cX8_exact 69 = .ok (.aload_n 3, 1) := by decide +kernel
theorem dX8_exact_70 : decode cX8_exact 70 = .ok (.iload_n 2, 1) := by decide +kernel
theorem dX8_exact_71 : decode cX8_exact 71 = .ok (.invokestatic 191, 3) := by decide +kernel
theorem dX8_exact_74 : decode cX8_exact 74 = .ok (.goto 6, 3) := by decide +kernel
theorem dX8_exact_77 : decode cX8_exact 77 = .ok (.ldc2_w 109, 3) := by decide +kernel
theorem dX8_exact_80 : decode cX8_exact 80 = .ok (.lreturn, 1) := by decide +kernel
theorem dX8_figure_0 : decode cX8_figure 0 = .ok (.aload_n 0, 1) := by decide +kernel
theorem dX8_figure_1 : decode cX8_figure 1 = .ok (.iload_n 1, 1) := by decide +kernel
theorem dX8_figure_2 : decode cX8_figure 2 = .ok (.invokevirtual 118, 3) := by decide +kernel
theorem dX8_figure_5 : decode cX8_figure 5 = .ok (.astore 4, 2) := by decide +kernel
theorem dX8_figure_7 : decode cX8_figure 7 = .ok (.aload 4, 2) := by decide +kernel
theorem dX8_figure_9 : decode cX8_figure 9 = .ok (.ifnonnull 7, 3) := by decide +kernel
theorem dX8_figure_12 : decode cX8_figure 12 = .ok (.ldc2_w 122, 3) := by decide +kernel
theorem dX8_figure_15 : decode cX8_figure 15 = .ok (.lreturn, 1) := by decide +kernel
theorem dX8_figure_16 : decode cX8_figure 16 = .ok (.iload_n 2, 1) := by decide +kernel
theorem dX8_figure_17 : decode cX8_figure 17 = .ok (.iconst 2, 1) := by decide +kernel
theorem dX8_figure_18 : decode cX8_figure 18 = .ok (.if_icmp .lt 19, 3) := by decide +kernel
theorem dX8_figure_21 : decode cX8_figure 21 = .ok (.iload_n 2, 1) := by decide +kernel
theorem dX8_figure_22 : decode cX8_figure 22 = .ok (.bipush 36, 2) := by decide +kernel
theorem dX8_figure_24 : decode cX8_figure 24 = .ok (.if_icmp .gt 13, 3) := by decide +kernel
theorem dX8_figure_27 : decode cX8_figure 27 = .ok (.iload_n 3, 1) := by decide +kernel
theorem dX8_figure_28 : decode cX8_figure 28 = .ok (.ifCond .lt 9, 3) := by decide +kernel
theorem dX8_figure_31 : decode cX8_figure 31 = .ok (.iload_n 3, 1) := by decide +kernel
theorem dX8_figure_32 : decode cX8_figure 32 = .ok (.bipush 40, 2) := by decide +kernel
theorem dX8_figure_34 : decode cX8_figure 34 = .ok (.if_icmp .le 7, 3) := by decide +kernel
theorem dX8_figure_37 : decode cX8_figure 37 = .ok (.ldc2_w 84, 3) := by decide +kernel
theorem dX8_figure_40 : decode cX8_figure 40 = .ok (.lreturn, 1) := by decide +kernel
theorem dX8_figure_41 : decode cX8_figure 41 = .ok (.aload_n 0, 1) := by decide +kernel
theorem dX8_figure_42 : decode cX8_figure 42 = .ok (.getfield 58, 3) := by decide +kernel
theorem dX8_figure_45 : decode cX8_figure 45 = .ok (.aload 4, 2) := by decide +kernel
theorem dX8_figure_47 : decode cX8_figure 47 = .ok (.invokevirtual 218, 3) := by decide +kernel
theorem dX8_figure_50 : decode cX8_figure 50 = .ok (.aload 4, 2) := by decide +kernel
theorem dX8_figure_52 : decode cX8_figure 52 = .ok (.getfield 169, 3) := by decide +kernel
theorem dX8_figure_55 : decode cX8_figure 55 = .ok (.ifCond .eq 19, 3) := by decide +kernel
theorem dX8_figure_58 : decode cX8_figure 58 = .ok (.aload_n 0, 1) := by decide +kernel
theorem dX8_figure_59 : decode cX8_figure 59 = .ok (.getfield 72, 3) := by decide +kernel
theorem dX8_figure_62 : decode cX8_figure 62 = .ok (.aload 4, 2) := by decide +kernel
theorem dX8_figure_64 : decode cX8_figure 64 = .ok (.aload_n 0, 1) := by decide +kernel
theorem dX8_figure_65 : decode cX8_figure 65 = .ok (.getfield 58, 3) := by decide +kernel
theorem dX8_figure_68 : decode cX8_figure 68 = .ok (.iload_n 2, 1) := by decide +kernel
theorem dX8_figure_69 : decode cX8_figure 69 = .ok (.iload_n 3, 1) := by decide +kernel
theorem dX8_figure_70 : decode cX8_figure 70 = .ok (.invokevirtual 246, 3) := by decide +kernel
theorem dX8_figure_73 : decode cX8_figure 73 = .ok (.lreturn, 1) := by decide +kernel
theorem dX8_figure_74 : decode cX8_figure 74 = .ok (.aload_n 0, 1) := by decide +kernel
theorem dX8_figure_75 : decode cX8_figure 75 = .ok (.getfield 72, 3) := by decide +kernel
theorem dX8_figure_78 : decode cX8_figure 78 = .ok (.aload_n 0, 1) := by decide +kernel
theorem dX8_figure_79 : decode cX8_figure 79 = .ok (.getfield 58, 3) := by decide +kernel
theorem dX8_figure_82 : decode cX8_figure 82 = .ok (.iload_n 2, 1) := by decide +kernel
theorem dX8_figure_83 : decode cX8_figure 83 = .ok (.iload_n 3, 1) := by decide +kernel
theorem dX8_figure_84 : decode cX8_figure 84 = .ok (.invokevirtual 250, 3) := by decide +kernel
theorem dX8_figure_87 : decode cX8_figure 87 = .ok (.lreturn, 1) := by decide +kernel
theorem dX8_count_0 : decode cX8_count 0 = .ok (.iload_n 1, 1) := by decide +kernel
theorem dX8_count_1 : decode cX8_count 1 = .ok (.tableswitch 45 0 2 #[27, 33, 39], 27) := by decide +kernel
theorem dX8_count_28 : decode cX8_count 28 = .ok (.aload_n 0, 1) := by decide +kernel
theorem dX8_count_29 : decode cX8_count 29 = .ok (.invokevirtual 163, 3) := by decide +kernel
theorem dX8_count_32 : decode cX8_count 32 = .ok (.i2l, 1) := by decide +kernel
theorem dX8_count_33 : decode cX8_count 33 = .ok (.lreturn, 1) := by decide +kernel
theorem dX8_count_34 : decode cX8_count 34 = .ok (.aload_n 0, 1) := by decide +kernel
theorem dX8_count_35 : decode cX8_count 35 = .ok (.getfield 27, 3) := by decide +kernel
theorem dX8_count_38 : decode cX8_count 38 = .ok (.i2l, 1) := by decide +kernel
theorem dX8_count_39 : decode cX8_count 39 = .ok (.lreturn, 1) := by decide +kernel
theorem dX8_count_40 : decode cX8_count 40 = .ok (.aload_n 0, 1) := by decide +kernel
theorem dX8_count_41 : decode cX8_count 41 = .ok (.invokevirtual 261, 3) := by decide +kernel
theorem dX8_count_44 : decode cX8_count 44 = .ok (.i2l, 1) := by decide +kernel
theorem dX8_count_45 : decode cX8_count 45 = .ok (.lreturn, 1) := by decide +kernel
theorem dX8_count_46 : decode cX8_count 46 = .ok (.ldc2_w 84, 3) := by decide +kernel
theorem dX8_count_49 : decode cX8_count 49 = .ok (.lreturn, 1) := by decide +kernel
theorem dX8_howManyStreams_0 : decode cX8_howManyStreams 0 = .ok (.iconst 0, 1) := by decide +kernel
theorem dX8_howManyStreams_1 : decode cX8_howManyStreams 1 = .ok (.istore_n 1, 1) := by decide +kernel
theorem dX8_howManyStreams_2 : decode cX8_howManyStreams 2 = .ok (.iconst 0, 1) := by decide +kernel
theorem dX8_howManyStreams_3 : decode cX8_howManyStreams 3 = .ok (.istore_n 2, 1) := by decide +kernel
theorem dX8_howManyStreams_4 : decode cX8_howManyStreams 4 = .ok (.iload_n 2, 1) := by decide +kernel
theorem dX8_howManyStreams_5 : decode cX8_howManyStreams 5 = .ok (.bipush 40, 2) := by decide +kernel
theorem dX8_howManyStreams_7 : decode cX8_howManyStreams 7 = .ok (.if_icmp .ge 24, 3) := by decide +kernel
theorem dX8_howManyStreams_10 : decode cX8_howManyStreams 10 = .ok (.aload_n 0, 1) := by decide +kernel
theorem dX8_howManyStreams_11 : decode cX8_howManyStreams 11 = .ok (.getfield 11, 3) := by decide +kernel
theorem dX8_howManyStreams_14 : decode cX8_howManyStreams 14 = .ok (.iload_n 2, 1) := by decide +kernel
theorem dX8_howManyStreams_15 : decode cX8_howManyStreams 15 = .ok (.aaload, 1) := by decide +kernel
theorem dX8_howManyStreams_16 : decode cX8_howManyStreams 16 = .ok (.getfield 159, 3) := by decide +kernel
theorem dX8_howManyStreams_19 : decode cX8_howManyStreams 19 = .ok (.ifCond .eq 6, 3) := by decide +kernel
theorem dX8_howManyStreams_22 : decode cX8_howManyStreams 22 = .ok (.iinc 1 1, 3) := by decide +kernel
theorem dX8_howManyStreams_25 : decode cX8_howManyStreams 25 = .ok (.iinc 2 1, 3) := by decide +kernel
theorem dX8_howManyStreams_28 : decode cX8_howManyStreams 28 = .ok (.goto (-24), 3) := by decide +kernel
theorem dX8_howManyStreams_31 : decode cX8_howManyStreams 31 = .ok (.iload_n 1, 1) := by decide +kernel
theorem dX8_howManyStreams_32 : decode cX8_howManyStreams 32 = .ok (.ireturn, 1) := by decide +kernel
theorem dX8_howManyOpen_0 : decode cX8_howManyOpen 0 = .ok (.iconst 0, 1) := by decide +kernel
theorem dX8_howManyOpen_1 : decode cX8_howManyOpen 1 = .ok (.istore_n 1, 1) := by decide +kernel
theorem dX8_howManyOpen_2 : decode cX8_howManyOpen 2 = .ok (.iconst 0, 1) := by decide +kernel
theorem dX8_howManyOpen_3 : decode cX8_howManyOpen 3 = .ok (.istore_n 2, 1) := by decide +kernel
theorem dX8_howManyOpen_4 : decode cX8_howManyOpen 4 = .ok (.iload_n 2, 1) := by decide +kernel
theorem dX8_howManyOpen_5 : decode cX8_howManyOpen 5 = .ok (.bipush 40, 2) := by decide +kernel
theorem dX8_howManyOpen_7 : decode cX8_howManyOpen 7 = .ok (.if_icmp .ge 36, 3) := by decide +kernel
theorem dX8_howManyOpen_10 : decode cX8_howManyOpen 10 = .ok (.aload_n 0, 1) := by decide +kernel
theorem dX8_howManyOpen_11 : decode cX8_howManyOpen 11 = .ok (.getfield 11, 3) := by decide +kernel
theorem dX8_howManyOpen_14 : decode cX8_howManyOpen 14 = .ok (.iload_n 2, 1) := by decide +kernel
theorem dX8_howManyOpen_15 : decode cX8_howManyOpen 15 = .ok (.aaload, 1) := by decide +kernel
theorem dX8_howManyOpen_16 : decode cX8_howManyOpen 16 = .ok (.getfield 159, 3) := by decide +kernel
theorem dX8_howManyOpen_19 : decode cX8_howManyOpen 19 = .ok (.ifCond .eq 18, 3) := by decide +kernel
theorem dX8_howManyOpen_22 : decode cX8_howManyOpen 22 = .ok (.aload_n 0, 1) := by decide +kernel
theorem dX8_howManyOpen_23 : decode cX8_howManyOpen 23 = .ok (.getfield 11, 3) := by decide +kernel
theorem dX8_howManyOpen_26 : decode cX8_howManyOpen 26 = .ok (.iload_n 2, 1) := by decide +kernel
theorem dX8_howManyOpen_27 : decode cX8_howManyOpen 27 = .ok (.aaload, 1) := by decide +kernel
theorem dX8_howManyOpen_28 : decode cX8_howManyOpen 28 = .ok (.invokevirtual 175, 3) := by decide +kernel
theorem dX8_howManyOpen_31 : decode cX8_howManyOpen 31 = .ok (.ifCond .eq 6, 3) := by decide +kernel
theorem dX8_howManyOpen_34 : decode cX8_howManyOpen 34 = .ok (.iinc 1 1, 3) := by decide +kernel
theorem dX8_howManyOpen_37 : decode cX8_howManyOpen 37 = .ok (.iinc 2 1, 3) := by decide +kernel
theorem dX8_howManyOpen_40 : decode cX8_howManyOpen 40 = .ok (.goto (-36), 3) := by decide +kernel
theorem dX8_howManyOpen_43 : decode cX8_howManyOpen 43 = .ok (.iload_n 1, 1) := by decide +kernel
theorem dX8_howManyOpen_44 : decode cX8_howManyOpen 44 = .ok (.ireturn, 1) := by decide +kernel
theorem dX8_numberOfRoot_0 : decode cX8_numberOfRoot 0 = .ok (.iload_n 1, 1) := by decide +kernel
theorem dX8_numberOfRoot_1 : decode cX8_numberOfRoot 1 = .ok (.tableswitch 42 0 2 #[27, 32, 37], 27) := by decide +kernel
theorem dX8_numberOfRoot_28 : decode cX8_numberOfRoot 28 = .ok (.aload_n 0, 1) := by decide +kernel
theorem dX8_numberOfRoot_29 : decode cX8_numberOfRoot 29 = .ok (.getfield 187, 3) := by decide +kernel
theorem dX8_numberOfRoot_32 : decode cX8_numberOfRoot 32 = .ok (.lreturn, 1) := by decide +kernel
theorem dX8_numberOfRoot_33 : decode cX8_numberOfRoot 33 = .ok (.aload_n 0, 1) := by decide +kernel
theorem dX8_numberOfRoot_34 : decode cX8_numberOfRoot 34 = .ok (.getfield 285, 3) := by decide +kernel
theorem dX8_numberOfRoot_37 : decode cX8_numberOfRoot 37 = .ok (.lreturn, 1) := by decide +kernel
theorem dX8_numberOfRoot_38 : decode cX8_numberOfRoot 38 = .ok (.aload_n 0, 1) := by decide +kernel
theorem dX8_numberOfRoot_39 : decode cX8_numberOfRoot 39 = .ok (.getfield 282, 3) := by decide +kernel
theorem dX8_numberOfRoot_42 : decode cX8_numberOfRoot 42 = .ok (.lreturn, 1) := by decide +kernel
theorem dX8_numberOfRoot_43 : decode cX8_numberOfRoot 43 = .ok (.aload_n 0, 1) := by decide +kernel
theorem dX8_numberOfRoot_44 : decode cX8_numberOfRoot 44 = .ok (.getfield 190, 3) := by decide +kernel
theorem dX8_numberOfRoot_47 : decode cX8_numberOfRoot 47 = .ok (.lreturn, 1) := by decide +kernel
theorem dX8_beyond_0 : decode cX8_beyond 0 = .ok (.iload_n 0, 1) := by decide +kernel
theorem dX8_beyond_1 : decode cX8_beyond 1 = .ok (.iload_n 1, 1) := by decide +kernel
theorem dX8_beyond_2 : decode cX8_beyond 2 = .ok (.if_icmp .gt 9, 3) := by decide +kernel
theorem dX8_beyond_5 : decode cX8_beyond 5 = .ok (.iload_n 0, 1) := by decide +kernel
theorem dX8_beyond_6 : decode cX8_beyond 6 = .ok (.iload_n 1, 1) := by decide +kernel
theorem dX8_beyond_7 : decode cX8_beyond 7 = .ok (.ineg, 1) := by decide +kernel
theorem dX8_beyond_8 : decode cX8_beyond 8 = .ok (.if_icmp .ge 7, 3) := by decide +kernel
theorem dX8_beyond_11 : decode cX8_beyond 11 = .ok (.iconst 1, 1) := by decide +kernel
theorem dX8_beyond_12 : decode cX8_beyond 12 = .ok (.goto 4, 3) := by decide +kernel
theorem dX8_beyond_15 : decode cX8_beyond 15 = .ok (.iconst 0, 1) := by decide +kernel
theorem dX8_beyond_16 : decode cX8_beyond 16 = .ok (.ireturn, 1) := by decide +kernel
abbrev eX7_isOpen (G : GG) (R : Int32 × AH) : EE := eM G 1 (some .boolean) false 0 0 0 0 (some (.int R.1)) R.2
theorem wX7_isOpen (G : GG) (hG : GT G) (R : Int32 × AH) (a0 : Nat) (h : AH) (X : fX7_isOpen a0 h = some R) : AW (eX7_isOpen G R) RX7 cX7_isOpen 0 [some (.ref (gB G + a0))] [] h 0 0 := by
  unfold fX7_isOpen at X
  refine r_ald0 1 dX7_isOpen_0 rfl ?_
  refine r_gI 4 dX7_isOpen_1 rfl lfX7_19 rfl X (fun x101 X => ?_)
  refine r_iconst 5 _ dX7_isOpen_4 rfl ki_3 ?_
  refine r_icmp_ne 28 8 dX7_isOpen_5 (by decide) rfl X (fun _ X => ?_) (fun _ X => ?_)
  · refine r_iconst 29 _ dX7_isOpen_28 rfl ki_0 ?_
    exact r_ret0 dX7_isOpen_29 (Nat.zero_le _) (Nat.zero_le _) X
  · refine r_ald0 9 dX7_isOpen_8 rfl ?_
    refine r_gI 12 dX7_isOpen_9 rfl lfX7_26 rfl X (fun x102 X => ?_)
    refine r_if_ne 28 15 dX7_isOpen_12 (by decide) rfl X (fun _ X => ?_) (fun _ X => ?_)
    · refine r_iconst 29 _ dX7_isOpen_28 rfl ki_0 ?_
      exact r_ret0 dX7_isOpen_29 (Nat.zero_le _) (Nat.zero_le _) X
    · refine r_ald0 16 dX7_isOpen_15 rfl ?_
      refine r_gI 19 dX7_isOpen_16 rfl lfX7_23 rfl X (fun x103 X => ?_)
      refine r_bipush 21 _ dX7_isOpen_19 rfl kb_60 ?_
      refine r_icmp_ge 28 24 dX7_isOpen_21 (by decide) rfl X (fun _ X => ?_) (fun _ X => ?_)
      · refine r_iconst 29 _ dX7_isOpen_28 rfl ki_0 ?_
        exact r_ret0 dX7_isOpen_29 (Nat.zero_le _) (Nat.zero_le _) X
      · refine r_iconst 25 _ dX7_isOpen_24 rfl ki_1 ?_
        refine r_goto 29 dX7_isOpen_25 (by decide) ?_
        exact r_ret1 dX7_isOpen_29 (Nat.zero_le _) (Nat.zero_le _) X
theorem mtX7_isOpen (G : GG) (hG : GT G) {a0 : Nat} {h h' : AH} {v : Int32} (hc : fX7_isOpen a0 h = some (v, h')) : AMet G yX7_isOpen cX7_isOpen 1 (some .boolean) 0 0 0 0 [.ref (gB G + a0)] h (some (.int v)) h' :=
  amet_of false [some (.ref (gB G + a0))] (by decide +kernel) (by decide) (Nat.le_of_ble_eq_true rfl) rfl (Nat.le_of_ble_eq_true rfl) (wX7_isOpen G hG (v, h') _ h hc)
abbrev eX8_howManyOpen (G : GG) (R : Int32 × AH) : EE := eM G 3 (some .int) false 1 20 0 0 (some (.int R.1)) R.2
theorem wX8_howManyOpen_4 (G : GG) (hG : GT G) (R : Int32 × AH) {K4 : Nat → Int32 → Int32 → AH → Fn Int32} (hK4 : ∀ (l0 : Nat) (l1 : Int32) (l2 : Int32) (h : AH), K4 l0 l1 l2 h = some R → AW (eX8_howManyOpen G R) RX8 cX8_howManyOpen 4 [some (.ref (gB G + l0)), some (.int l1), some (.int l2)] [] h 0 0) (l0 : Nat) (l1 : Int32) (l2 : Int32) (h : AH) (X : fX8_howManyOpen_4 K4 l0 l1 l2 h = some R) : AW (eX8_howManyOpen G R) RX8 cX8_howManyOpen 4 [some (.ref (gB G + l0)), some (.int l1), some (.int l2)] [] h 0 0 := by
  unfold fX8_howManyOpen_4 at X
  refine r_ild2 5 dX8_howManyOpen_4 rfl ?_
  refine r_bipush 7 _ dX8_howManyOpen_5 rfl kb_40 ?_
  refine r_icmp_ge 43 10 dX8_howManyOpen_7 (by decide) rfl X (fun _ X => ?_) (fun _ X => ?_)
  · refine r_ild1 44 dX8_howManyOpen_43 rfl ?_
    exact r_retI dX8_howManyOpen_44 (Nat.zero_le _) (Nat.zero_le _) X
  · refine r_ald0 11 dX8_howManyOpen_10 rfl ?_
    refine r_gR 14 dX8_howManyOpen_11 rfl lfX8_11 rfl X (fun b101 X => ?_)
    refine r_ild2 15 dX8_howManyOpen_14 rfl ?_
    refine r_aR 16 3 dX8_howManyOpen_15 rfl rfl X (fun b102 X => ?_)
    refine r_gI 19 dX8_howManyOpen_16 rfl lfX8_159 rfl X (fun x103 X => ?_)
    refine r_if_eq 37 22 dX8_howManyOpen_19 (by decide) rfl X (fun _ X => ?_) (fun _ X => ?_)
    · refine r_iinc2w 40 dX8_howManyOpen_37 rfl rfl ki_1 X (fun x104 X => ?_)
      refine r_goto 4 dX8_howManyOpen_40 (by decide) ?_
      exact r_cut (hK4 _ _ _ _ X) ⟨rfl, ⟨rfl, ⟨rfl, trivial⟩⟩⟩
    · refine r_ald0 23 dX8_howManyOpen_22 rfl ?_
      refine r_gR 26 dX8_howManyOpen_23 rfl lfX8_11 rfl X (fun b105 X => ?_)
      refine r_ild2 27 dX8_howManyOpen_26 rfl ?_
      refine r_aR 28 3 dX8_howManyOpen_27 rfl rfl X (fun b106 X => ?_)
      obtain ⟨hs, X⟩ := r_cv X
      obtain ⟨x108, h107, hc, X⟩ := bnd_ok X
      refine r_callV0 31 dX8_howManyOpen_28 rfl lmX8_175 hs (mtX7_isOpen G hG hc) rfl ⟨(Nat.zero_le _), (Nat.zero_le _)⟩ ?_
      refine r_if_eq 37 34 dX8_howManyOpen_31 (by decide) rfl X (fun _ X => ?_) (fun _ X => ?_)
      · refine r_iinc2w 40 dX8_howManyOpen_37 rfl rfl ki_1 X (fun x109 X => ?_)
        refine r_goto 4 dX8_howManyOpen_40 (by decide) ?_
        exact r_cut (hK4 _ _ _ _ X) ⟨rfl, ⟨rfl, ⟨rfl, trivial⟩⟩⟩
      · refine r_iinc1w 37 dX8_howManyOpen_34 rfl rfl ki_1 X (fun x110 X => ?_)
        refine r_iinc2w 40 dX8_howManyOpen_37 rfl rfl ki_1 X (fun x111 X => ?_)
        refine r_goto 4 dX8_howManyOpen_40 (by decide) ?_
        exact r_cut (hK4 _ _ _ _ X) ⟨rfl, ⟨rfl, ⟨rfl, trivial⟩⟩⟩
theorem wX8_howManyOpen_4L (G : GG) (hG : GT G) (R : Int32 × AH) : ∀ (m : Nat) (l0 : Nat) (l1 : Int32) (l2 : Int32) (h : AH), fX8_howManyOpen_4L m l0 l1 l2 h = some R → AW (eX8_howManyOpen G R) RX8 cX8_howManyOpen 4 [some (.ref (gB G + l0)), some (.int l1), some (.int l2)] [] h 0 0 := by
  intro m
  induction m with
  | zero => intro l0 l1 l2 h X; exact nomatch (show (none : Fn Int32) = some R from X)
  | succ m ih => intro l0 l1 l2 h X; exact wX8_howManyOpen_4 G hG R ih l0 l1 l2 h X
theorem wX8_howManyOpen (G : GG) (hG : GT G) (R : Int32 × AH) (a0 : Nat) (h : AH) (X : fX8_howManyOpen a0 h = some R) : AW (eX8_howManyOpen G R) RX8 cX8_howManyOpen 0 [some (.ref (gB G + a0)), none, none] [] h 0 0 := by
  unfold fX8_howManyOpen at X
  refine r_iconst 1 _ dX8_howManyOpen_0 rfl ki_0 ?_
  refine r_ist1 2 dX8_howManyOpen_1 rfl rfl ?_
  refine r_iconst 3 _ dX8_howManyOpen_2 rfl ki_0 ?_
  refine r_ist2 4 dX8_howManyOpen_3 rfl rfl ?_
  exact r_cut (wX8_howManyOpen_4L G hG R 1000 _ _ _ _ X) ⟨rfl, ⟨rfl, ⟨rfl, trivial⟩⟩⟩
theorem mtX8_howManyOpen (G : GG) (hG : GT G) {a0 : Nat} {h h' : AH} {v : Int32} (hc : fX8_howManyOpen a0 h = some (v, h')) : AMet G yX8_howManyOpen cX8_howManyOpen 3 (some .int) 1 20 0 0 [.ref (gB G + a0)] h (some (.int v)) h' :=
  amet_of false [some (.ref (gB G + a0)), none, none] (by decide +kernel) (by decide) (Nat.le_of_ble_eq_true rfl) rfl (Nat.le_of_ble_eq_true rfl) (wX8_howManyOpen G hG (v, h') _ h hc)
abbrev eX8_howManyStreams (G : GG) (R : Int32 × AH) : EE := eM G 3 (some .int) false 0 0 0 0 (some (.int R.1)) R.2
theorem wX8_howManyStreams_4 (G : GG) (hG : GT G) (R : Int32 × AH) {K4 : Nat → Int32 → Int32 → AH → Fn Int32} (hK4 : ∀ (l0 : Nat) (l1 : Int32) (l2 : Int32) (h : AH), K4 l0 l1 l2 h = some R → AW (eX8_howManyStreams G R) RX8 cX8_howManyStreams 4 [some (.ref (gB G + l0)), some (.int l1), some (.int l2)] [] h 0 0) (l0 : Nat) (l1 : Int32) (l2 : Int32) (h : AH) (X : fX8_howManyStreams_4 K4 l0 l1 l2 h = some R) : AW (eX8_howManyStreams G R) RX8 cX8_howManyStreams 4 [some (.ref (gB G + l0)), some (.int l1), some (.int l2)] [] h 0 0 := by
  unfold fX8_howManyStreams_4 at X
  refine r_ild2 5 dX8_howManyStreams_4 rfl ?_
  refine r_bipush 7 _ dX8_howManyStreams_5 rfl kb_40 ?_
  refine r_icmp_ge 31 10 dX8_howManyStreams_7 (by decide) rfl X (fun _ X => ?_) (fun _ X => ?_)
  · refine r_ild1 32 dX8_howManyStreams_31 rfl ?_
    exact r_retI dX8_howManyStreams_32 (Nat.zero_le _) (Nat.zero_le _) X
  · refine r_ald0 11 dX8_howManyStreams_10 rfl ?_
    refine r_gR 14 dX8_howManyStreams_11 rfl lfX8_11 rfl X (fun b101 X => ?_)
    refine r_ild2 15 dX8_howManyStreams_14 rfl ?_
    refine r_aR 16 3 dX8_howManyStreams_15 rfl rfl X (fun b102 X => ?_)
    refine r_gI 19 dX8_howManyStreams_16 rfl lfX8_159 rfl X (fun x103 X => ?_)
    refine r_if_eq 25 22 dX8_howManyStreams_19 (by decide) rfl X (fun _ X => ?_) (fun _ X => ?_)
    · refine r_iinc2w 28 dX8_howManyStreams_25 rfl rfl ki_1 X (fun x104 X => ?_)
      refine r_goto 4 dX8_howManyStreams_28 (by decide) ?_
      exact r_cut (hK4 _ _ _ _ X) ⟨rfl, ⟨rfl, ⟨rfl, trivial⟩⟩⟩
    · refine r_iinc1w 25 dX8_howManyStreams_22 rfl rfl ki_1 X (fun x105 X => ?_)
      refine r_iinc2w 28 dX8_howManyStreams_25 rfl rfl ki_1 X (fun x106 X => ?_)
      refine r_goto 4 dX8_howManyStreams_28 (by decide) ?_
      exact r_cut (hK4 _ _ _ _ X) ⟨rfl, ⟨rfl, ⟨rfl, trivial⟩⟩⟩
theorem wX8_howManyStreams_4L (G : GG) (hG : GT G) (R : Int32 × AH) : ∀ (m : Nat) (l0 : Nat) (l1 : Int32) (l2 : Int32) (h : AH), fX8_howManyStreams_4L m l0 l1 l2 h = some R → AW (eX8_howManyStreams G R) RX8 cX8_howManyStreams 4 [some (.ref (gB G + l0)), some (.int l1), some (.int l2)] [] h 0 0 := by
  intro m
  induction m with
  | zero => intro l0 l1 l2 h X; exact nomatch (show (none : Fn Int32) = some R from X)
  | succ m ih => intro l0 l1 l2 h X; exact wX8_howManyStreams_4 G hG R ih l0 l1 l2 h X
theorem wX8_howManyStreams (G : GG) (hG : GT G) (R : Int32 × AH) (a0 : Nat) (h : AH) (X : fX8_howManyStreams a0 h = some R) : AW (eX8_howManyStreams G R) RX8 cX8_howManyStreams 0 [some (.ref (gB G + a0)), none, none] [] h 0 0 := by
  unfold fX8_howManyStreams at X
  refine r_iconst 1 _ dX8_howManyStreams_0 rfl ki_0 ?_
  refine r_ist1 2 dX8_howManyStreams_1 rfl rfl ?_
  refine r_iconst 3 _ dX8_howManyStreams_2 rfl ki_0 ?_
  refine r_ist2 4 dX8_howManyStreams_3 rfl rfl ?_
  exact r_cut (wX8_howManyStreams_4L G hG R 1000 _ _ _ _ X) ⟨rfl, ⟨rfl, ⟨rfl, trivial⟩⟩⟩
theorem mtX8_howManyStreams (G : GG) (hG : GT G) {a0 : Nat} {h h' : AH} {v : Int32} (hc : fX8_howManyStreams a0 h = some (v, h')) : AMet G yX8_howManyStreams cX8_howManyStreams 3 (some .int) 0 0 0 0 [.ref (gB G + a0)] h (some (.int v)) h' :=
  amet_of false [some (.ref (gB G + a0)), none, none] (by decide +kernel) (by decide) (Nat.le_of_ble_eq_true rfl) rfl (Nat.le_of_ble_eq_true rfl) (wX8_howManyStreams G hG (v, h') _ h hc)
abbrev eX8_count (G : GG) (R : Int64 × AH) : EE := eM G 2 (some .long) false 2 42 0 0 (some (.long R.1)) R.2
theorem wX8_count (G : GG) (hG : GT G) (R : Int64 × AH) (a0 : Nat) (x0 : Int32) (h : AH) (X : fX8_count a0 x0 h = some R) : AW (eX8_count G R) RX8 cX8_count 0 [some (.ref (gB G + a0)), some (.int x0)] [] h 0 0 := by
  unfold fX8_count at X
  refine r_ild1 1 dX8_count_0 rfl ?_
  refine r_case 28 0 0 27 dX8_count_1 (by decide) (by decide) (by decide) (by decide) X (fun _ X => ?_) (fun n0 X => ?_)
  · refine r_ald0 29 dX8_count_28 rfl ?_
    obtain ⟨hs, X⟩ := r_cv X
    obtain ⟨x105, h104, hc, X⟩ := bnd_ok X
    refine r_callV0 32 dX8_count_29 rfl lmX8_163 hs (mtX8_howManyStreams G hG hc) rfl ⟨(Nat.zero_le _), (Nat.zero_le _)⟩ ?_
    refine r_i2l 33 dX8_count_32 rfl ?_
    exact r_retL dX8_count_33 (Nat.zero_le _) (Nat.zero_le _) X
  · refine r_case 34 1 1 33 dX8_count_1 (by decide) (by decide) (by decide) (by decide) X (fun _ X => ?_) (fun n1 X => ?_)
    · refine r_ald0 35 dX8_count_34 rfl ?_
      refine r_gI 38 dX8_count_35 rfl lfX8_27 rfl X (fun x103 X => ?_)
      refine r_i2l 39 dX8_count_38 rfl ?_
      exact r_retL dX8_count_39 (Nat.zero_le _) (Nat.zero_le _) X
    · refine r_case 40 2 2 39 dX8_count_1 (by decide) (by decide) (by decide) (by decide) X (fun _ X => ?_) (fun n2 X => ?_)
      · refine r_ald0 41 dX8_count_40 rfl ?_
        obtain ⟨hs, X⟩ := r_cv X
        obtain ⟨x102, h101, hc, X⟩ := bnd_ok X
        refine r_callV0 44 dX8_count_41 rfl lmX8_261 hs (mtX8_howManyOpen G hG hc) rfl ⟨(Nat.zero_le _), (Nat.zero_le _)⟩ ?_
        refine r_i2l 45 dX8_count_44 rfl ?_
        exact r_retL dX8_count_45 (Nat.zero_le _) (Nat.zero_le _) X
      · refine r_default 46 dX8_count_1 (by omega) (by decide) ?_
        refine r_ldc2 49 dX8_count_46 rfl lkX8_84 ?_
        exact r_retL dX8_count_49 (Nat.zero_le _) (Nat.zero_le _) X
theorem mtX8_count (G : GG) (hG : GT G) {a0 : Nat} {x0 : Int32} {h h' : AH} {v : Int64} (hc : fX8_count a0 x0 h = some (v, h')) : AMet G yX8_count cX8_count 2 (some .long) 2 42 0 0 [.ref (gB G + a0), .int x0] h (some (.long v)) h' :=
  amet_of false [some (.ref (gB G + a0)), some (.int x0)] (by decide +kernel) (by decide) (Nat.le_of_ble_eq_true rfl) rfl (Nat.le_of_ble_eq_true rfl) (wX8_count G hG (v, h') _ _ h hc)
abbrev eX8_drop (G : GG) (R : Int64 × AH) : EE := eM G 3 (some .long) false 1 22 0 0 (some (.long R.1)) R.2
theorem wX8_drop (G : GG) (hG : GT G) (R : Int64 × AH) (a0 : Nat) (x0 : Int32) (h : AH) (X : fX8_drop a0 x0 h = some R) : AW (eX8_drop G R) RX8 cX8_drop 0 [some (.ref (gB G + a0)), some (.int x0), none] [] h 0 0 := by
  unfold fX8_drop at X
  refine r_ald0 1 dX8_drop_0 rfl ?_
  refine r_ild1 2 dX8_drop_1 rfl ?_
  obtain ⟨hs, X⟩ := r_cv X
  obtain ⟨r102, h101, hc, X⟩ := bnd_ok X
  refine r_callV1 5 dX8_drop_2 rfl lmX8_118 hs (mtX8_find G hG hc) rfl ⟨(Nat.zero_le _), (Nat.zero_le _)⟩ ?_
  refine r_split X (fun X => ?_) (fun b103 X => ?_)
  · refine r_astN2 6 dX8_drop_5 rfl rfl ?_
    refine r_aldN2 7 dX8_drop_6 rfl ?_
    refine r_ifnonnullN 10 dX8_drop_7 rfl ?_
    refine r_ldc2 13 dX8_drop_10 rfl lkX8_122 ?_
    exact r_retL dX8_drop_13 (Nat.zero_le _) (Nat.zero_le _) X
  · refine r_ast2 6 dX8_drop_5 rfl rfl ?_
    refine r_ald2 7 dX8_drop_6 rfl ?_
    refine r_ifnonnull 14 dX8_drop_7 (by decide) ?_
    refine r_ald2 15 dX8_drop_14 rfl ?_
    refine r_iconst 16 _ dX8_drop_15 rfl ki_0 ?_
    refine r_pZ 19 dX8_drop_16 rfl lpX8_159 rfl X (fun h104 X => ?_)
    refine r_ald0 20 dX8_drop_19 rfl ?_
    obtain ⟨hs, X⟩ := r_cv X
    obtain ⟨x106, h105, hc, X⟩ := bnd_ok X
    refine r_callV0 23 dX8_drop_20 rfl lmX8_163 hs (mtX8_howManyStreams G hG hc) rfl ⟨(Nat.zero_le _), (Nat.zero_le _)⟩ ?_
    refine r_i2l 24 dX8_drop_23 rfl ?_
    exact r_retL dX8_drop_24 (Nat.zero_le _) (Nat.zero_le _) X
theorem mtX8_drop (G : GG) (hG : GT G) {a0 : Nat} {x0 : Int32} {h h' : AH} {v : Int64} (hc : fX8_drop a0 x0 h = some (v, h')) : AMet G yX8_drop cX8_drop 3 (some .long) 1 22 0 0 [.ref (gB G + a0), .int x0] h (some (.long v)) h' :=
  amet_of false [some (.ref (gB G + a0)), some (.int x0), none] (by decide +kernel) (by decide) (Nat.le_of_ble_eq_true rfl) rfl (Nat.le_of_ble_eq_true rfl) (wX8_drop G hG (v, h') _ _ h hc)
abbrev eX8_numberOfRoot (G : GG) (R : Int64 × AH) : EE := eM G 2 (some .long) false 0 0 0 0 (some (.long R.1)) R.2
theorem wX8_numberOfRoot (G : GG) (hG : GT G) (R : Int64 × AH) (a1 : Nat) (x1 : Int32) (h : AH) (X : fX8_numberOfRoot a1 x1 h = some R) : AW (eX8_numberOfRoot G R) RX8 cX8_numberOfRoot 0 [some (.ref (gB G + a1)), some (.int x1)] [] h 0 0 := by
  unfold fX8_numberOfRoot at X
  refine r_ild1 1 dX8_numberOfRoot_0 rfl ?_
  refine r_case 28 0 0 27 dX8_numberOfRoot_1 (by decide) (by decide) (by decide) (by decide) X (fun _ X => ?_) (fun n0 X => ?_)
  · refine r_ald0 29 dX8_numberOfRoot_28 rfl ?_
    refine r_gL 32 dX8_numberOfRoot_29 rfl lfX8_187 rfl X (fun x104 X => ?_)
    exact r_retL dX8_numberOfRoot_32 (Nat.zero_le _) (Nat.zero_le _) X
  · refine r_case 33 1 1 32 dX8_numberOfRoot_1 (by decide) (by decide) (by decide) (by decide) X (fun _ X => ?_) (fun n1 X => ?_)
    · refine r_ald0 34 dX8_numberOfRoot_33 rfl ?_
      refine r_gL 37 dX8_numberOfRoot_34 rfl lfX8_285 rfl X (fun x103 X => ?_)
      exact r_retL dX8_numberOfRoot_37 (Nat.zero_le _) (Nat.zero_le _) X
    · refine r_case 38 2 2 37 dX8_numberOfRoot_1 (by decide) (by decide) (by decide) (by decide) X (fun _ X => ?_) (fun n2 X => ?_)
      · refine r_ald0 39 dX8_numberOfRoot_38 rfl ?_
        refine r_gL 42 dX8_numberOfRoot_39 rfl lfX8_282 rfl X (fun x102 X => ?_)
        exact r_retL dX8_numberOfRoot_42 (Nat.zero_le _) (Nat.zero_le _) X
      · refine r_default 43 dX8_numberOfRoot_1 (by omega) (by decide) ?_
        refine r_ald0 44 dX8_numberOfRoot_43 rfl ?_
        refine r_gL 47 dX8_numberOfRoot_44 rfl lfX8_190 rfl X (fun x101 X => ?_)
        exact r_retL dX8_numberOfRoot_47 (Nat.zero_le _) (Nat.zero_le _) X
theorem mtX8_numberOfRoot (G : GG) (hG : GT G) {a1 : Nat} {x1 : Int32} {h h' : AH} {v : Int64} (hc : fX8_numberOfRoot a1 x1 h = some (v, h')) : AMet G yX8_numberOfRoot cX8_numberOfRoot 2 (some .long) 0 0 0 0 [.ref (gB G + a1), .int x1] h (some (.long v)) h' :=
  amet_of false [some (.ref (gB G + a1)), some (.int x1)] (by decide +kernel) (by decide) (Nat.le_of_ble_eq_true rfl) rfl (Nat.le_of_ble_eq_true rfl) (wX8_numberOfRoot G hG (v, h') _ _ h hc)
abbrev eX8_exact (G : GG) (R : Int64 × AH) : EE := eM G 4 (some .long) false 1 22 0 0 (some (.long R.1)) R.2
theorem wX8_exact_31 (G : GG) (hG : GT G) (R : Int64 × AH) (l2 : Int32) (l3 : Nat) (s0 : Int32) (s1 : Int32) (h : AH) (X : fX8_exact_31 l2 l3 s0 s1 h = some R) : AW (eX8_exact G R) RX8 cX8_exact 31 [none, none, some (.int l2), some (.ref (gB G + l3))] [.int s1, .int s0] h 0 0 := by
  unfold fX8_exact_31 at X
  refine r_icmp_le 38 34 dX8_exact_31 (by decide) rfl X (fun _ X => ?_) (fun _ X => ?_)
  · refine r_ald3 39 dX8_exact_38 rfl ?_
    refine r_gI 42 dX8_exact_39 rfl lfX8_144 rfl X (fun x101 X => ?_)
    refine r_if_ne 61 45 dX8_exact_42 (by decide) rfl X (fun _ X => ?_) (fun _ X => ?_)
    · refine r_ald3 62 dX8_exact_61 rfl ?_
      refine r_gI 65 dX8_exact_62 rfl lfX8_144 rfl X (fun x102 X => ?_)
      refine r_iconst 66 _ dX8_exact_65 rfl ki_1 ?_
      refine r_icmp_ne 77 69 dX8_exact_66 (by decide) rfl X (fun _ X => ?_) (fun _ X => ?_)
      · refine r_ldc2 80 dX8_exact_77 rfl lkX8_109 ?_
        exact r_retL dX8_exact_80 (Nat.zero_le _) (Nat.zero_le _) X
      · refine r_ald3 70 dX8_exact_69 rfl ?_
        refine r_ild2 71 dX8_exact_70 rfl ?_
        obtain ⟨x104, h103, hc, X⟩ := bnd_ok X
        refine r_callS2 74 dX8_exact_71 rfl lmX8_191 (mtX8_numberOfRoot G hG hc) rfl ⟨(Nat.zero_le _), (Nat.zero_le _)⟩ ?_
        refine r_goto 80 dX8_exact_74 (by decide) ?_
        exact r_retL dX8_exact_80 (Nat.zero_le _) (Nat.zero_le _) X
    · refine r_ild2 46 dX8_exact_45 rfl ?_
      refine r_if_ne 56 49 dX8_exact_46 (by decide) rfl X (fun _ X => ?_) (fun _ X => ?_)
      · refine r_ald3 57 dX8_exact_56 rfl ?_
        refine r_gL 60 dX8_exact_57 rfl lfX8_190 rfl X (fun x105 X => ?_)
        exact r_retL dX8_exact_60 (Nat.zero_le _) (Nat.zero_le _) X
      · refine r_ald3 50 dX8_exact_49 rfl ?_
        refine r_gL 53 dX8_exact_50 rfl lfX8_187 rfl X (fun x106 X => ?_)
        refine r_goto 60 dX8_exact_53 (by decide) ?_
        exact r_retL dX8_exact_60 (Nat.zero_le _) (Nat.zero_le _) X
  · refine r_ldc2 37 dX8_exact_34 rfl lkX8_84 ?_
    exact r_retL dX8_exact_37 (Nat.zero_le _) (Nat.zero_le _) X
theorem wX8_exact (G : GG) (hG : GT G) (R : Int64 × AH) (a0 : Nat) (x0 : Int32) (x1 : Int32) (h : AH) (X : fX8_exact a0 x0 x1 h = some R) : AW (eX8_exact G R) RX8 cX8_exact 0 [some (.ref (gB G + a0)), some (.int x0), some (.int x1), none] [] h 0 0 := by
  unfold fX8_exact at X
  refine r_ald0 1 dX8_exact_0 rfl ?_
  refine r_ild1 2 dX8_exact_1 rfl ?_
  obtain ⟨hs, X⟩ := r_cv X
  obtain ⟨r102, h101, hc, X⟩ := bnd_ok X
  refine r_callV1 5 dX8_exact_2 rfl lmX8_118 hs (mtX8_find G hG hc) rfl ⟨(Nat.zero_le _), (Nat.zero_le _)⟩ ?_
  refine r_split X (fun X => ?_) (fun b103 X => ?_)
  · refine r_astN3 6 dX8_exact_5 rfl rfl ?_
    refine r_aldN3 7 dX8_exact_6 rfl ?_
    refine r_ifnonnullN 10 dX8_exact_7 rfl ?_
    refine r_ldc2 13 dX8_exact_10 rfl lkX8_122 ?_
    exact r_retL dX8_exact_13 (Nat.zero_le _) (Nat.zero_le _) X
  · refine r_ast3 6 dX8_exact_5 rfl rfl ?_
    refine r_ald3 7 dX8_exact_6 rfl ?_
    refine r_ifnonnull 14 dX8_exact_7 (by decide) ?_
    refine r_ild2 15 dX8_exact_14 rfl ?_
    refine r_if_lt 34 18 dX8_exact_15 (by decide) rfl X (fun _ X => ?_) (fun _ X => ?_)
    · refine r_ldc2 37 dX8_exact_34 rfl lkX8_84 ?_
      exact r_retL dX8_exact_37 (Nat.zero_le _) (Nat.zero_le _) X
    · refine r_ild2 19 dX8_exact_18 rfl ?_
      refine r_ald3 20 dX8_exact_19 rfl ?_
      refine r_gI 23 dX8_exact_20 rfl lfX8_144 rfl X (fun x104 X => ?_)
      refine r_if_ne 30 26 dX8_exact_23 (by decide) rfl X (fun _ X => ?_) (fun _ X => ?_)
      · refine r_iconst 31 _ dX8_exact_30 rfl ki_3 ?_
        exact r_cut (wX8_exact_31 G hG R _ _ _ _ _ X) ⟨rfl, ⟨rfl, trivial⟩⟩
      · refine r_iconst 27 _ dX8_exact_26 rfl ki_1 ?_
        refine r_goto 31 dX8_exact_27 (by decide) ?_
        exact r_cut (wX8_exact_31 G hG R _ _ _ _ _ X) ⟨rfl, ⟨rfl, trivial⟩⟩
theorem mtX8_exact (G : GG) (hG : GT G) {a0 : Nat} {x0 : Int32} {x1 : Int32} {h h' : AH} {v : Int64} (hc : fX8_exact a0 x0 x1 h = some (v, h')) : AMet G yX8_exact cX8_exact 4 (some .long) 1 22 0 0 [.ref (gB G + a0), .int x0, .int x1] h (some (.long v)) h' :=
  amet_of false [some (.ref (gB G + a0)), some (.int x0), some (.int x1), none] (by decide +kernel) (by decide) (Nat.le_of_ble_eq_true rfl) rfl (Nat.le_of_ble_eq_true rfl) (wX8_exact G hG (v, h') _ _ _ h hc)
abbrev eX8_beyond (G : GG) (R : Int32 × AH) : EE := eM G 2 (some .boolean) false 0 0 0 0 (some (.int R.1)) R.2
theorem wX8_beyond (G : GG) (hG : GT G) (R : Int32 × AH) (x0 : Int32) (x1 : Int32) (h : AH) (X : fX8_beyond x0 x1 h = some R) : AW (eX8_beyond G R) RX8 cX8_beyond 0 [some (.int x0), some (.int x1)] [] h 0 0 := by
  unfold fX8_beyond at X
  refine r_ild0 1 dX8_beyond_0 rfl ?_
  refine r_ild1 2 dX8_beyond_1 rfl ?_
  refine r_icmp_gt 11 5 dX8_beyond_2 (by decide) rfl X (fun _ X => ?_) (fun _ X => ?_)
  · refine r_iconst 12 _ dX8_beyond_11 rfl ki_1 ?_
    refine r_goto 16 dX8_beyond_12 (by decide) ?_
    exact r_ret1 dX8_beyond_16 (Nat.zero_le _) (Nat.zero_le _) X
  · refine r_ild0 6 dX8_beyond_5 rfl ?_
    refine r_ild1 7 dX8_beyond_6 rfl ?_
    refine r_ineg 8 dX8_beyond_7 rfl ?_
    refine r_icmp_ge 15 11 dX8_beyond_8 (by decide) rfl X (fun _ X => ?_) (fun _ X => ?_)
    · refine r_iconst 16 _ dX8_beyond_15 rfl ki_0 ?_
      exact r_ret0 dX8_beyond_16 (Nat.zero_le _) (Nat.zero_le _) X
    · refine r_iconst 12 _ dX8_beyond_11 rfl ki_1 ?_
      refine r_goto 16 dX8_beyond_12 (by decide) ?_
      exact r_ret1 dX8_beyond_16 (Nat.zero_le _) (Nat.zero_le _) X
theorem mtX8_beyond (G : GG) (hG : GT G) {x0 : Int32} {x1 : Int32} {h h' : AH} {v : Int32} (hc : fX8_beyond x0 x1 h = some (v, h')) : AMet G yX8_beyond cX8_beyond 2 (some .boolean) 0 0 0 0 [.int x0, .int x1] h (some (.int v)) h' :=
  amet_of false [some (.int x0), some (.int x1)] (by decide +kernel) (by decide) (Nat.le_of_ble_eq_true rfl) rfl (Nat.le_of_ble_eq_true rfl) (wX8_beyond G hG (v, h') _ _ h hc)
abbrev eX8_factor (G : GG) (R : Int64 × AH) : EE := eM G 5 (some .long) false 1 21 0 0 (some (.long R.1)) R.2
theorem wX8_factor (G : GG) (hG : GT G) (R : Int64 × AH) (a0 : Nat) (x0 : Int32) (x1 : Int32) (h : AH) (X : fX8_factor a0 x0 x1 h = some R) : AW (eX8_factor G R) RX8 cX8_factor 0 [some (.ref (gB G + a0)), some (.int x0), some (.int x1), none, none] [] h 0 0 := by
  unfold fX8_factor at X
  refine r_ild1 1 dX8_factor_0 rfl ?_
  refine r_if_lt 22 4 dX8_factor_1 (by decide) rfl X (fun _ X => ?_) (fun _ X => ?_)
  · refine r_ldc2 25 dX8_factor_22 rfl lkX8_84 ?_
    exact r_retL dX8_factor_25 (Nat.zero_le _) (Nat.zero_le _) X
  · refine r_ild1 5 dX8_factor_4 rfl ?_
    refine r_ald0 6 dX8_factor_5 rfl ?_
    refine r_gR 9 dX8_factor_6 rfl lfX8_31 rfl X (fun b101 X => ?_)
    refine r_aN 10 1 dX8_factor_9 rfl rfl X (fun x102 X => ?_)
    refine r_icmp_ge 22 13 dX8_factor_10 (by decide) rfl X (fun _ X => ?_) (fun _ X => ?_)
    · refine r_ldc2 25 dX8_factor_22 rfl lkX8_84 ?_
      exact r_retL dX8_factor_25 (Nat.zero_le _) (Nat.zero_le _) X
    · refine r_ild2 14 dX8_factor_13 rfl ?_
      refine r_ldc 16 dX8_factor_14 rfl lkX8_108 ?_
      obtain ⟨x104, h103, hc, X⟩ := bnd_ok X
      refine r_callS2 19 dX8_factor_16 rfl lmX8_100 (mtX8_beyond G hG hc) rfl ⟨(Nat.zero_le _), (Nat.zero_le _)⟩ ?_
      refine r_if_eq 26 22 dX8_factor_19 (by decide) rfl X (fun _ X => ?_) (fun _ X => ?_)
      · refine r_ald0 27 dX8_factor_26 rfl ?_
        refine r_gR 30 dX8_factor_27 rfl lfX8_31 rfl X (fun b105 X => ?_)
        refine r_ild1 31 dX8_factor_30 rfl ?_
        refine r_aL 32 1 dX8_factor_31 rfl rfl X (fun x106 X => ?_)
        refine r_lst3 33 dX8_factor_32 rfl rfl ?_
        refine r_ald0 34 dX8_factor_33 rfl ?_
        refine r_gR 37 dX8_factor_34 rfl lfX8_31 rfl X (fun b107 X => ?_)
        refine r_ild1 38 dX8_factor_37 rfl ?_
        refine r_ild2 39 dX8_factor_38 rfl ?_
        refine r_i2l 40 dX8_factor_39 rfl ?_
        refine r_zL 41 1 dX8_factor_40 rfl rfl X (fun h108 X => ?_)
        refine r_lld3 42 dX8_factor_41 rfl ?_
        exact r_retL dX8_factor_42 (Nat.zero_le _) (Nat.zero_le _) X
      · refine r_ldc2 25 dX8_factor_22 rfl lkX8_84 ?_
        exact r_retL dX8_factor_25 (Nat.zero_le _) (Nat.zero_le _) X
theorem mtX8_factor (G : GG) (hG : GT G) {a0 : Nat} {x0 : Int32} {x1 : Int32} {h h' : AH} {v : Int64} (hc : fX8_factor a0 x0 x1 h = some (v, h')) : AMet G yX8_factor cX8_factor 5 (some .long) 1 21 0 0 [.ref (gB G + a0), .int x0, .int x1] h (some (.long v)) h' :=
  amet_of false [some (.ref (gB G + a0)), some (.int x0), some (.int x1), none, none] (by decide +kernel) (by decide) (Nat.le_of_ble_eq_true rfl) rfl (Nat.le_of_ble_eq_true rfl) (wX8_factor G hG (v, h') _ _ _ h hc)
abbrev eX0_splitLow (G : GG) (R : Unit × AH) : EE := eM G 5 none false 2 48 0 0 none R.2
theorem wX0_splitLow (G : GG) (hG : GT G) (R : Unit × AH) (a0 : Nat) (x0 : Int64) (x1 : Int64) (h : AH) (X : fX0_splitLow a0 x0 x1 h = some R) : AW (eX0_splitLow G R) RX0 cX0_splitLow 0 [some (.ref (gB G + a0)), some (.long x0), none, some (.long x1), none] [] h 0 0 := by
  unfold fX0_splitLow at X
  refine r_ald0 1 dX0_splitLow_0 rfl ?_
  refine r_lld1 2 dX0_splitLow_1 rfl ?_
  refine r_lld3 3 dX0_splitLow_2 rfl ?_
  obtain ⟨x102, h101, hc, X⟩ := bnd_ok X
  refine r_callS2 6 dX0_splitLow_3 rfl lmX0_67 (mtX8_floorOf G hG hc) rfl ⟨(Nat.zero_le _), (Nat.zero_le _)⟩ ?_
  refine r_pL 9 dX0_splitLow_6 rfl lpX0_9 rfl X (fun h103 X => ?_)
  refine r_ald0 10 dX0_splitLow_9 rfl ?_
  refine r_lld1 11 dX0_splitLow_10 rfl ?_
  refine r_ald0 12 dX0_splitLow_11 rfl ?_
  refine r_gL 15 dX0_splitLow_12 rfl lfX0_9 rfl X (fun x104 X => ?_)
  refine r_lld3 16 dX0_splitLow_15 rfl ?_
  refine r_lmul 17 dX0_splitLow_16 rfl ?_
  refine r_lsub 18 dX0_splitLow_17 rfl ?_
  refine r_pL 21 dX0_splitLow_18 rfl lpX0_15 rfl X (fun h105 X => ?_)
  exact r_retV dX0_splitLow_21 (Nat.zero_le _) (Nat.zero_le _) X
theorem mtX0_splitLow (G : GG) (hG : GT G) {a0 : Nat} {x0 : Int64} {x1 : Int64} {h h' : AH} {v : Unit} (hc : fX0_splitLow a0 x0 x1 h = some (v, h')) : AMet G yX0_splitLow cX0_splitLow 5 none 2 48 0 0 [.ref (gB G + a0), .long x0, .long x1] h none h' :=
  amet_of false [some (.ref (gB G + a0)), some (.long x0), none, some (.long x1), none] (by decide +kernel) (by decide) (Nat.le_of_ble_eq_true rfl) rfl (Nat.le_of_ble_eq_true rfl) (wX0_splitLow G hG (v, h') _ _ _ h hc)
abbrev eX0_ofRatio (G : GG) (R : Int64 × AH) : EE := eM G 8 (some .long) false 3 72 0 0 (some (.long R.1)) R.2
theorem wX0_ofRatio_64 (G : GG) (hG : GT G) (R : Int64 × AH) {K64 : Nat → Int32 → Int32 → Int64 → Int32 → AH → Fn Int64} (hK64 : ∀ (l0 : Nat) (l3 : Int32) (l4 : Int32) (l5 : Int64) (l7 : Int32) (h : AH), K64 l0 l3 l4 l5 l7 h = some R → AW (eX0_ofRatio G R) RX0 cX0_ofRatio 64 [some (.ref (gB G + l0)), none, none, some (.int l3), some (.int l4), some (.long l5), none, some (.int l7)] [] h 0 0) (l0 : Nat) (l3 : Int32) (l4 : Int32) (l5 : Int64) (l7 : Int32) (h : AH) (X : fX0_ofRatio_64 K64 l0 l3 l4 l5 l7 h = some R) : AW (eX0_ofRatio G R) RX0 cX0_ofRatio 64 [some (.ref (gB G + l0)), none, none, some (.int l3), some (.int l4), some (.long l5), none, some (.int l7)] [] h 0 0 := by
  unfold fX0_ofRatio_64 at X
  refine r_ild7 66 dX0_ofRatio_64 rfl ?_
  refine r_ild4 68 dX0_ofRatio_66 rfl ?_
  refine r_icmp_gt 90 71 dX0_ofRatio_68 (by decide) rfl X (fun _ X => ?_) (fun _ X => ?_)
  · refine r_ald0 91 dX0_ofRatio_90 rfl ?_
    refine r_gL 94 dX0_ofRatio_91 rfl lfX0_9 rfl X (fun x101 X => ?_)
    exact r_retL dX0_ofRatio_94 (Nat.zero_le _) (Nat.zero_le _) X
  · refine r_ald0 72 dX0_ofRatio_71 rfl ?_
    refine r_ald0 73 dX0_ofRatio_72 rfl ?_
    refine r_gL 76 dX0_ofRatio_73 rfl lfX0_15 rfl X (fun x102 X => ?_)
    refine r_ild3 77 dX0_ofRatio_76 rfl ?_
    refine r_i2l 78 dX0_ofRatio_77 rfl ?_
    refine r_lmul 79 dX0_ofRatio_78 rfl ?_
    refine r_lld5 81 dX0_ofRatio_79 rfl ?_
    obtain ⟨hs, X⟩ := r_cv X
    obtain ⟨_, h103, hc, X⟩ := bnd_ok X
    refine r_callV2v 84 dX0_ofRatio_81 rfl lmX0_54 hs (mtX0_splitLow G hG hc) rfl ⟨(Nat.zero_le _), (Nat.zero_le _)⟩ ?_
    refine r_iinc7w 87 dX0_ofRatio_84 rfl rfl ki_1 X (fun x104 X => ?_)
    refine r_goto 64 dX0_ofRatio_87 (by decide) ?_
    exact r_cut (hK64 _ _ _ _ _ _ X) ⟨rfl, ⟨rfl, ⟨rfl, ⟨rfl, ⟨rfl, trivial⟩⟩⟩⟩⟩
theorem wX0_ofRatio_64L (G : GG) (hG : GT G) (R : Int64 × AH) : ∀ (m : Nat) (l0 : Nat) (l3 : Int32) (l4 : Int32) (l5 : Int64) (l7 : Int32) (h : AH), fX0_ofRatio_64L m l0 l3 l4 l5 l7 h = some R → AW (eX0_ofRatio G R) RX0 cX0_ofRatio 64 [some (.ref (gB G + l0)), none, none, some (.int l3), some (.int l4), some (.long l5), none, some (.int l7)] [] h 0 0 := by
  intro m
  induction m with
  | zero => intro l0 l3 l4 l5 l7 h X; exact nomatch (show (none : Fn Int64) = some R from X)
  | succ m ih => intro l0 l3 l4 l5 l7 h X; exact wX0_ofRatio_64 G hG R ih l0 l3 l4 l5 l7 h X
theorem wX0_ofRatio (G : GG) (hG : GT G) (R : Int64 × AH) (a0 : Nat) (a1 : Nat) (a2 : Nat) (x2 : Int32) (x3 : Int32) (h : AH) (X : fX0_ofRatio a0 a1 a2 x2 x3 h = some R) : AW (eX0_ofRatio G R) RX0 cX0_ofRatio 0 [some (.ref (gB G + a0)), some (.ref (gB G + a1)), some (.ref (gB G + a2)), some (.int x2), some (.int x3), none, none, none] [] h 0 0 := by
  unfold fX0_ofRatio at X
  refine r_ald2 1 dX0_ofRatio_0 rfl ?_
  refine r_gI 4 dX0_ofRatio_1 rfl lfX0_24 rfl X (fun x101 X => ?_)
  refine r_ald1 5 dX0_ofRatio_4 rfl ?_
  refine r_gI 8 dX0_ofRatio_5 rfl lfX0_30 rfl X (fun x102 X => ?_)
  refine r_icmp_ge 15 11 dX0_ofRatio_8 (by decide) rfl X (fun _ X => ?_) (fun _ X => ?_)
  · refine r_ald2 16 dX0_ofRatio_15 rfl ?_
    refine r_ald2 17 dX0_ofRatio_16 rfl ?_
    refine r_gI 20 dX0_ofRatio_17 rfl lfX0_24 rfl X (fun x103 X => ?_)
    refine r_iconst 21 _ dX0_ofRatio_20 rfl ki_1 ?_
    refine r_isub 22 dX0_ofRatio_21 rfl ?_
    obtain ⟨hs, X⟩ := r_cv X
    obtain ⟨x105, h104, hc, X⟩ := bnd_ok X
    refine r_callV1 25 dX0_ofRatio_22 rfl lmX0_37 hs (mtX2_lowerAt G hG hc) rfl ⟨(Nat.zero_le _), (Nat.zero_le _)⟩ ?_
    refine r_lst5 27 dX0_ofRatio_25 rfl rfl ?_
    refine r_ldc2 30 dX0_ofRatio_27 rfl lkX0_41 ?_
    refine r_lld5 32 dX0_ofRatio_30 rfl ?_
    obtain ⟨x107, h106, hc, X⟩ := bnd_ok X
    refine r_callS2 35 dX0_ofRatio_32 rfl lmX0_43 (mtX8_times G hG hc) rfl ⟨(Nat.zero_le _), (Nat.zero_le _)⟩ ?_
    obtain ⟨x109, h108, hc, X⟩ := bnd_ok X
    refine r_callS1 38 dX0_ofRatio_35 rfl lmX0_47 (mtX8_isFar G hG hc) rfl ⟨(Nat.zero_le _), (Nat.zero_le _)⟩ ?_
    refine r_if_eq 45 41 dX0_ofRatio_38 (by decide) rfl X (fun _ X => ?_) (fun _ X => ?_)
    · refine r_ald0 46 dX0_ofRatio_45 rfl ?_
      refine r_ald2 47 dX0_ofRatio_46 rfl ?_
      refine r_ald2 48 dX0_ofRatio_47 rfl ?_
      refine r_gI 51 dX0_ofRatio_48 rfl lfX0_24 rfl X (fun x110 X => ?_)
      refine r_iconst 52 _ dX0_ofRatio_51 rfl ki_1 ?_
      refine r_isub 53 dX0_ofRatio_52 rfl ?_
      obtain ⟨hs, X⟩ := r_cv X
      obtain ⟨x112, h111, hc, X⟩ := bnd_ok X
      refine r_callV1 56 dX0_ofRatio_53 rfl lmX0_51 hs (mtX2_upperAt G hG hc) rfl ⟨(Nat.zero_le _), (Nat.zero_le _)⟩ ?_
      refine r_lld5 58 dX0_ofRatio_56 rfl ?_
      obtain ⟨hs, X⟩ := r_cv X
      obtain ⟨_, h113, hc, X⟩ := bnd_ok X
      refine r_callV2v 61 dX0_ofRatio_58 rfl lmX0_54 hs (mtX0_splitLow G hG hc) rfl ⟨(Nat.zero_le _), (Nat.zero_le _)⟩ ?_
      refine r_iconst 62 _ dX0_ofRatio_61 rfl ki_1 ?_
      refine r_ist7 64 dX0_ofRatio_62 rfl rfl ?_
      exact r_cut (wX0_ofRatio_64L G hG R 1000 _ _ _ _ _ _ X) ⟨rfl, ⟨rfl, ⟨rfl, ⟨rfl, ⟨rfl, trivial⟩⟩⟩⟩⟩
    · refine r_ldc2 44 dX0_ofRatio_41 rfl lkX0_35 ?_
      exact r_retL dX0_ofRatio_44 (Nat.zero_le _) (Nat.zero_le _) X
  · refine r_ldc2 14 dX0_ofRatio_11 rfl lkX0_35 ?_
    exact r_retL dX0_ofRatio_14 (Nat.zero_le _) (Nat.zero_le _) X
theorem mtX0_ofRatio (G : GG) (hG : GT G) {a0 : Nat} {a1 : Nat} {a2 : Nat} {x2 : Int32} {x3 : Int32} {h h' : AH} {v : Int64} (hc : fX0_ofRatio a0 a1 a2 x2 x3 h = some (v, h')) : AMet G yX0_ofRatio cX0_ofRatio 8 (some .long) 3 72 0 0 [.ref (gB G + a0), .ref (gB G + a1), .ref (gB G + a2), .int x2, .int x3] h (some (.long v)) h' :=
  amet_of false [some (.ref (gB G + a0)), some (.ref (gB G + a1)), some (.ref (gB G + a2)), some (.int x2), some (.int x3), none, none, none] (by decide +kernel) (by decide) (Nat.le_of_ble_eq_true rfl) rfl (Nat.le_of_ble_eq_true rfl) (wX0_ofRatio G hG (v, h') _ _ _ _ _ h hc)
abbrev eX0_splitHigh (G : GG) (R : Unit × AH) : EE := eM G 5 none false 2 48 0 0 none R.2
theorem wX0_splitHigh (G : GG) (hG : GT G) (R : Unit × AH) (a0 : Nat) (x0 : Int64) (x1 : Int64) (h : AH) (X : fX0_splitHigh a0 x0 x1 h = some R) : AW (eX0_splitHigh G R) RX0 cX0_splitHigh 0 [some (.ref (gB G + a0)), some (.long x0), none, some (.long x1), none] [] h 0 0 := by
  unfold fX0_splitHigh at X
  refine r_ald0 1 dX0_splitHigh_0 rfl ?_
  refine r_lld1 2 dX0_splitHigh_1 rfl ?_
  refine r_lneg 3 dX0_splitHigh_2 rfl ?_
  refine r_lld3 4 dX0_splitHigh_3 rfl ?_
  obtain ⟨x102, h101, hc, X⟩ := bnd_ok X
  refine r_callS2 7 dX0_splitHigh_4 rfl lmX0_67 (mtX8_floorOf G hG hc) rfl ⟨(Nat.zero_le _), (Nat.zero_le _)⟩ ?_
  refine r_lneg 8 dX0_splitHigh_7 rfl ?_
  refine r_lconst 9 _ dX0_splitHigh_8 rfl kl_1 ?_
  refine r_lsub 10 dX0_splitHigh_9 rfl ?_
  refine r_pL 13 dX0_splitHigh_10 rfl lpX0_18 rfl X (fun h103 X => ?_)
  refine r_ald0 14 dX0_splitHigh_13 rfl ?_
  refine r_lld1 15 dX0_splitHigh_14 rfl ?_
  refine r_ald0 16 dX0_splitHigh_15 rfl ?_
  refine r_gL 19 dX0_splitHigh_16 rfl lfX0_18 rfl X (fun x104 X => ?_)
  refine r_lld3 20 dX0_splitHigh_19 rfl ?_
  refine r_lmul 21 dX0_splitHigh_20 rfl ?_
  refine r_lsub 22 dX0_splitHigh_21 rfl ?_
  refine r_pL 25 dX0_splitHigh_22 rfl lpX0_21 rfl X (fun h105 X => ?_)
  exact r_retV dX0_splitHigh_25 (Nat.zero_le _) (Nat.zero_le _) X
theorem mtX0_splitHigh (G : GG) (hG : GT G) {a0 : Nat} {x0 : Int64} {x1 : Int64} {h h' : AH} {v : Unit} (hc : fX0_splitHigh a0 x0 x1 h = some (v, h')) : AMet G yX0_splitHigh cX0_splitHigh 5 none 2 48 0 0 [.ref (gB G + a0), .long x0, .long x1] h none h' :=
  amet_of false [some (.ref (gB G + a0)), some (.long x0), none, some (.long x1), none] (by decide +kernel) (by decide) (Nat.le_of_ble_eq_true rfl) rfl (Nat.le_of_ble_eq_true rfl) (wX0_splitHigh G hG (v, h') _ _ _ h hc)
abbrev eX2_isSmall (G : GG) (R : Int32 × AH) : EE := eM G 2 (some .boolean) false 0 0 0 0 (some (.int R.1)) R.2
theorem wX2_isSmall (G : GG) (hG : GT G) (R : Int32 × AH) (x0 : Int64) (h : AH) (X : fX2_isSmall x0 h = some R) : AW (eX2_isSmall G R) RX2 cX2_isSmall 0 [some (.long x0), none] [] h 0 0 := by
  unfold fX2_isSmall at X
  refine r_lld0 1 dX2_isSmall_0 rfl ?_
  refine r_ldc2 4 dX2_isSmall_1 rfl lkX2_51 ?_
  refine r_lif_gt 20 8 dX2_isSmall_4 dX2_isSmall_5 (by decide) rfl X (fun _ X => ?_) (fun _ X => ?_)
  · refine r_iconst 21 _ dX2_isSmall_20 rfl ki_0 ?_
    exact r_ret0 dX2_isSmall_21 (Nat.zero_le _) (Nat.zero_le _) X
  · refine r_lld0 9 dX2_isSmall_8 rfl ?_
    refine r_ldc2 12 dX2_isSmall_9 rfl lkX2_53 ?_
    refine r_lif_lt 20 16 dX2_isSmall_12 dX2_isSmall_13 (by decide) rfl X (fun _ X => ?_) (fun _ X => ?_)
    · refine r_iconst 21 _ dX2_isSmall_20 rfl ki_0 ?_
      exact r_ret0 dX2_isSmall_21 (Nat.zero_le _) (Nat.zero_le _) X
    · refine r_iconst 17 _ dX2_isSmall_16 rfl ki_1 ?_
      refine r_goto 21 dX2_isSmall_17 (by decide) ?_
      exact r_ret1 dX2_isSmall_21 (Nat.zero_le _) (Nat.zero_le _) X
theorem mtX2_isSmall (G : GG) (hG : GT G) {x0 : Int64} {h h' : AH} {v : Int32} (hc : fX2_isSmall x0 h = some (v, h')) : AMet G yX2_isSmall cX2_isSmall 2 (some .boolean) 0 0 0 0 [.long x0] h (some (.int v)) h' :=
  amet_of false [some (.long x0), none] (by decide +kernel) (by decide) (Nat.le_of_ble_eq_true rfl) rfl (Nat.le_of_ble_eq_true rfl) (wX2_isSmall G hG (v, h') _ h hc)
abbrev eX2_lastForSpan (G : GG) (R : Int32 × AH) : EE := eM G 3 (some .int) false 1 21 0 0 (some (.int R.1)) R.2
theorem wX2_lastForSpan_90 (G : GG) (hG : GT G) (R : Int32 × AH) (l0 : Nat) (h : AH) (X : fX2_lastForSpan_90 l0 h = some R) : AW (eX2_lastForSpan G R) RX2 cX2_lastForSpan 90 [some (.ref (gB G + l0)), none, none] [] h 0 0 := by
  unfold fX2_lastForSpan_90 at X
  refine r_ald0 91 dX2_lastForSpan_90 rfl ?_
  refine r_gI 94 dX2_lastForSpan_91 rfl lfX2_18 rfl X (fun x101 X => ?_)
  refine r_iconst 95 _ dX2_lastForSpan_94 rfl ki_1 ?_
  refine r_isub 96 dX2_lastForSpan_95 rfl ?_
  exact r_retI dX2_lastForSpan_96 (Nat.zero_le _) (Nat.zero_le _) X
theorem wX2_lastForSpan_80 (G : GG) (hG : GT G) (R : Int32 × AH) (l1 : Int32) (h : AH) (X : fX2_lastForSpan_80 l1 h = some R) : AW (eX2_lastForSpan G R) RX2 cX2_lastForSpan 80 [none, some (.int l1), none] [] h 0 0 := by
  unfold fX2_lastForSpan_80 at X
  refine r_ild1 81 dX2_lastForSpan_80 rfl ?_
  refine r_iconst 82 _ dX2_lastForSpan_81 rfl ki_1 ?_
  refine r_isub 83 dX2_lastForSpan_82 rfl ?_
  exact r_retI dX2_lastForSpan_83 (Nat.zero_le _) (Nat.zero_le _) X
theorem wX2_lastForSpan_2 (G : GG) (hG : GT G) (R : Int32 × AH) {K2 : Nat → Int32 → AH → Fn Int32} (hK2 : ∀ (l0 : Nat) (l1 : Int32) (h : AH), K2 l0 l1 h = some R → AW (eX2_lastForSpan G R) RX2 cX2_lastForSpan 2 [some (.ref (gB G + l0)), some (.int l1), none] [] h 0 0) (l0 : Nat) (l1 : Int32) (h : AH) (X : fX2_lastForSpan_2 K2 l0 l1 h = some R) : AW (eX2_lastForSpan G R) RX2 cX2_lastForSpan 2 [some (.ref (gB G + l0)), some (.int l1), none] [] h 0 0 := by
  unfold fX2_lastForSpan_2 at X
  refine r_ild1 3 dX2_lastForSpan_2 rfl ?_
  refine r_ald0 4 dX2_lastForSpan_3 rfl ?_
  refine r_gI 7 dX2_lastForSpan_4 rfl lfX2_18 rfl X (fun x101 X => ?_)
  refine r_icmp_ge 90 10 dX2_lastForSpan_7 (by decide) rfl X (fun _ X => ?_) (fun _ X => ?_)
  · exact r_cut (wX2_lastForSpan_90 G hG R _ _ X) ⟨rfl, trivial⟩
  · refine r_ald0 11 dX2_lastForSpan_10 rfl ?_
    refine r_ild1 12 dX2_lastForSpan_11 rfl ?_
    obtain ⟨hs, X⟩ := r_cv X
    obtain ⟨x103, h102, hc, X⟩ := bnd_ok X
    refine r_callV1 15 dX2_lastForSpan_12 rfl lmX2_31 hs (mtX2_upperAt G hG hc) rfl ⟨(Nat.zero_le _), (Nat.zero_le _)⟩ ?_
    obtain ⟨x105, h104, hc, X⟩ := bnd_ok X
    refine r_callS1 18 dX2_lastForSpan_15 rfl lmX2_48 (mtX2_isSmall G hG hc) rfl ⟨(Nat.zero_le _), (Nat.zero_le _)⟩ ?_
    refine r_if_eq 74 21 dX2_lastForSpan_18 (by decide) rfl X (fun _ X => ?_) (fun _ X => ?_)
    · refine r_iconst 75 _ dX2_lastForSpan_74 rfl ki_0 ?_
      refine r_ist2 76 dX2_lastForSpan_75 rfl rfl ?_
      refine r_ild2 77 dX2_lastForSpan_76 rfl ?_
      refine r_if_ne 84 80 dX2_lastForSpan_77 (by decide) rfl X (fun _ X => ?_) (fun _ X => ?_)
      · refine r_iinc1w 87 dX2_lastForSpan_84 rfl rfl ki_1 X (fun x106 X => ?_)
        refine r_goto 2 dX2_lastForSpan_87 (by decide) ?_
        exact r_cut (hK2 _ _ _ X) ⟨rfl, ⟨rfl, trivial⟩⟩
      · exact r_cut (wX2_lastForSpan_80 G hG R _ _ X) ⟨rfl, trivial⟩
    · refine r_ald0 22 dX2_lastForSpan_21 rfl ?_
      refine r_ild1 23 dX2_lastForSpan_22 rfl ?_
      obtain ⟨hs, X⟩ := r_cv X
      obtain ⟨x108, h107, hc, X⟩ := bnd_ok X
      refine r_callV1 26 dX2_lastForSpan_23 rfl lmX2_31 hs (mtX2_upperAt G hG hc) rfl ⟨(Nat.zero_le _), (Nat.zero_le _)⟩ ?_
      refine r_ald0 27 dX2_lastForSpan_26 rfl ?_
      refine r_ild1 28 dX2_lastForSpan_27 rfl ?_
      refine r_iconst 29 _ dX2_lastForSpan_28 rfl ki_1 ?_
      refine r_isub 30 dX2_lastForSpan_29 rfl ?_
      obtain ⟨hs, X⟩ := r_cv X
      obtain ⟨x110, h109, hc, X⟩ := bnd_ok X
      refine r_callV1 33 dX2_lastForSpan_30 rfl lmX2_31 hs (mtX2_upperAt G hG hc) rfl ⟨(Nat.zero_le _), (Nat.zero_le _)⟩ ?_
      refine r_ladd 34 dX2_lastForSpan_33 rfl ?_
      obtain ⟨x112, h111, hc, X⟩ := bnd_ok X
      refine r_callS1 37 dX2_lastForSpan_34 rfl lmX2_48 (mtX2_isSmall G hG hc) rfl ⟨(Nat.zero_le _), (Nat.zero_le _)⟩ ?_
      refine r_if_eq 74 40 dX2_lastForSpan_37 (by decide) rfl X (fun _ X => ?_) (fun _ X => ?_)
      · refine r_iconst 75 _ dX2_lastForSpan_74 rfl ki_0 ?_
        refine r_ist2 76 dX2_lastForSpan_75 rfl rfl ?_
        refine r_ild2 77 dX2_lastForSpan_76 rfl ?_
        refine r_if_ne 84 80 dX2_lastForSpan_77 (by decide) rfl X (fun _ X => ?_) (fun _ X => ?_)
        · refine r_iinc1w 87 dX2_lastForSpan_84 rfl rfl ki_1 X (fun x113 X => ?_)
          refine r_goto 2 dX2_lastForSpan_87 (by decide) ?_
          exact r_cut (hK2 _ _ _ X) ⟨rfl, ⟨rfl, trivial⟩⟩
        · exact r_cut (wX2_lastForSpan_80 G hG R _ _ X) ⟨rfl, trivial⟩
      · refine r_ald0 41 dX2_lastForSpan_40 rfl ?_
        refine r_ild1 42 dX2_lastForSpan_41 rfl ?_
        obtain ⟨hs, X⟩ := r_cv X
        obtain ⟨x115, h114, hc, X⟩ := bnd_ok X
        refine r_callV1 45 dX2_lastForSpan_42 rfl lmX2_41 hs (mtX2_lowerAt G hG hc) rfl ⟨(Nat.zero_le _), (Nat.zero_le _)⟩ ?_
        obtain ⟨x117, h116, hc, X⟩ := bnd_ok X
        refine r_callS1 48 dX2_lastForSpan_45 rfl lmX2_48 (mtX2_isSmall G hG hc) rfl ⟨(Nat.zero_le _), (Nat.zero_le _)⟩ ?_
        refine r_if_eq 74 51 dX2_lastForSpan_48 (by decide) rfl X (fun _ X => ?_) (fun _ X => ?_)
        · refine r_iconst 75 _ dX2_lastForSpan_74 rfl ki_0 ?_
          refine r_ist2 76 dX2_lastForSpan_75 rfl rfl ?_
          refine r_ild2 77 dX2_lastForSpan_76 rfl ?_
          refine r_if_ne 84 80 dX2_lastForSpan_77 (by decide) rfl X (fun _ X => ?_) (fun _ X => ?_)
          · refine r_iinc1w 87 dX2_lastForSpan_84 rfl rfl ki_1 X (fun x118 X => ?_)
            refine r_goto 2 dX2_lastForSpan_87 (by decide) ?_
            exact r_cut (hK2 _ _ _ X) ⟨rfl, ⟨rfl, trivial⟩⟩
          · exact r_cut (wX2_lastForSpan_80 G hG R _ _ X) ⟨rfl, trivial⟩
        · refine r_ald0 52 dX2_lastForSpan_51 rfl ?_
          refine r_ild1 53 dX2_lastForSpan_52 rfl ?_
          obtain ⟨hs, X⟩ := r_cv X
          obtain ⟨x120, h119, hc, X⟩ := bnd_ok X
          refine r_callV1 56 dX2_lastForSpan_53 rfl lmX2_41 hs (mtX2_lowerAt G hG hc) rfl ⟨(Nat.zero_le _), (Nat.zero_le _)⟩ ?_
          refine r_ald0 57 dX2_lastForSpan_56 rfl ?_
          refine r_ild1 58 dX2_lastForSpan_57 rfl ?_
          refine r_iconst 59 _ dX2_lastForSpan_58 rfl ki_1 ?_
          refine r_isub 60 dX2_lastForSpan_59 rfl ?_
          obtain ⟨hs, X⟩ := r_cv X
          obtain ⟨x122, h121, hc, X⟩ := bnd_ok X
          refine r_callV1 63 dX2_lastForSpan_60 rfl lmX2_41 hs (mtX2_lowerAt G hG hc) rfl ⟨(Nat.zero_le _), (Nat.zero_le _)⟩ ?_
          refine r_ladd 64 dX2_lastForSpan_63 rfl ?_
          obtain ⟨x124, h123, hc, X⟩ := bnd_ok X
          refine r_callS1 67 dX2_lastForSpan_64 rfl lmX2_48 (mtX2_isSmall G hG hc) rfl ⟨(Nat.zero_le _), (Nat.zero_le _)⟩ ?_
          refine r_if_eq 74 70 dX2_lastForSpan_67 (by decide) rfl X (fun _ X => ?_) (fun _ X => ?_)
          · refine r_iconst 75 _ dX2_lastForSpan_74 rfl ki_0 ?_
            refine r_ist2 76 dX2_lastForSpan_75 rfl rfl ?_
            refine r_ild2 77 dX2_lastForSpan_76 rfl ?_
            refine r_if_ne 84 80 dX2_lastForSpan_77 (by decide) rfl X (fun _ X => ?_) (fun _ X => ?_)
            · refine r_iinc1w 87 dX2_lastForSpan_84 rfl rfl ki_1 X (fun x125 X => ?_)
              refine r_goto 2 dX2_lastForSpan_87 (by decide) ?_
              exact r_cut (hK2 _ _ _ X) ⟨rfl, ⟨rfl, trivial⟩⟩
            · exact r_cut (wX2_lastForSpan_80 G hG R _ _ X) ⟨rfl, trivial⟩
          · refine r_iconst 71 _ dX2_lastForSpan_70 rfl ki_1 ?_
            refine r_goto 75 dX2_lastForSpan_71 (by decide) ?_
            refine r_ist2 76 dX2_lastForSpan_75 rfl rfl ?_
            refine r_ild2 77 dX2_lastForSpan_76 rfl ?_
            refine r_if_ne 84 80 dX2_lastForSpan_77 (by decide) rfl X (fun _ X => ?_) (fun _ X => ?_)
            · refine r_iinc1w 87 dX2_lastForSpan_84 rfl rfl ki_1 X (fun x126 X => ?_)
              refine r_goto 2 dX2_lastForSpan_87 (by decide) ?_
              exact r_cut (hK2 _ _ _ X) ⟨rfl, ⟨rfl, trivial⟩⟩
            · exact r_cut (wX2_lastForSpan_80 G hG R _ _ X) ⟨rfl, trivial⟩
theorem wX2_lastForSpan_2L (G : GG) (hG : GT G) (R : Int32 × AH) : ∀ (m : Nat) (l0 : Nat) (l1 : Int32) (h : AH), fX2_lastForSpan_2L m l0 l1 h = some R → AW (eX2_lastForSpan G R) RX2 cX2_lastForSpan 2 [some (.ref (gB G + l0)), some (.int l1), none] [] h 0 0 := by
  intro m
  induction m with
  | zero => intro l0 l1 h X; exact nomatch (show (none : Fn Int32) = some R from X)
  | succ m ih => intro l0 l1 h X; exact wX2_lastForSpan_2 G hG R ih l0 l1 h X
theorem wX2_lastForSpan (G : GG) (hG : GT G) (R : Int32 × AH) (a0 : Nat) (h : AH) (X : fX2_lastForSpan a0 h = some R) : AW (eX2_lastForSpan G R) RX2 cX2_lastForSpan 0 [some (.ref (gB G + a0)), none, none] [] h 0 0 := by
  unfold fX2_lastForSpan at X
  refine r_iconst 1 _ dX2_lastForSpan_0 rfl ki_0 ?_
  refine r_ist1 2 dX2_lastForSpan_1 rfl rfl ?_
  exact r_cut (wX2_lastForSpan_2L G hG R 1000 _ _ _ X) ⟨rfl, ⟨rfl, trivial⟩⟩
theorem mtX2_lastForSpan (G : GG) (hG : GT G) {a0 : Nat} {h h' : AH} {v : Int32} (hc : fX2_lastForSpan a0 h = some (v, h')) : AMet G yX2_lastForSpan cX2_lastForSpan 3 (some .int) 1 21 0 0 [.ref (gB G + a0)] h (some (.int v)) h' :=
  amet_of false [some (.ref (gB G + a0)), none, none] (by decide +kernel) (by decide) (Nat.le_of_ble_eq_true rfl) rfl (Nat.le_of_ble_eq_true rfl) (wX2_lastForSpan G hG (v, h') _ h hc)
abbrev eX0_ofSpan (G : GG) (R : Int64 × AH) : EE := eM G 15 (some .long) false 3 72 0 0 (some (.long R.1)) R.2
theorem wX0_ofSpan_196 (G : GG) (hG : GT G) (R : Int64 × AH) (l0 : Nat) (h : AH) (X : fX0_ofSpan_196 l0 h = some R) : AW (eX0_ofSpan G R) RX0 cX0_ofSpan 196 [some (.ref (gB G + l0)), none, none, none, none, none, none, none, none, none, none, none, none, none, none] [] h 0 0 := by
  unfold fX0_ofSpan_196 at X
  refine r_ald0 197 dX0_ofSpan_196 rfl ?_
  refine r_gL 200 dX0_ofSpan_197 rfl lfX0_9 rfl X (fun x101 X => ?_)
  refine r_ald0 201 dX0_ofSpan_200 rfl ?_
  refine r_gL 204 dX0_ofSpan_201 rfl lfX0_18 rfl X (fun x102 X => ?_)
  refine r_lif_ne 215 208 dX0_ofSpan_204 dX0_ofSpan_205 (by decide) rfl X (fun _ X => ?_) (fun _ X => ?_)
  · refine r_ldc2 218 dX0_ofSpan_215 rfl lkX0_62 ?_
    exact r_retL dX0_ofSpan_218 (Nat.zero_le _) (Nat.zero_le _) X
  · refine r_ald0 209 dX0_ofSpan_208 rfl ?_
    refine r_gL 212 dX0_ofSpan_209 rfl lfX0_9 rfl X (fun x103 X => ?_)
    refine r_goto 218 dX0_ofSpan_212 (by decide) ?_
    exact r_retL dX0_ofSpan_218 (Nat.zero_le _) (Nat.zero_le _) X
theorem wX0_ofSpan_146 (G : GG) (hG : GT G) (R : Int64 × AH) {K146 : Nat → Int32 → Int32 → Int64 → Int64 → Int32 → AH → Fn Int64} (hK146 : ∀ (l0 : Nat) (l2 : Int32) (l3 : Int32) (l10 : Int64) (l12 : Int64) (l14 : Int32) (h : AH), K146 l0 l2 l3 l10 l12 l14 h = some R → AW (eX0_ofSpan G R) RX0 cX0_ofSpan 146 [some (.ref (gB G + l0)), none, some (.int l2), some (.int l3), none, none, none, none, none, none, some (.long l10), none, some (.long l12), none, some (.int l14)] [] h 0 0) (l0 : Nat) (l2 : Int32) (l3 : Int32) (l10 : Int64) (l12 : Int64) (l14 : Int32) (h : AH) (X : fX0_ofSpan_146 K146 l0 l2 l3 l10 l12 l14 h = some R) : AW (eX0_ofSpan G R) RX0 cX0_ofSpan 146 [some (.ref (gB G + l0)), none, some (.int l2), some (.int l3), none, none, none, none, none, none, some (.long l10), none, some (.long l12), none, some (.int l14)] [] h 0 0 := by
  unfold fX0_ofSpan_146 at X
  refine r_ild14 148 dX0_ofSpan_146 rfl ?_
  refine r_ild3 149 dX0_ofSpan_148 rfl ?_
  refine r_icmp_gt 196 152 dX0_ofSpan_149 (by decide) rfl X (fun _ X => ?_) (fun _ X => ?_)
  · exact r_cut (wX0_ofSpan_196 G hG R _ _ X) ⟨rfl, trivial⟩
  · refine r_ald0 153 dX0_ofSpan_152 rfl ?_
    refine r_gL 156 dX0_ofSpan_153 rfl lfX0_9 rfl X (fun x101 X => ?_)
    refine r_ald0 157 dX0_ofSpan_156 rfl ?_
    refine r_gL 160 dX0_ofSpan_157 rfl lfX0_18 rfl X (fun x102 X => ?_)
    refine r_lif_ne 196 164 dX0_ofSpan_160 dX0_ofSpan_161 (by decide) rfl X (fun _ X => ?_) (fun _ X => ?_)
    · exact r_cut (wX0_ofSpan_196 G hG R _ _ X) ⟨rfl, trivial⟩
    · refine r_ald0 165 dX0_ofSpan_164 rfl ?_
      refine r_ald0 166 dX0_ofSpan_165 rfl ?_
      refine r_gL 169 dX0_ofSpan_166 rfl lfX0_15 rfl X (fun x103 X => ?_)
      refine r_ild2 170 dX0_ofSpan_169 rfl ?_
      refine r_i2l 171 dX0_ofSpan_170 rfl ?_
      refine r_lmul 172 dX0_ofSpan_171 rfl ?_
      refine r_lld10 174 dX0_ofSpan_172 rfl ?_
      obtain ⟨hs, X⟩ := r_cv X
      obtain ⟨_, h104, hc, X⟩ := bnd_ok X
      refine r_callV2v 177 dX0_ofSpan_174 rfl lmX0_54 hs (mtX0_splitLow G hG hc) rfl ⟨(Nat.zero_le _), (Nat.zero_le _)⟩ ?_
      refine r_ald0 178 dX0_ofSpan_177 rfl ?_
      refine r_ald0 179 dX0_ofSpan_178 rfl ?_
      refine r_gL 182 dX0_ofSpan_179 rfl lfX0_21 rfl X (fun x105 X => ?_)
      refine r_ild2 183 dX0_ofSpan_182 rfl ?_
      refine r_i2l 184 dX0_ofSpan_183 rfl ?_
      refine r_lmul 185 dX0_ofSpan_184 rfl ?_
      refine r_lld12 187 dX0_ofSpan_185 rfl ?_
      obtain ⟨hs, X⟩ := r_cv X
      obtain ⟨_, h106, hc, X⟩ := bnd_ok X
      refine r_callV2v 190 dX0_ofSpan_187 rfl lmX0_64 hs (mtX0_splitHigh G hG hc) rfl ⟨(Nat.zero_le _), (Nat.zero_le _)⟩ ?_
      refine r_iinc14w 193 dX0_ofSpan_190 rfl rfl ki_1 X (fun x107 X => ?_)
      refine r_goto 146 dX0_ofSpan_193 (by decide) ?_
      exact r_cut (hK146 _ _ _ _ _ _ _ X) ⟨rfl, ⟨rfl, ⟨rfl, ⟨rfl, ⟨rfl, ⟨rfl, trivial⟩⟩⟩⟩⟩⟩
theorem wX0_ofSpan_146L (G : GG) (hG : GT G) (R : Int64 × AH) : ∀ (m : Nat) (l0 : Nat) (l2 : Int32) (l3 : Int32) (l10 : Int64) (l12 : Int64) (l14 : Int32) (h : AH), fX0_ofSpan_146L m l0 l2 l3 l10 l12 l14 h = some R → AW (eX0_ofSpan G R) RX0 cX0_ofSpan 146 [some (.ref (gB G + l0)), none, some (.int l2), some (.int l3), none, none, none, none, none, none, some (.long l10), none, some (.long l12), none, some (.int l14)] [] h 0 0 := by
  intro m
  induction m with
  | zero => intro l0 l2 l3 l10 l12 l14 h X; exact nomatch (show (none : Fn Int64) = some R from X)
  | succ m ih => intro l0 l2 l3 l10 l12 l14 h X; exact wX0_ofSpan_146 G hG R ih l0 l2 l3 l10 l12 l14 h X
theorem wX0_ofSpan_116 (G : GG) (hG : GT G) (R : Int64 × AH) (l0 : Nat) (l1 : Nat) (l2 : Int32) (l3 : Int32) (l4 : Int32) (l5 : Int32) (l6 : Int64) (l10 : Int64) (l12 : Int64) (s0 : Nat) (s1 : Int64) (h : AH) (X : fX0_ofSpan_116 l0 l1 l2 l3 l4 l5 l6 l10 l12 s0 s1 h = some R) : AW (eX0_ofSpan G R) RX0 cX0_ofSpan 116 [some (.ref (gB G + l0)), some (.ref (gB G + l1)), some (.int l2), some (.int l3), some (.int l4), some (.int l5), some (.long l6), none, none, none, some (.long l10), none, some (.long l12), none, none] [.long s1, .ref (gB G + s0)] h 0 0 := by
  unfold fX0_ofSpan_116 at X
  refine r_lld10 118 dX0_ofSpan_116 rfl ?_
  obtain ⟨hs, X⟩ := r_cv X
  obtain ⟨_, h101, hc, X⟩ := bnd_ok X
  refine r_callV2v 121 dX0_ofSpan_118 rfl lmX0_54 hs (mtX0_splitLow G hG hc) rfl ⟨(Nat.zero_le _), (Nat.zero_le _)⟩ ?_
  refine r_ald0 122 dX0_ofSpan_121 rfl ?_
  refine r_ild5 124 dX0_ofSpan_122 rfl ?_
  refine r_if_eq 132 127 dX0_ofSpan_124 (by decide) rfl X (fun _ X => ?_) (fun _ X => ?_)
  · refine r_ald1 133 dX0_ofSpan_132 rfl ?_
    refine r_ild4 135 dX0_ofSpan_133 rfl ?_
    obtain ⟨hs, X⟩ := r_cv X
    obtain ⟨x103, h102, hc, X⟩ := bnd_ok X
    refine r_callV1 138 dX0_ofSpan_135 rfl lmX0_51 hs (mtX2_upperAt G hG hc) rfl ⟨(Nat.zero_le _), (Nat.zero_le _)⟩ ?_
    refine r_lld12 140 dX0_ofSpan_138 rfl ?_
    obtain ⟨hs, X⟩ := r_cv X
    obtain ⟨_, h104, hc, X⟩ := bnd_ok X
    refine r_callV2v 143 dX0_ofSpan_140 rfl lmX0_64 hs (mtX0_splitHigh G hG hc) rfl ⟨(Nat.zero_le _), (Nat.zero_le _)⟩ ?_
    refine r_iconst 144 _ dX0_ofSpan_143 rfl ki_1 ?_
    refine r_ist14 146 dX0_ofSpan_144 rfl rfl ?_
    exact r_cut (wX0_ofSpan_146L G hG R 1000 _ _ _ _ _ _ _ X) ⟨rfl, ⟨rfl, ⟨rfl, ⟨rfl, ⟨rfl, ⟨rfl, trivial⟩⟩⟩⟩⟩⟩
  · refine r_lld6 129 dX0_ofSpan_127 rfl ?_
    refine r_goto 138 dX0_ofSpan_129 (by decide) ?_
    refine r_lld12 140 dX0_ofSpan_138 rfl ?_
    obtain ⟨hs, X⟩ := r_cv X
    obtain ⟨_, h105, hc, X⟩ := bnd_ok X
    refine r_callV2v 143 dX0_ofSpan_140 rfl lmX0_64 hs (mtX0_splitHigh G hG hc) rfl ⟨(Nat.zero_le _), (Nat.zero_le _)⟩ ?_
    refine r_iconst 144 _ dX0_ofSpan_143 rfl ki_1 ?_
    refine r_ist14 146 dX0_ofSpan_144 rfl rfl ?_
    exact r_cut (wX0_ofSpan_146L G hG R 1000 _ _ _ _ _ _ _ X) ⟨rfl, ⟨rfl, ⟨rfl, ⟨rfl, ⟨rfl, ⟨rfl, trivial⟩⟩⟩⟩⟩⟩
theorem wX0_ofSpan_79 (G : GG) (hG : GT G) (R : Int64 × AH) (l0 : Nat) (l1 : Nat) (l2 : Int32) (l3 : Int32) (l4 : Int32) (l5 : Int32) (l6 : Int64) (l8 : Int64) (s0 : Int64) (h : AH) (X : fX0_ofSpan_79 l0 l1 l2 l3 l4 l5 l6 l8 s0 h = some R) : AW (eX0_ofSpan G R) RX0 cX0_ofSpan 79 [some (.ref (gB G + l0)), some (.ref (gB G + l1)), some (.int l2), some (.int l3), some (.int l4), some (.int l5), some (.long l6), none, some (.long l8), none, none, none, none, none, none] [.long s0] h 0 0 := by
  unfold fX0_ofSpan_79 at X
  refine r_lst10 81 dX0_ofSpan_79 rfl rfl ?_
  refine r_ild5 83 dX0_ofSpan_81 rfl ?_
  refine r_if_eq 91 86 dX0_ofSpan_83 (by decide) rfl X (fun _ X => ?_) (fun _ X => ?_)
  · refine r_ald1 92 dX0_ofSpan_91 rfl ?_
    refine r_ild4 94 dX0_ofSpan_92 rfl ?_
    obtain ⟨hs, X⟩ := r_cv X
    obtain ⟨x102, h101, hc, X⟩ := bnd_ok X
    refine r_callV1 97 dX0_ofSpan_94 rfl lmX0_37 hs (mtX2_lowerAt G hG hc) rfl ⟨(Nat.zero_le _), (Nat.zero_le _)⟩ ?_
    refine r_lst12 99 dX0_ofSpan_97 rfl rfl ?_
    refine r_ald0 100 dX0_ofSpan_99 rfl ?_
    refine r_ild5 102 dX0_ofSpan_100 rfl ?_
    refine r_if_eq 114 105 dX0_ofSpan_102 (by decide) rfl X (fun _ X => ?_) (fun _ X => ?_)
    · refine r_lld6 116 dX0_ofSpan_114 rfl ?_
      exact r_cut (wX0_ofSpan_116 G hG R _ _ _ _ _ _ _ _ _ _ _ _ X) ⟨rfl, ⟨rfl, ⟨rfl, ⟨rfl, ⟨rfl, ⟨rfl, ⟨rfl, ⟨rfl, ⟨rfl, trivial⟩⟩⟩⟩⟩⟩⟩⟩⟩
    · refine r_ald1 106 dX0_ofSpan_105 rfl ?_
      refine r_ild4 108 dX0_ofSpan_106 rfl ?_
      obtain ⟨hs, X⟩ := r_cv X
      obtain ⟨x104, h103, hc, X⟩ := bnd_ok X
      refine r_callV1 111 dX0_ofSpan_108 rfl lmX0_51 hs (mtX2_upperAt G hG hc) rfl ⟨(Nat.zero_le _), (Nat.zero_le _)⟩ ?_
      refine r_goto 116 dX0_ofSpan_111 (by decide) ?_
      exact r_cut (wX0_ofSpan_116 G hG R _ _ _ _ _ _ _ _ _ _ _ _ X) ⟨rfl, ⟨rfl, ⟨rfl, ⟨rfl, ⟨rfl, ⟨rfl, ⟨rfl, ⟨rfl, ⟨rfl, trivial⟩⟩⟩⟩⟩⟩⟩⟩⟩
  · refine r_lld8 88 dX0_ofSpan_86 rfl ?_
    refine r_goto 97 dX0_ofSpan_88 (by decide) ?_
    refine r_lst12 99 dX0_ofSpan_97 rfl rfl ?_
    refine r_ald0 100 dX0_ofSpan_99 rfl ?_
    refine r_ild5 102 dX0_ofSpan_100 rfl ?_
    refine r_if_eq 114 105 dX0_ofSpan_102 (by decide) rfl X (fun _ X => ?_) (fun _ X => ?_)
    · refine r_lld6 116 dX0_ofSpan_114 rfl ?_
      exact r_cut (wX0_ofSpan_116 G hG R _ _ _ _ _ _ _ _ _ _ _ _ X) ⟨rfl, ⟨rfl, ⟨rfl, ⟨rfl, ⟨rfl, ⟨rfl, ⟨rfl, ⟨rfl, ⟨rfl, trivial⟩⟩⟩⟩⟩⟩⟩⟩⟩
    · refine r_ald1 106 dX0_ofSpan_105 rfl ?_
      refine r_ild4 108 dX0_ofSpan_106 rfl ?_
      obtain ⟨hs, X⟩ := r_cv X
      obtain ⟨x106, h105, hc, X⟩ := bnd_ok X
      refine r_callV1 111 dX0_ofSpan_108 rfl lmX0_51 hs (mtX2_upperAt G hG hc) rfl ⟨(Nat.zero_le _), (Nat.zero_le _)⟩ ?_
      refine r_goto 116 dX0_ofSpan_111 (by decide) ?_
      exact r_cut (wX0_ofSpan_116 G hG R _ _ _ _ _ _ _ _ _ _ _ _ X) ⟨rfl, ⟨rfl, ⟨rfl, ⟨rfl, ⟨rfl, ⟨rfl, ⟨rfl, ⟨rfl, ⟨rfl, trivial⟩⟩⟩⟩⟩⟩⟩⟩⟩
theorem wX0_ofSpan_27 (G : GG) (hG : GT G) (R : Int64 × AH) (l0 : Nat) (l1 : Nat) (l2 : Int32) (l3 : Int32) (l4 : Int32) (s0 : Int32) (h : AH) (X : fX0_ofSpan_27 l0 l1 l2 l3 l4 s0 h = some R) : AW (eX0_ofSpan G R) RX0 cX0_ofSpan 27 [some (.ref (gB G + l0)), some (.ref (gB G + l1)), some (.int l2), some (.int l3), some (.int l4), none, none, none, none, none, none, none, none, none, none] [.int s0] h 0 0 := by
  unfold fX0_ofSpan_27 at X
  refine r_ist5 29 dX0_ofSpan_27 rfl rfl ?_
  refine r_ald1 30 dX0_ofSpan_29 rfl ?_
  refine r_ild4 32 dX0_ofSpan_30 rfl ?_
  obtain ⟨hs, X⟩ := r_cv X
  obtain ⟨x102, h101, hc, X⟩ := bnd_ok X
  refine r_callV1 35 dX0_ofSpan_32 rfl lmX0_51 hs (mtX2_upperAt G hG hc) rfl ⟨(Nat.zero_le _), (Nat.zero_le _)⟩ ?_
  refine r_ald1 36 dX0_ofSpan_35 rfl ?_
  refine r_ild4 38 dX0_ofSpan_36 rfl ?_
  refine r_iconst 39 _ dX0_ofSpan_38 rfl ki_1 ?_
  refine r_isub 40 dX0_ofSpan_39 rfl ?_
  obtain ⟨hs, X⟩ := r_cv X
  obtain ⟨x104, h103, hc, X⟩ := bnd_ok X
  refine r_callV1 43 dX0_ofSpan_40 rfl lmX0_51 hs (mtX2_upperAt G hG hc) rfl ⟨(Nat.zero_le _), (Nat.zero_le _)⟩ ?_
  refine r_ladd 44 dX0_ofSpan_43 rfl ?_
  refine r_lst6w 46 dX0_ofSpan_44 rfl rfl X (fun x105 X => ?_)
  refine r_ald1 47 dX0_ofSpan_46 rfl ?_
  refine r_ild4 49 dX0_ofSpan_47 rfl ?_
  obtain ⟨hs, X⟩ := r_cv X
  obtain ⟨x107, h106, hc, X⟩ := bnd_ok X
  refine r_callV1 52 dX0_ofSpan_49 rfl lmX0_37 hs (mtX2_lowerAt G hG hc) rfl ⟨(Nat.zero_le _), (Nat.zero_le _)⟩ ?_
  refine r_ald1 53 dX0_ofSpan_52 rfl ?_
  refine r_ild4 55 dX0_ofSpan_53 rfl ?_
  refine r_iconst 56 _ dX0_ofSpan_55 rfl ki_1 ?_
  refine r_isub 57 dX0_ofSpan_56 rfl ?_
  obtain ⟨hs, X⟩ := r_cv X
  obtain ⟨x109, h108, hc, X⟩ := bnd_ok X
  refine r_callV1 60 dX0_ofSpan_57 rfl lmX0_37 hs (mtX2_lowerAt G hG hc) rfl ⟨(Nat.zero_le _), (Nat.zero_le _)⟩ ?_
  refine r_ladd 61 dX0_ofSpan_60 rfl ?_
  refine r_lst8w 63 dX0_ofSpan_61 rfl rfl X (fun x110 X => ?_)
  refine r_ild5 65 dX0_ofSpan_63 rfl ?_
  refine r_if_eq 77 68 dX0_ofSpan_65 (by decide) rfl X (fun _ X => ?_) (fun _ X => ?_)
  · refine r_lld8 79 dX0_ofSpan_77 rfl ?_
    exact r_cut (wX0_ofSpan_79 G hG R _ _ _ _ _ _ _ _ _ _ X) ⟨rfl, ⟨rfl, ⟨rfl, ⟨rfl, ⟨rfl, ⟨rfl, ⟨rfl, ⟨rfl, trivial⟩⟩⟩⟩⟩⟩⟩⟩
  · refine r_ald1 69 dX0_ofSpan_68 rfl ?_
    refine r_ild4 71 dX0_ofSpan_69 rfl ?_
    obtain ⟨hs, X⟩ := r_cv X
    obtain ⟨x112, h111, hc, X⟩ := bnd_ok X
    refine r_callV1 74 dX0_ofSpan_71 rfl lmX0_37 hs (mtX2_lowerAt G hG hc) rfl ⟨(Nat.zero_le _), (Nat.zero_le _)⟩ ?_
    refine r_goto 79 dX0_ofSpan_74 (by decide) ?_
    exact r_cut (wX0_ofSpan_79 G hG R _ _ _ _ _ _ _ _ _ _ X) ⟨rfl, ⟨rfl, ⟨rfl, ⟨rfl, ⟨rfl, ⟨rfl, ⟨rfl, ⟨rfl, trivial⟩⟩⟩⟩⟩⟩⟩⟩
theorem wX0_ofSpan (G : GG) (hG : GT G) (R : Int64 × AH) (a0 : Nat) (a1 : Nat) (x1 : Int32) (x2 : Int32) (h : AH) (X : fX0_ofSpan a0 a1 x1 x2 h = some R) : AW (eX0_ofSpan G R) RX0 cX0_ofSpan 0 [some (.ref (gB G + a0)), some (.ref (gB G + a1)), some (.int x1), some (.int x2), none, none, none, none, none, none, none, none, none, none, none] [] h 0 0 := by
  unfold fX0_ofSpan at X
  refine r_ald1 1 dX0_ofSpan_0 rfl ?_
  obtain ⟨hs, X⟩ := r_cv X
  obtain ⟨x102, h101, hc, X⟩ := bnd_ok X
  refine r_callV0 4 dX0_ofSpan_1 rfl lmX0_58 hs (mtX2_lastForSpan G hG hc) rfl ⟨(Nat.zero_le _), (Nat.zero_le _)⟩ ?_
  refine r_ist4 6 dX0_ofSpan_4 rfl rfl ?_
  refine r_ild4 8 dX0_ofSpan_6 rfl ?_
  refine r_if_ge 15 11 dX0_ofSpan_8 (by decide) rfl X (fun _ X => ?_) (fun _ X => ?_)
  · refine r_ild4 17 dX0_ofSpan_15 rfl ?_
    refine r_iconst 18 _ dX0_ofSpan_17 rfl ki_2 ?_
    refine r_irem 19 dX0_ofSpan_18 rfl X (fun X => ?_)
    refine r_if_ne 26 22 dX0_ofSpan_19 (by decide) rfl X (fun _ X => ?_) (fun _ X => ?_)
    · refine r_iconst 27 _ dX0_ofSpan_26 rfl ki_0 ?_
      exact r_cut (wX0_ofSpan_27 G hG R _ _ _ _ _ _ _ X) ⟨rfl, ⟨rfl, ⟨rfl, ⟨rfl, ⟨rfl, trivial⟩⟩⟩⟩⟩
    · refine r_iconst 23 _ dX0_ofSpan_22 rfl ki_1 ?_
      refine r_goto 27 dX0_ofSpan_23 (by decide) ?_
      exact r_cut (wX0_ofSpan_27 G hG R _ _ _ _ _ _ _ X) ⟨rfl, ⟨rfl, ⟨rfl, ⟨rfl, ⟨rfl, trivial⟩⟩⟩⟩⟩
  · refine r_ldc2 14 dX0_ofSpan_11 rfl lkX0_62 ?_
    exact r_retL dX0_ofSpan_14 (Nat.zero_le _) (Nat.zero_le _) X
theorem mtX0_ofSpan (G : GG) (hG : GT G) {a0 : Nat} {a1 : Nat} {x1 : Int32} {x2 : Int32} {h h' : AH} {v : Int64} (hc : fX0_ofSpan a0 a1 x1 x2 h = some (v, h')) : AMet G yX0_ofSpan cX0_ofSpan 15 (some .long) 3 72 0 0 [.ref (gB G + a0), .ref (gB G + a1), .int x1, .int x2] h (some (.long v)) h' :=
  amet_of false [some (.ref (gB G + a0)), some (.ref (gB G + a1)), some (.int x1), some (.int x2), none, none, none, none, none, none, none, none, none, none, none] (by decide +kernel) (by decide) (Nat.le_of_ble_eq_true rfl) rfl (Nat.le_of_ble_eq_true rfl) (wX0_ofSpan G hG (v, h') _ _ _ _ h hc)
abbrev eX8_figure (G : GG) (R : Int64 × AH) : EE := eM G 5 (some .long) false 4 106 0 0 (some (.long R.1)) R.2
theorem wX8_figure (G : GG) (hG : GT G) (R : Int64 × AH) (a0 : Nat) (x0 : Int32) (x1 : Int32) (x2 : Int32) (h : AH) (X : fX8_figure a0 x0 x1 x2 h = some R) : AW (eX8_figure G R) RX8 cX8_figure 0 [some (.ref (gB G + a0)), some (.int x0), some (.int x1), some (.int x2), none] [] h 0 0 := by
  unfold fX8_figure at X
  refine r_ald0 1 dX8_figure_0 rfl ?_
  refine r_ild1 2 dX8_figure_1 rfl ?_
  obtain ⟨hs, X⟩ := r_cv X
  obtain ⟨r102, h101, hc, X⟩ := bnd_ok X
  refine r_callV1 5 dX8_figure_2 rfl lmX8_118 hs (mtX8_find G hG hc) rfl ⟨(Nat.zero_le _), (Nat.zero_le _)⟩ ?_
  refine r_split X (fun X => ?_) (fun b103 X => ?_)
  · refine r_astN4 7 dX8_figure_5 rfl rfl ?_
    refine r_aldN4 9 dX8_figure_7 rfl ?_
    refine r_ifnonnullN 12 dX8_figure_9 rfl ?_
    refine r_ldc2 15 dX8_figure_12 rfl lkX8_122 ?_
    exact r_retL dX8_figure_15 (Nat.zero_le _) (Nat.zero_le _) X
  · refine r_ast4 7 dX8_figure_5 rfl rfl ?_
    refine r_ald4 9 dX8_figure_7 rfl ?_
    refine r_ifnonnull 16 dX8_figure_9 (by decide) ?_
    refine r_ild2 17 dX8_figure_16 rfl ?_
    refine r_iconst 18 _ dX8_figure_17 rfl ki_2 ?_
    refine r_icmp_lt 37 21 dX8_figure_18 (by decide) rfl X (fun _ X => ?_) (fun _ X => ?_)
    · refine r_ldc2 40 dX8_figure_37 rfl lkX8_84 ?_
      exact r_retL dX8_figure_40 (Nat.zero_le _) (Nat.zero_le _) X
    · refine r_ild2 22 dX8_figure_21 rfl ?_
      refine r_bipush 24 _ dX8_figure_22 rfl kb_36 ?_
      refine r_icmp_gt 37 27 dX8_figure_24 (by decide) rfl X (fun _ X => ?_) (fun _ X => ?_)
      · refine r_ldc2 40 dX8_figure_37 rfl lkX8_84 ?_
        exact r_retL dX8_figure_40 (Nat.zero_le _) (Nat.zero_le _) X
      · refine r_ild3 28 dX8_figure_27 rfl ?_
        refine r_if_lt 37 31 dX8_figure_28 (by decide) rfl X (fun _ X => ?_) (fun _ X => ?_)
        · refine r_ldc2 40 dX8_figure_37 rfl lkX8_84 ?_
          exact r_retL dX8_figure_40 (Nat.zero_le _) (Nat.zero_le _) X
        · refine r_ild3 32 dX8_figure_31 rfl ?_
          refine r_bipush 34 _ dX8_figure_32 rfl kb_40 ?_
          refine r_icmp_le 41 37 dX8_figure_34 (by decide) rfl X (fun _ X => ?_) (fun _ X => ?_)
          · refine r_ald0 42 dX8_figure_41 rfl ?_
            refine r_gR 45 dX8_figure_42 rfl lfX8_58 rfl X (fun b104 X => ?_)
            refine r_ald4 47 dX8_figure_45 rfl ?_
            obtain ⟨hs, X⟩ := r_cv X
            obtain ⟨_, h105, hc, X⟩ := bnd_ok X
            refine r_callV1v 50 dX8_figure_47 rfl lmX8_218 hs (mtX2_workOut G hG hc) rfl ⟨(Nat.zero_le _), (Nat.zero_le _)⟩ ?_
            refine r_ald4 52 dX8_figure_50 rfl ?_
            refine r_gI 55 dX8_figure_52 rfl lfX8_169 rfl X (fun x106 X => ?_)
            refine r_if_eq 74 58 dX8_figure_55 (by decide) rfl X (fun _ X => ?_) (fun _ X => ?_)
            · refine r_ald0 75 dX8_figure_74 rfl ?_
              refine r_gR 78 dX8_figure_75 rfl lfX8_72 rfl X (fun b107 X => ?_)
              refine r_ald0 79 dX8_figure_78 rfl ?_
              refine r_gR 82 dX8_figure_79 rfl lfX8_58 rfl X (fun b108 X => ?_)
              refine r_ild2 83 dX8_figure_82 rfl ?_
              refine r_ild3 84 dX8_figure_83 rfl ?_
              obtain ⟨hs, X⟩ := r_cv X
              obtain ⟨x110, h109, hc, X⟩ := bnd_ok X
              refine r_callV3 87 dX8_figure_84 rfl lmX8_250 hs (mtX0_ofSpan G hG hc) rfl ⟨(Nat.zero_le _), (Nat.zero_le _)⟩ ?_
              exact r_retL dX8_figure_87 (Nat.zero_le _) (Nat.zero_le _) X
            · refine r_ald0 59 dX8_figure_58 rfl ?_
              refine r_gR 62 dX8_figure_59 rfl lfX8_72 rfl X (fun b111 X => ?_)
              refine r_ald4 64 dX8_figure_62 rfl ?_
              refine r_ald0 65 dX8_figure_64 rfl ?_
              refine r_gR 68 dX8_figure_65 rfl lfX8_58 rfl X (fun b112 X => ?_)
              refine r_ild2 69 dX8_figure_68 rfl ?_
              refine r_ild3 70 dX8_figure_69 rfl ?_
              obtain ⟨hs, X⟩ := r_cv X
              obtain ⟨x114, h113, hc, X⟩ := bnd_ok X
              refine r_callV4 73 dX8_figure_70 rfl lmX8_246 hs (mtX0_ofRatio G hG hc) rfl ⟨(Nat.zero_le _), (Nat.zero_le _)⟩ ?_
              exact r_retL dX8_figure_73 (Nat.zero_le _) (Nat.zero_le _) X
          · refine r_ldc2 40 dX8_figure_37 rfl lkX8_84 ?_
            exact r_retL dX8_figure_40 (Nat.zero_le _) (Nat.zero_le _) X
theorem mtX8_figure (G : GG) (hG : GT G) {a0 : Nat} {x0 : Int32} {x1 : Int32} {x2 : Int32} {h h' : AH} {v : Int64} (hc : fX8_figure a0 x0 x1 x2 h = some (v, h')) : AMet G yX8_figure cX8_figure 5 (some .long) 4 106 0 0 [.ref (gB G + a0), .int x0, .int x1, .int x2] h (some (.long v)) h' :=
  amet_of false [some (.ref (gB G + a0)), some (.int x0), some (.int x1), some (.int x2), none] (by decide +kernel) (by decide) (Nat.le_of_ble_eq_true rfl) rfl (Nat.le_of_ble_eq_true rfl) (wX8_figure G hG (v, h') _ _ _ _ h hc)
abbrev eX0_init (G : GG) (R : Unit × AH) : EE := eM G 1 none true 1 24 0 0 none R.2
theorem wX0_init (G : GG) (hG : GT G) (R : Unit × AH) (a0 : Nat) (h : AH) (X : fX0_init a0 h = some R) : AW (eX0_init G R) RX0 cX0_init 0 [some (.ref (gB G + a0))] [] h 0 0 := by
  unfold fX0_init at X
  refine r_ald0 1 dX0_init_0 rfl ?_
  refine r_objInit 4 dX0_init_1 rfl loX0_3 lo_i lo_c (Nat.le_of_ble_eq_true rfl) (Nat.le_of_ble_eq_true rfl) ?_
  refine r_ald0 5 dX0_init_4 rfl ?_
  refine r_lconst 6 _ dX0_init_5 rfl kl_0 ?_
  refine r_pL 9 dX0_init_6 rfl lpX0_9 rfl X (fun h101 X => ?_)
  refine r_ald0 10 dX0_init_9 rfl ?_
  refine r_lconst 11 _ dX0_init_10 rfl kl_0 ?_
  refine r_pL 14 dX0_init_11 rfl lpX0_15 rfl X (fun h102 X => ?_)
  refine r_ald0 15 dX0_init_14 rfl ?_
  refine r_lconst 16 _ dX0_init_15 rfl kl_0 ?_
  refine r_pL 19 dX0_init_16 rfl lpX0_18 rfl X (fun h103 X => ?_)
  refine r_ald0 20 dX0_init_19 rfl ?_
  refine r_lconst 21 _ dX0_init_20 rfl kl_0 ?_
  refine r_pL 24 dX0_init_21 rfl lpX0_21 rfl X (fun h104 X => ?_)
  exact r_retV dX0_init_24 (Nat.zero_le _) (Nat.zero_le _) X
theorem mtX0_init (G : GG) (hG : GT G) {a0 : Nat} {h h' : AH} {v : Unit} (hc : fX0_init a0 h = some (v, h')) : AMet G yX0_init cX0_init 1 none 1 24 0 0 [.ref (gB G + a0)] h none h' :=
  amet_of true [some (.ref (gB G + a0))] (by decide +kernel) (by decide) (Nat.le_of_ble_eq_true rfl) rfl (Nat.le_of_ble_eq_true rfl) (wX0_init G hG (v, h') _ h hc)
abbrev eX6_init (G : GG) (R : Unit × AH) : EE := eM G 3 none true 1 24 0 0 none R.2
theorem wX6_init (G : GG) (hG : GT G) (R : Unit × AH) (a0 : Nat) (x0 : Int32) (x1 : Int32) (h : AH) (X : fX6_init a0 x0 x1 h = some R) : AW (eX6_init G R) RX6 cX6_init 0 [some (.ref (gB G + a0)), some (.int x0), some (.int x1)] [] h 0 0 := by
  unfold fX6_init at X
  refine r_ald0 1 dX6_init_0 rfl ?_
  refine r_objInit 4 dX6_init_1 rfl loX6_1 lo_i lo_c (Nat.le_of_ble_eq_true rfl) (Nat.le_of_ble_eq_true rfl) ?_
  refine r_ald0 5 dX6_init_4 rfl ?_
  refine r_null 6 dX6_init_5 rfl ?_
  refine r_pN 9 dX6_init_6 rfl lpX6_7 rfl X (fun h101 X => ?_)
  refine r_ald0 10 dX6_init_9 rfl ?_
  refine r_iconst 11 _ dX6_init_10 rfl ki_0 ?_
  refine r_pI 14 dX6_init_11 rfl lpX6_13 rfl X (fun h102 X => ?_)
  refine r_ald0 15 dX6_init_14 rfl ?_
  refine r_iconst 16 _ dX6_init_15 rfl ki_0 ?_
  refine r_pZ 19 dX6_init_16 rfl lpX6_17 rfl X (fun h103 X => ?_)
  refine r_ald0 20 dX6_init_19 rfl ?_
  refine r_ild1 21 dX6_init_20 rfl ?_
  refine r_fI 24 dX6_init_21 rfl lqX6_21 rfl rfl X (fun h104 X => ?_)
  refine r_ald0 25 dX6_init_24 rfl ?_
  refine r_ild2 26 dX6_init_25 rfl ?_
  refine r_fI 29 dX6_init_26 rfl lqX6_24 rfl rfl X (fun h105 X => ?_)
  exact r_retV dX6_init_29 (Nat.zero_le _) (Nat.zero_le _) X
theorem mtX6_init (G : GG) (hG : GT G) {a0 : Nat} {x0 : Int32} {x1 : Int32} {h h' : AH} {v : Unit} (hc : fX6_init a0 x0 x1 h = some (v, h')) : AMet G yX6_init cX6_init 3 none 1 24 0 0 [.ref (gB G + a0), .int x0, .int x1] h none h' :=
  amet_of true [some (.ref (gB G + a0)), some (.int x0), some (.int x1)] (by decide +kernel) (by decide) (Nat.le_of_ble_eq_true rfl) rfl (Nat.le_of_ble_eq_true rfl) (wX6_init G hG (v, h') _ _ _ h hc)
abbrev eX1_init (G : GG) (R : Unit × AH) : EE := eM G 1 none true 2 46 7 1854 none R.2
theorem wX1_init (G : GG) (hG : GT G) (R : Unit × AH) (a0 : Nat) (h : AH) (X : fX1_init a0 h = some R) : AW (eX1_init G R) RX1 cX1_init 0 [some (.ref (gB G + a0))] [] h 0 0 := by
  unfold fX1_init at X
  refine r_ald0 1 dX1_init_0 rfl ?_
  refine r_objInit 4 dX1_init_1 rfl loX1_3 lo_i lo_c (Nat.le_of_ble_eq_true rfl) (Nat.le_of_ble_eq_true rfl) ?_
  refine r_ald0 5 dX1_init_4 rfl ?_
  refine r_new 8 dX1_init_5 rfl lnX1_9 X (by show _ ≤ 7; omega) (by show _ ≤ 1854; omega) (fun b101 h102 X => ?_)
  refine r_dup 9 dX1_init_8 rfl rfl ?_
  refine r_iconst 10 _ dX1_init_9 rfl ki_0 ?_
  refine r_iconst 11 _ dX1_init_10 rfl ki_2 ?_
  obtain ⟨_, h103, hc, X⟩ := bnd_ok X
  refine r_callI2 14 dX1_init_11 rfl lmX1_11 (mtX6_init G hG hc) rfl (by show _ ≤ 7; omega) (by show _ ≤ 1854; omega) ?_
  refine r_fR 17 dX1_init_14 rfl lqX1_14 rfl rfl X (fun h104 X => ?_)
  refine r_ald0 18 dX1_init_17 rfl ?_
  refine r_new 21 dX1_init_18 rfl lnX1_9 X (by show _ ≤ 7; omega) (by show _ ≤ 1854; omega) (fun b105 h106 X => ?_)
  refine r_dup 22 dX1_init_21 rfl rfl ?_
  refine r_iconst 23 _ dX1_init_22 rfl ki_1 ?_
  refine r_iconst 24 _ dX1_init_23 rfl ki_1 ?_
  obtain ⟨_, h107, hc, X⟩ := bnd_ok X
  refine r_callI2 27 dX1_init_24 rfl lmX1_11 (mtX6_init G hG hc) rfl (by show _ ≤ 7; omega) (by show _ ≤ 1854; omega) ?_
  refine r_fR 30 dX1_init_27 rfl lqX1_20 rfl rfl X (fun h108 X => ?_)
  refine r_ald0 31 dX1_init_30 rfl ?_
  refine r_bipush 33 _ dX1_init_31 rfl kb_8 ?_
  refine r_newL 35 8 dX1_init_33 rfl la_long X (by decide) (by decide) (by decide) (by show _ ≤ 7; omega) (by show _ ≤ 1854; omega) (fun b109 h110 X => ?_)
  refine r_fR 38 dX1_init_35 rfl lqX1_23 rfl rfl X (fun h111 X => ?_)
  refine r_ald0 39 dX1_init_38 rfl ?_
  refine r_bipush 41 _ dX1_init_39 rfl kb_8 ?_
  refine r_newL 43 8 dX1_init_41 rfl la_long X (by decide) (by decide) (by decide) (by show _ ≤ 7; omega) (by show _ ≤ 1854; omega) (fun b112 h113 X => ?_)
  refine r_fR 46 dX1_init_43 rfl lqX1_27 rfl rfl X (fun h114 X => ?_)
  refine r_ald0 47 dX1_init_46 rfl ?_
  refine r_iconst 48 _ dX1_init_47 rfl ki_4 ?_
  refine r_newL 50 4 dX1_init_48 rfl la_long X (by decide) (by decide) (by decide) (by show _ ≤ 7; omega) (by show _ ≤ 1854; omega) (fun b115 h116 X => ?_)
  refine r_fR 53 dX1_init_50 rfl lqX1_30 rfl rfl X (fun h117 X => ?_)
  refine r_ald0 54 dX1_init_53 rfl ?_
  refine r_iconst 55 _ dX1_init_54 rfl ki_4 ?_
  refine r_newL 57 4 dX1_init_55 rfl la_long X (by decide) (by decide) (by decide) (by show _ ≤ 7; omega) (by show _ ≤ 1854; omega) (fun b118 h119 X => ?_)
  refine r_fR 60 dX1_init_57 rfl lqX1_33 rfl rfl X (fun h120 X => ?_)
  refine r_ald0 61 dX1_init_60 rfl ?_
  refine r_iconst 62 _ dX1_init_61 rfl ki_0 ?_
  refine r_pI 65 dX1_init_62 rfl lpX1_36 rfl X (fun h121 X => ?_)
  refine r_ald0 66 dX1_init_65 rfl ?_
  refine r_sipush 69 _ dX1_init_66 rfl ks_1820 ?_
  refine r_newL 71 1820 dX1_init_69 rfl la_long X (by decide) (by decide) (by decide) (by show _ ≤ 7; omega) (by show _ ≤ 1854; omega) (fun b122 h123 X => ?_)
  refine r_fR 74 dX1_init_71 rfl lqX1_40 rfl rfl X (fun h124 X => ?_)
  refine r_ald0 75 dX1_init_74 rfl ?_
  refine r_iconst 76 _ dX1_init_75 rfl ki_0 ?_
  refine r_pI 79 dX1_init_76 rfl lpX1_43 rfl X (fun h125 X => ?_)
  exact r_retV dX1_init_79 (by show _ ≤ 7; omega) (by show _ ≤ 1854; omega) X
theorem mtX1_init (G : GG) (hG : GT G) {a0 : Nat} {h h' : AH} {v : Unit} (hc : fX1_init a0 h = some (v, h')) : AMet G yX1_init cX1_init 1 none 2 46 7 1854 [.ref (gB G + a0)] h none h' :=
  amet_of true [some (.ref (gB G + a0))] (by decide +kernel) (by decide) (Nat.le_of_ble_eq_true rfl) rfl (Nat.le_of_ble_eq_true rfl) (wX1_init G hG (v, h') _ h hc)
abbrev eX2_init (G : GG) (R : Unit × AH) : EE := eM G 1 none true 1 24 2 120 none R.2
theorem wX2_init (G : GG) (hG : GT G) (R : Unit × AH) (a0 : Nat) (h : AH) (X : fX2_init a0 h = some R) : AW (eX2_init G R) RX2 cX2_init 0 [some (.ref (gB G + a0))] [] h 0 0 := by
  unfold fX2_init at X
  refine r_ald0 1 dX2_init_0 rfl ?_
  refine r_objInit 4 dX2_init_1 rfl loX2_3 lo_i lo_c (Nat.le_of_ble_eq_true rfl) (Nat.le_of_ble_eq_true rfl) ?_
  refine r_ald0 5 dX2_init_4 rfl ?_
  refine r_bipush 7 _ dX2_init_5 rfl kb_60 ?_
  refine r_newL 9 60 dX2_init_7 rfl la_long X (by decide) (by decide) (by decide) (by show _ ≤ 2; omega) (by show _ ≤ 120; omega) (fun b101 h102 X => ?_)
  refine r_fR 12 dX2_init_9 rfl lqX2_9 rfl rfl X (fun h103 X => ?_)
  refine r_ald0 13 dX2_init_12 rfl ?_
  refine r_bipush 15 _ dX2_init_13 rfl kb_60 ?_
  refine r_newL 17 60 dX2_init_15 rfl la_long X (by decide) (by decide) (by decide) (by show _ ≤ 2; omega) (by show _ ≤ 120; omega) (fun b104 h105 X => ?_)
  refine r_fR 20 dX2_init_17 rfl lqX2_15 rfl rfl X (fun h106 X => ?_)
  refine r_ald0 21 dX2_init_20 rfl ?_
  refine r_iconst 22 _ dX2_init_21 rfl ki_0 ?_
  refine r_pI 25 dX2_init_22 rfl lpX2_18 rfl X (fun h107 X => ?_)
  exact r_retV dX2_init_25 (by show _ ≤ 2; omega) (by show _ ≤ 120; omega) X
theorem mtX2_init (G : GG) (hG : GT G) {a0 : Nat} {h h' : AH} {v : Unit} (hc : fX2_init a0 h = some (v, h')) : AMet G yX2_init cX2_init 1 none 1 24 2 120 [.ref (gB G + a0)] h none h' :=
  amet_of true [some (.ref (gB G + a0))] (by decide +kernel) (by decide) (Nat.le_of_ble_eq_true rfl) rfl (Nat.le_of_ble_eq_true rfl) (wX2_init G hG (v, h') _ h hc)
abbrev eX3_init (G : GG) (R : Unit × AH) : EE := eM G 1 none true 1 24 0 0 none R.2
theorem wX3_init (G : GG) (hG : GT G) (R : Unit × AH) (a0 : Nat) (h : AH) (X : fX3_init a0 h = some R) : AW (eX3_init G R) RX3 cX3_init 0 [some (.ref (gB G + a0))] [] h 0 0 := by
  unfold fX3_init at X
  refine r_ald0 1 dX3_init_0 rfl ?_
  refine r_objInit 4 dX3_init_1 rfl loX3_3 lo_i lo_c (Nat.le_of_ble_eq_true rfl) (Nat.le_of_ble_eq_true rfl) ?_
  refine r_ald0 5 dX3_init_4 rfl ?_
  refine r_lconst 6 _ dX3_init_5 rfl kl_0 ?_
  refine r_pL 9 dX3_init_6 rfl lpX3_9 rfl X (fun h101 X => ?_)
  refine r_ald0 10 dX3_init_9 rfl ?_
  refine r_lconst 11 _ dX3_init_10 rfl kl_0 ?_
  refine r_pL 14 dX3_init_11 rfl lpX3_15 rfl X (fun h102 X => ?_)
  refine r_ald0 15 dX3_init_14 rfl ?_
  refine r_lconst 16 _ dX3_init_15 rfl kl_0 ?_
  refine r_pL 19 dX3_init_16 rfl lpX3_18 rfl X (fun h103 X => ?_)
  refine r_ald0 20 dX3_init_19 rfl ?_
  refine r_lconst 21 _ dX3_init_20 rfl kl_1 ?_
  refine r_pL 24 dX3_init_21 rfl lpX3_21 rfl X (fun h104 X => ?_)
  exact r_retV dX3_init_24 (Nat.zero_le _) (Nat.zero_le _) X
theorem mtX3_init (G : GG) (hG : GT G) {a0 : Nat} {h h' : AH} {v : Unit} (hc : fX3_init a0 h = some (v, h')) : AMet G yX3_init cX3_init 1 none 1 24 0 0 [.ref (gB G + a0)] h none h' :=
  amet_of true [some (.ref (gB G + a0))] (by decide +kernel) (by decide) (Nat.le_of_ble_eq_true rfl) rfl (Nat.le_of_ble_eq_true rfl) (wX3_init G hG (v, h') _ h hc)
abbrev eX4_init (G : GG) (R : Unit × AH) : EE := eM G 1 none true 1 24 3 183 none R.2
theorem wX4_init (G : GG) (hG : GT G) (R : Unit × AH) (a0 : Nat) (h : AH) (X : fX4_init a0 h = some R) : AW (eX4_init G R) RX4 cX4_init 0 [some (.ref (gB G + a0))] [] h 0 0 := by
  unfold fX4_init at X
  refine r_ald0 1 dX4_init_0 rfl ?_
  refine r_objInit 4 dX4_init_1 rfl loX4_3 lo_i lo_c (Nat.le_of_ble_eq_true rfl) (Nat.le_of_ble_eq_true rfl) ?_
  refine r_ald0 5 dX4_init_4 rfl ?_
  refine r_bipush 7 _ dX4_init_5 rfl kb_61 ?_
  refine r_newL 9 61 dX4_init_7 rfl la_long X (by decide) (by decide) (by decide) (by show _ ≤ 3; omega) (by show _ ≤ 183; omega) (fun b101 h102 X => ?_)
  refine r_fR 12 dX4_init_9 rfl lqX4_9 rfl rfl X (fun h103 X => ?_)
  refine r_ald0 13 dX4_init_12 rfl ?_
  refine r_bipush 15 _ dX4_init_13 rfl kb_61 ?_
  refine r_newL 17 61 dX4_init_15 rfl la_long X (by decide) (by decide) (by decide) (by show _ ≤ 3; omega) (by show _ ≤ 183; omega) (fun b104 h105 X => ?_)
  refine r_fR 20 dX4_init_17 rfl lqX4_15 rfl rfl X (fun h106 X => ?_)
  refine r_ald0 21 dX4_init_20 rfl ?_
  refine r_bipush 23 _ dX4_init_21 rfl kb_61 ?_
  refine r_newL 25 61 dX4_init_23 rfl la_long X (by decide) (by decide) (by decide) (by show _ ≤ 3; omega) (by show _ ≤ 183; omega) (fun b107 h108 X => ?_)
  refine r_fR 28 dX4_init_25 rfl lqX4_18 rfl rfl X (fun h109 X => ?_)
  refine r_ald0 29 dX4_init_28 rfl ?_
  refine r_iconst 30 _ dX4_init_29 rfl ki_0 ?_
  refine r_pI 33 dX4_init_30 rfl lpX4_21 rfl X (fun h110 X => ?_)
  refine r_ald0 34 dX4_init_33 rfl ?_
  refine r_iconst 35 _ dX4_init_34 rfl ki_0 ?_
  refine r_pI 38 dX4_init_35 rfl lpX4_25 rfl X (fun h111 X => ?_)
  exact r_retV dX4_init_38 (by show _ ≤ 3; omega) (by show _ ≤ 183; omega) X
theorem mtX4_init (G : GG) (hG : GT G) {a0 : Nat} {h h' : AH} {v : Unit} (hc : fX4_init a0 h = some (v, h')) : AMet G yX4_init cX4_init 1 none 1 24 3 183 [.ref (gB G + a0)] h none h' :=
  amet_of true [some (.ref (gB G + a0))] (by decide +kernel) (by decide) (Nat.le_of_ble_eq_true rfl) rfl (Nat.le_of_ble_eq_true rfl) (wX4_init G hG (v, h') _ h hc)
abbrev eX7_init (G : GG) (R : Unit × AH) : EE := eM G 1 none true 1 24 1 60 none R.2
theorem wX7_init (G : GG) (hG : GT G) (R : Unit × AH) (a0 : Nat) (h : AH) (X : fX7_init a0 h = some R) : AW (eX7_init G R) RX7 cX7_init 0 [some (.ref (gB G + a0))] [] h 0 0 := by
  unfold fX7_init at X
  refine r_ald0 1 dX7_init_0 rfl ?_
  refine r_objInit 4 dX7_init_1 rfl loX7_3 lo_i lo_c (Nat.le_of_ble_eq_true rfl) (Nat.le_of_ble_eq_true rfl) ?_
  refine r_ald0 5 dX7_init_4 rfl ?_
  refine r_bipush 7 _ dX7_init_5 rfl kb_60 ?_
  refine r_newL 9 60 dX7_init_7 rfl la_long X (by decide) (by decide) (by decide) (by show _ ≤ 1; omega) (by show _ ≤ 60; omega) (fun b101 h102 X => ?_)
  refine r_fR 12 dX7_init_9 rfl lqX7_9 rfl rfl X (fun h103 X => ?_)
  refine r_ald0 13 dX7_init_12 rfl ?_
  refine r_iconst 14 _ dX7_init_13 rfl ki_0 ?_
  refine r_pZ 17 dX7_init_14 rfl lpX7_15 rfl X (fun h104 X => ?_)
  refine r_ald0 18 dX7_init_17 rfl ?_
  refine r_iconst 19 _ dX7_init_18 rfl ki_0 ?_
  refine r_pI 22 dX7_init_19 rfl lpX7_19 rfl X (fun h105 X => ?_)
  refine r_ald0 23 dX7_init_22 rfl ?_
  refine r_iconst 24 _ dX7_init_23 rfl ki_0 ?_
  refine r_pI 27 dX7_init_24 rfl lpX7_23 rfl X (fun h106 X => ?_)
  refine r_ald0 28 dX7_init_27 rfl ?_
  refine r_iconst 29 _ dX7_init_28 rfl ki_0 ?_
  refine r_pZ 32 dX7_init_29 rfl lpX7_26 rfl X (fun h107 X => ?_)
  refine r_ald0 33 dX7_init_32 rfl ?_
  refine r_iconst 34 _ dX7_init_33 rfl ki_0 ?_
  refine r_pI 37 dX7_init_34 rfl lpX7_29 rfl X (fun h108 X => ?_)
  refine r_ald0 38 dX7_init_37 rfl ?_
  refine r_lconst 39 _ dX7_init_38 rfl kl_0 ?_
  refine r_pL 42 dX7_init_39 rfl lpX7_32 rfl X (fun h109 X => ?_)
  refine r_ald0 43 dX7_init_42 rfl ?_
  refine r_lconst 44 _ dX7_init_43 rfl kl_0 ?_
  refine r_pL 47 dX7_init_44 rfl lpX7_36 rfl X (fun h110 X => ?_)
  refine r_ald0 48 dX7_init_47 rfl ?_
  refine r_lconst 49 _ dX7_init_48 rfl kl_0 ?_
  refine r_pL 52 dX7_init_49 rfl lpX7_39 rfl X (fun h111 X => ?_)
  refine r_ald0 53 dX7_init_52 rfl ?_
  refine r_lconst 54 _ dX7_init_53 rfl kl_1 ?_
  refine r_pL 57 dX7_init_54 rfl lpX7_42 rfl X (fun h112 X => ?_)
  exact r_retV dX7_init_57 (by show _ ≤ 1; omega) (by show _ ≤ 60; omega) X
theorem mtX7_init (G : GG) (hG : GT G) {a0 : Nat} {h h' : AH} {v : Unit} (hc : fX7_init a0 h = some (v, h')) : AMet G yX7_init cX7_init 1 none 1 24 1 60 [.ref (gB G + a0)] h none h' :=
  amet_of true [some (.ref (gB G + a0))] (by decide +kernel) (by decide) (Nat.le_of_ble_eq_true rfl) rfl (Nat.le_of_ble_eq_true rfl) (wX7_init G hG (v, h') _ h hc)
abbrev eX5_init (G : GG) (R : Unit × AH) : EE := eM G 1 none true 2 44 3 74 none R.2
theorem wX5_init (G : GG) (hG : GT G) (R : Unit × AH) (a0 : Nat) (h : AH) (X : fX5_init a0 h = some R) : AW (eX5_init G R) RX5 cX5_init 0 [some (.ref (gB G + a0))] [] h 0 0 := by
  unfold fX5_init at X
  refine r_ald0 1 dX5_init_0 rfl ?_
  refine r_objInit 4 dX5_init_1 rfl loX5_3 lo_i lo_c (Nat.le_of_ble_eq_true rfl) (Nat.le_of_ble_eq_true rfl) ?_
  refine r_ald0 5 dX5_init_4 rfl ?_
  refine r_lconst 6 _ dX5_init_5 rfl kl_0 ?_
  refine r_pL 9 dX5_init_6 rfl lpX5_9 rfl X (fun h101 X => ?_)
  refine r_ald0 10 dX5_init_9 rfl ?_
  refine r_lconst 11 _ dX5_init_10 rfl kl_1 ?_
  refine r_pL 14 dX5_init_11 rfl lpX5_15 rfl X (fun h102 X => ?_)
  refine r_ald0 15 dX5_init_14 rfl ?_
  refine r_lconst 16 _ dX5_init_15 rfl kl_0 ?_
  refine r_pL 19 dX5_init_16 rfl lpX5_18 rfl X (fun h103 X => ?_)
  refine r_ald0 20 dX5_init_19 rfl ?_
  refine r_lconst 21 _ dX5_init_20 rfl kl_1 ?_
  refine r_pL 24 dX5_init_21 rfl lpX5_21 rfl X (fun h104 X => ?_)
  refine r_ald0 25 dX5_init_24 rfl ?_
  refine r_new 28 dX5_init_25 rfl lnX5_24 X (by show _ ≤ 3; omega) (by show _ ≤ 74; omega) (fun b105 h106 X => ?_)
  refine r_dup 29 dX5_init_28 rfl rfl ?_
  obtain ⟨_, h107, hc, X⟩ := bnd_ok X
  refine r_callI0 32 dX5_init_29 rfl lmX5_26 (mtX3_init G hG hc) rfl (by show _ ≤ 3; omega) (by show _ ≤ 74; omega) ?_
  refine r_fR 35 dX5_init_32 rfl lqX5_27 rfl rfl X (fun h108 X => ?_)
  refine r_ald0 36 dX5_init_35 rfl ?_
  refine r_new 39 dX5_init_36 rfl lnX5_31 X (by show _ ≤ 3; omega) (by show _ ≤ 74; omega) (fun b109 h110 X => ?_)
  refine r_dup 40 dX5_init_39 rfl rfl ?_
  obtain ⟨_, h111, hc, X⟩ := bnd_ok X
  refine r_callI0 43 dX5_init_40 rfl lmX5_33 (mtX7_init G hG hc) rfl (by show _ ≤ 3; omega) (by show _ ≤ 74; omega) ?_
  refine r_fR 46 dX5_init_43 rfl lqX5_34 rfl rfl X (fun h112 X => ?_)
  exact r_retV dX5_init_46 (by show _ ≤ 3; omega) (by show _ ≤ 74; omega) X
theorem mtX5_init (G : GG) (hG : GT G) {a0 : Nat} {h h' : AH} {v : Unit} (hc : fX5_init a0 h = some (v, h')) : AMet G yX5_init cX5_init 1 none 2 44 3 74 [.ref (gB G + a0)] h none h' :=
  amet_of true [some (.ref (gB G + a0))] (by decide +kernel) (by decide) (Nat.le_of_ble_eq_true rfl) rfl (Nat.le_of_ble_eq_true rfl) (wX5_init G hG (v, h') _ h hc)
abbrev eX8_init (G : GG) (R : Unit × AH) : EE := eM G 2 none true 3 66 2129 73466 none R.2
theorem wX8_init_146 (G : GG) (hG : GT G) (R : Unit × AH) (l0 : Nat) (h : AH) (k n : Nat) (hkA : k ≤ 2119) (hnA : n ≤ 73456) (X : fX8_init_146 l0 h = some R) : AW (eX8_init G R) RX8 cX8_init 146 [some (.ref (gB G + l0)), none] [] h k n := by
  unfold fX8_init_146 at X
  refine r_ald0 147 dX8_init_146 rfl ?_
  refine r_gR 150 dX8_init_147 rfl lfX8_16 rfl X (fun b101 X => ?_)
  refine r_lconst 151 _ dX8_init_150 rfl kl_1 ?_
  refine r_lconst 152 _ dX8_init_151 rfl kl_1 ?_
  obtain ⟨hs, X⟩ := r_cv X
  obtain ⟨_, h102, hc, X⟩ := bnd_ok X
  refine r_callV2v 155 dX8_init_152 rfl lmX8_76 hs (mtX7_becomeRatio G hG hc) rfl ⟨(by show _ ≤ 2129; omega), (by show _ ≤ 73466; omega)⟩ ?_
  exact r_retV dX8_init_155 (by show _ ≤ 2129; omega) (by show _ ≤ 73466; omega) X
theorem wX8_init_121 {m : Nat} (G : GG) (hG : GT G) (R : Unit × AH) {K121 : Nat → Int32 → AH → Fn Unit} (hK121 : ∀ (l0 : Nat) (l1 : Int32) (h : AH), ∀ (k n : Nat), k + 2 * m ≤ 2119 → n + 70 * m ≤ 73456 → K121 l0 l1 h = some R → AW (eX8_init G R) RX8 cX8_init 121 [some (.ref (gB G + l0)), some (.int l1)] [] h k n) (l0 : Nat) (l1 : Int32) (h : AH) (k n : Nat) (hkA : k + 2 * (m + 1) ≤ 2119) (hnA : n + 70 * (m + 1) ≤ 73456) (X : fX8_init_121 K121 l0 l1 h = some R) : AW (eX8_init G R) RX8 cX8_init 121 [some (.ref (gB G + l0)), some (.int l1)] [] h k n := by
  unfold fX8_init_121 at X
  refine r_ild1 122 dX8_init_121 rfl ?_
  refine r_bipush 124 _ dX8_init_122 rfl kb_40 ?_
  refine r_icmp_ge 146 127 dX8_init_124 (by decide) rfl X (fun _ X => ?_) (fun _ X => ?_)
  · exact r_cut (wX8_init_146 G hG R _ _ _ _ (by omega) (by omega) X) ⟨rfl, trivial⟩
  · refine r_ald0 128 dX8_init_127 rfl ?_
    refine r_gR 131 dX8_init_128 rfl lfX8_11 rfl X (fun b101 X => ?_)
    refine r_ild1 132 dX8_init_131 rfl ?_
    refine r_new 135 dX8_init_132 rfl lnX8_9 X (by show _ ≤ 2129; omega) (by show _ ≤ 73466; omega) (fun b102 h103 X => ?_)
    refine r_dup 136 dX8_init_135 rfl rfl ?_
    obtain ⟨_, h104, hc, X⟩ := bnd_ok X
    refine r_callI0 139 dX8_init_136 rfl lmX8_15 (mtX7_init G hG hc) rfl (by show _ ≤ 2129; omega) (by show _ ≤ 73466; omega) ?_
    refine r_zR 140 3 dX8_init_139 rfl rfl (ckX7).1 (by decide) X (fun h105 X => ?_)
    refine r_iinc1w 143 dX8_init_140 rfl rfl ki_1 X (fun x106 X => ?_)
    refine r_goto 121 dX8_init_143 (by decide) ?_
    exact r_cut (hK121 _ _ _ _ _ (by omega) (by omega) X) ⟨rfl, ⟨rfl, trivial⟩⟩
theorem wX8_init_121L (G : GG) (hG : GT G) (R : Unit × AH) : ∀ (m : Nat) (l0 : Nat) (l1 : Int32) (h : AH), ∀ (k n : Nat), k + 2 * m ≤ 2119 → n + 70 * m ≤ 73456 → fX8_init_121L m l0 l1 h = some R → AW (eX8_init G R) RX8 cX8_init 121 [some (.ref (gB G + l0)), some (.int l1)] [] h k n := by
  intro m
  induction m with
  | zero => intro l0 l1 h k n _ _ X; exact nomatch (show (none : Fn Unit) = some R from X)
  | succ m ih => intro l0 l1 h k n hkA hnA X; exact wX8_init_121 G hG R ih l0 l1 h k n hkA hnA X
theorem wX8_init (G : GG) (hG : GT G) (R : Unit × AH) (a0 : Nat) (h : AH) (X : fX8_init a0 h = some R) : AW (eX8_init G R) RX8 cX8_init 0 [some (.ref (gB G + a0)), none] [] h 0 0 := by
  unfold fX8_init at X
  refine r_ald0 1 dX8_init_0 rfl ?_
  refine r_objInit 4 dX8_init_1 rfl loX8_3 lo_i lo_c (Nat.le_of_ble_eq_true rfl) (Nat.le_of_ble_eq_true rfl) ?_
  refine r_ald0 5 dX8_init_4 rfl ?_
  refine r_bipush 7 _ dX8_init_5 rfl kb_40 ?_
  refine r_newR 10 RX7 40 dX8_init_7 rfl rfl (mT1 20 rfl rfl) rfl X (by decide) (by decide) (by decide) (by show _ ≤ 2129; omega) (by show _ ≤ 73466; omega) (fun b101 h102 X => ?_)
  refine r_fR 13 dX8_init_10 rfl lqX8_11 rfl rfl X (fun h103 X => ?_)
  refine r_ald0 14 dX8_init_13 rfl ?_
  refine r_new 17 dX8_init_14 rfl lnX8_9 X (by show _ ≤ 2129; omega) (by show _ ≤ 73466; omega) (fun b104 h105 X => ?_)
  refine r_dup 18 dX8_init_17 rfl rfl ?_
  obtain ⟨_, h106, hc, X⟩ := bnd_ok X
  refine r_callI0 21 dX8_init_18 rfl lmX8_15 (mtX7_init G hG hc) rfl (by show _ ≤ 2129; omega) (by show _ ≤ 73466; omega) ?_
  refine r_fR 24 dX8_init_21 rfl lqX8_16 rfl rfl X (fun h107 X => ?_)
  refine r_ald0 25 dX8_init_24 rfl ?_
  refine r_bipush 27 _ dX8_init_25 rfl kb_8 ?_
  refine r_newL 29 8 dX8_init_27 rfl la_long X (by decide) (by decide) (by decide) (by show _ ≤ 2129; omega) (by show _ ≤ 73466; omega) (fun b108 h109 X => ?_)
  refine r_fR 32 dX8_init_29 rfl lqX8_20 rfl rfl X (fun h110 X => ?_)
  refine r_ald0 33 dX8_init_32 rfl ?_
  refine r_bipush 35 _ dX8_init_33 rfl kb_8 ?_
  refine r_newL 37 8 dX8_init_35 rfl la_long X (by decide) (by decide) (by decide) (by show _ ≤ 2129; omega) (by show _ ≤ 73466; omega) (fun b111 h112 X => ?_)
  refine r_fR 40 dX8_init_37 rfl lqX8_24 rfl rfl X (fun h113 X => ?_)
  refine r_ald0 41 dX8_init_40 rfl ?_
  refine r_iconst 42 _ dX8_init_41 rfl ki_0 ?_
  refine r_pI 45 dX8_init_42 rfl lpX8_27 rfl X (fun h114 X => ?_)
  refine r_ald0 46 dX8_init_45 rfl ?_
  refine r_bipush 48 _ dX8_init_46 rfl kb_8 ?_
  refine r_newL 50 8 dX8_init_48 rfl la_long X (by decide) (by decide) (by decide) (by show _ ≤ 2129; omega) (by show _ ≤ 73466; omega) (fun b115 h116 X => ?_)
  refine r_fR 53 dX8_init_50 rfl lqX8_31 rfl rfl X (fun h117 X => ?_)
  refine r_ald0 54 dX8_init_53 rfl ?_
  refine r_new 57 dX8_init_54 rfl lnX8_34 X (by show _ ≤ 2129; omega) (by show _ ≤ 73466; omega) (fun b118 h119 X => ?_)
  refine r_dup 58 dX8_init_57 rfl rfl ?_
  obtain ⟨_, h120, hc, X⟩ := bnd_ok X
  refine r_callI0 61 dX8_init_58 rfl lmX8_36 (mtX3_init G hG hc) rfl (by show _ ≤ 2129; omega) (by show _ ≤ 73466; omega) ?_
  refine r_fR 64 dX8_init_61 rfl lqX8_37 rfl rfl X (fun h121 X => ?_)
  refine r_ald0 65 dX8_init_64 rfl ?_
  refine r_new 68 dX8_init_65 rfl lnX8_41 X (by show _ ≤ 2129; omega) (by show _ ≤ 73466; omega) (fun b122 h123 X => ?_)
  refine r_dup 69 dX8_init_68 rfl rfl ?_
  obtain ⟨_, h124, hc, X⟩ := bnd_ok X
  refine r_callI0 72 dX8_init_69 rfl lmX8_43 (mtX4_init G hG hc) rfl (by show _ ≤ 2129; omega) (by show _ ≤ 73466; omega) ?_
  refine r_fR 75 dX8_init_72 rfl lqX8_44 rfl rfl X (fun h125 X => ?_)
  refine r_ald0 76 dX8_init_75 rfl ?_
  refine r_new 79 dX8_init_76 rfl lnX8_48 X (by show _ ≤ 2129; omega) (by show _ ≤ 73466; omega) (fun b126 h127 X => ?_)
  refine r_dup 80 dX8_init_79 rfl rfl ?_
  obtain ⟨_, h128, hc, X⟩ := bnd_ok X
  refine r_callI0 83 dX8_init_80 rfl lmX8_50 (mtX1_init G hG hc) rfl (by show _ ≤ 2129; omega) (by show _ ≤ 73466; omega) ?_
  refine r_fR 86 dX8_init_83 rfl lqX8_51 rfl rfl X (fun h129 X => ?_)
  refine r_ald0 87 dX8_init_86 rfl ?_
  refine r_new 90 dX8_init_87 rfl lnX8_55 X (by show _ ≤ 2129; omega) (by show _ ≤ 73466; omega) (fun b130 h131 X => ?_)
  refine r_dup 91 dX8_init_90 rfl rfl ?_
  obtain ⟨_, h132, hc, X⟩ := bnd_ok X
  refine r_callI0 94 dX8_init_91 rfl lmX8_57 (mtX2_init G hG hc) rfl (by show _ ≤ 2129; omega) (by show _ ≤ 73466; omega) ?_
  refine r_fR 97 dX8_init_94 rfl lqX8_58 rfl rfl X (fun h133 X => ?_)
  refine r_ald0 98 dX8_init_97 rfl ?_
  refine r_new 101 dX8_init_98 rfl lnX8_62 X (by show _ ≤ 2129; omega) (by show _ ≤ 73466; omega) (fun b134 h135 X => ?_)
  refine r_dup 102 dX8_init_101 rfl rfl ?_
  obtain ⟨_, h136, hc, X⟩ := bnd_ok X
  refine r_callI0 105 dX8_init_102 rfl lmX8_64 (mtX5_init G hG hc) rfl (by show _ ≤ 2129; omega) (by show _ ≤ 73466; omega) ?_
  refine r_fR 108 dX8_init_105 rfl lqX8_65 rfl rfl X (fun h137 X => ?_)
  refine r_ald0 109 dX8_init_108 rfl ?_
  refine r_new 112 dX8_init_109 rfl lnX8_69 X (by show _ ≤ 2129; omega) (by show _ ≤ 73466; omega) (fun b138 h139 X => ?_)
  refine r_dup 113 dX8_init_112 rfl rfl ?_
  obtain ⟨_, h140, hc, X⟩ := bnd_ok X
  refine r_callI0 116 dX8_init_113 rfl lmX8_71 (mtX0_init G hG hc) rfl (by show _ ≤ 2129; omega) (by show _ ≤ 73466; omega) ?_
  refine r_fR 119 dX8_init_116 rfl lqX8_72 rfl rfl X (fun h141 X => ?_)
  refine r_iconst 120 _ dX8_init_119 rfl ki_0 ?_
  refine r_ist1 121 dX8_init_120 rfl rfl ?_
  exact r_cut (wX8_init_121L G hG R 1000 _ _ _ _ _ (by omega) (by omega) X) ⟨rfl, ⟨rfl, trivial⟩⟩
theorem mtX8_init (G : GG) (hG : GT G) {a0 : Nat} {h h' : AH} {v : Unit} (hc : fX8_init a0 h = some (v, h')) : AMet G yX8_init cX8_init 2 none 3 66 2129 73466 [.ref (gB G + a0)] h none h' :=
  amet_of true [some (.ref (gB G + a0)), none] (by decide +kernel) (by decide) (Nat.le_of_ble_eq_true rfl) rfl (Nat.le_of_ble_eq_true rfl) (wX8_init G hG (v, h') _ h hc)
