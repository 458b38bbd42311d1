theorem dX9_init_0 : decode cX9_init 0 = .ok (.aload_n 0, 1) := by decide +kernel
theorem dX9_init_1 : decode cX9_init 1 = .ok (.invokespecial 1, 3) := by decide +kernel
theorem dX9_init_4 : decode cX9_init 4 = .ok (.aload_n 0, 1) := by decide +kernel
theorem dX9_init_5 : decode cX9_init 5 = .ok (.bipush 40, 2) := by decide +kernel
theorem dX9_init_7 : decode cX9_init 7 = .ok (.newarray .boolean, 2) := by decide +kernel
theorem dX9_init_9 : decode cX9_init 9 = .ok (.putfield 7, 3) := by decide +kernel
theorem dX9_init_12 : decode cX9_init 12 = .ok (.aload_n 0, 1) := by decide +kernel
theorem dX9_init_13 : decode cX9_init 13 = .ok (.bipush 40, 2) := by decide +kernel
theorem dX9_init_15 : decode cX9_init 15 = .ok (.newarray .int, 2) := by decide +kernel
theorem dX9_init_17 : decode cX9_init 17 = .ok (.putfield 13, 3) := by decide +kernel
theorem dX9_init_20 : decode cX9_init 20 = .ok (.aload_n 0, 1) := by decide +kernel
theorem dX9_init_21 : decode cX9_init 21 = .ok (.bipush 40, 2) := by decide +kernel
theorem dX9_init_23 : decode cX9_init 23 = .ok (.newarray .int, 2) := by decide +kernel
theorem dX9_init_25 : decode cX9_init 25 = .ok (.putfield 17, 3) := by decide +kernel
theorem dX9_init_28 : decode cX9_init 28 = .ok (.aload_n 0, 1) := by decide +kernel
theorem dX9_init_29 : decode cX9_init 29 = .ok (.bipush 40, 2) := by decide +kernel
theorem dX9_init_31 : decode cX9_init 31 = .ok (.newarray .boolean, 2) := by decide +kernel
theorem dX9_init_33 : decode cX9_init 33 = .ok (.putfield 20, 3) := by decide +kernel
theorem dX9_init_36 : decode cX9_init 36 = .ok (.aload_n 0, 1) := by decide +kernel
theorem dX9_init_37 : decode cX9_init 37 = .ok (.sipush 2400, 3) := by decide +kernel
theorem dX9_init_40 : decode cX9_init 40 = .ok (.newarray .long, 2) := by decide +kernel
theorem dX9_init_42 : decode cX9_init 42 = .ok (.putfield 23, 3) := by decide +kernel
theorem dX9_init_45 : decode cX9_init 45 = .ok (.aload_n 0, 1) := by decide +kernel
theorem dX9_init_46 : decode cX9_init 46 = .ok (.bipush 40, 2) := by decide +kernel
theorem dX9_init_48 : decode cX9_init 48 = .ok (.newarray .int, 2) := by decide +kernel
theorem dX9_init_50 : decode cX9_init 50 = .ok (.putfield 27, 3) := by decide +kernel
theorem dX9_init_53 : decode cX9_init 53 = .ok (.aload_n 0, 1) := by decide +kernel
theorem dX9_init_54 : decode cX9_init 54 = .ok (.sipush 160, 3) := by decide +kernel
theorem dX9_init_57 : decode cX9_init 57 = .ok (.newarray .long, 2) := by decide +kernel
theorem dX9_init_59 : decode cX9_init 59 = .ok (.putfield 30, 3) := by decide +kernel
theorem dX9_init_62 : decode cX9_init 62 = .ok (.aload_n 0, 1) := by decide +kernel
theorem dX9_init_63 : decode cX9_init 63 = .ok (.sipush 2440, 3) := by decide +kernel
theorem dX9_init_66 : decode cX9_init 66 = .ok (.newarray .long, 2) := by decide +kernel
theorem dX9_init_68 : decode cX9_init 68 = .ok (.putfield 33, 3) := by decide +kernel
theorem dX9_init_71 : decode cX9_init 71 = .ok (.aload_n 0, 1) := by decide +kernel
theorem dX9_init_72 : decode cX9_init 72 = .ok (.sipush 2440, 3) := by decide +kernel
theorem dX9_init_75 : decode cX9_init 75 = .ok (.newarray .long, 2) := by decide +kernel
theorem dX9_init_77 : decode cX9_init 77 = .ok (.putfield 36, 3) := by decide +kernel
theorem dX9_init_80 : decode cX9_init 80 = .ok (.aload_n 0, 1) := by decide +kernel
theorem dX9_init_81 : decode cX9_init 81 = .ok (.bipush 8, 2) := by decide +kernel
theorem dX9_init_83 : decode cX9_init 83 = .ok (.newarray .int, 2) := by decide +kernel
theorem dX9_init_85 : decode cX9_init 85 = .ok (.putfield 39, 3) := by decide +kernel
theorem dX9_init_88 : decode cX9_init 88 = .ok (.aload_n 0, 1) := by decide +kernel
theorem dX9_init_89 : decode cX9_init 89 = .ok (.bipush 8, 2) := by decide +kernel
theorem dX9_init_91 : decode cX9_init 91 = .ok (.newarray .int, 2) := by decide +kernel
theorem dX9_init_93 : decode cX9_init 93 = .ok (.putfield 42, 3) := by decide +kernel
theorem dX9_init_96 : decode cX9_init 96 = .ok (.aload_n 0, 1) := by decide +kernel
theorem dX9_init_97 : decode cX9_init 97 = .ok (.bipush 8, 2) := by decide +kernel
theorem dX9_init_99 : decode cX9_init 99 = .ok (.newarray .long, 2) := by decide +kernel
theorem dX9_init_101 : decode cX9_init 101 = .ok (.putfield 45, 3) := by decide +kernel
theorem dX9_init_104 : decode cX9_init 104 = .ok (.aload_n 0, 1) := by decide +kernel
theorem dX9_init_105 : decode cX9_init 105 = .ok (.bipush 8, 2) := by decide +kernel
theorem dX9_init_107 : decode cX9_init 107 = .ok (.newarray .long, 2) := by decide +kernel
theorem dX9_init_109 : decode cX9_init 109 = .ok (.putfield 48, 3) := by decide +kernel
theorem dX9_init_112 : decode cX9_init 112 = .ok (.aload_n 0, 1) := by decide +kernel
theorem dX9_init_113 : decode cX9_init 113 = .ok (.bipush 8, 2) := by decide +kernel
theorem dX9_init_115 : decode cX9_init 115 = .ok (.newarray .long, 2) := by decide +kernel
theorem dX9_init_117 : decode cX9_init 117 = .ok (.putfield 51, 3) := by decide +kernel
theorem dX9_init_120 : decode cX9_init 120 = .ok (.aload_n 0, 1) := by decide +kernel
theorem dX9_init_121 : decode cX9_init 121 = .ok (.sipush 2200, 3) := by decide +kernel
theorem dX9_init_124 : decode cX9_init 124 = .ok (.newarray .long, 2) := by decide +kernel
theorem dX9_init_126 : decode cX9_init 126 = .ok (.putfield 54, 3) := by decide +kernel
theorem dX9_init_129 : decode cX9_init 129 = .ok (.aload_n 0, 1) := by decide +kernel
theorem dX9_init_130 : decode cX9_init 130 = .ok (.iconst 4, 1) := by decide +kernel
theorem dX9_init_131 : decode cX9_init 131 = .ok (.newarray .long, 2) := by decide +kernel
theorem dX9_init_133 : decode cX9_init 133 = .ok (.putfield 57, 3) := by decide +kernel
theorem dX9_init_136 : decode cX9_init 136 = .ok (.aload_n 0, 1) := by decide +kernel
theorem dX9_init_137 : decode cX9_init 137 = .ok (.iconst 4, 1) := by decide +kernel
theorem dX9_init_138 : decode cX9_init 138 = .ok (.newarray .long, 2) := by decide +kernel
theorem dX9_init_140 : decode cX9_init 140 = .ok (.putfield 60, 3) := by decide +kernel
theorem dX9_init_143 : decode cX9_init 143 = .ok (.return_, 1) := by decide +kernel
theorem dX9_ratio_0 : decode cX9_ratio 0 = .ok (.lload_n 1, 1) := by decide +kernel
theorem dX9_ratio_1 : decode cX9_ratio 1 = .ok (.ldc2_w 107, 3) := by decide +kernel
theorem dX9_ratio_4 : decode cX9_ratio 4 = .ok (.ldc2_w 67, 3) := by decide +kernel
theorem dX9_ratio_7 : decode cX9_ratio 7 = .ok (.invokestatic 75, 3) := by decide +kernel
theorem dX9_ratio_10 : decode cX9_ratio 10 = .ok (.ifCond .eq 22, 3) := by decide +kernel
theorem dX9_ratio_13 : decode cX9_ratio 13 = .ok (.lload_n 3, 1) := by decide +kernel
theorem dX9_ratio_14 : decode cX9_ratio 14 = .ok (.ldc2_w 107, 3) := by decide +kernel
theorem dX9_ratio_17 : decode cX9_ratio 17 = .ok (.ldc2_w 67, 3) := by decide +kernel
theorem dX9_ratio_20 : decode cX9_ratio 20 = .ok (.invokestatic 75, 3) := by decide +kernel
theorem dX9_ratio_23 : decode cX9_ratio 23 = .ok (.ifCond .eq 9, 3) := by decide +kernel
theorem dX9_ratio_26 : decode cX9_ratio 26 = .ok (.lload_n 3, 1) := by decide +kernel
theorem dX9_ratio_27 : decode cX9_ratio 27 = .ok (.lconst 0, 1) := by decide +kernel
theorem dX9_ratio_28 : decode cX9_ratio 28 = .ok (.lcmp, 1) := by decide +kernel
theorem dX9_ratio_29 : decode cX9_ratio 29 = .ok (.ifCond .ne 7, 3) := by decide +kernel
theorem dX9_ratio_32 : decode cX9_ratio 32 = .ok (.ldc2_w 109, 3) := by decide +kernel
theorem dX9_ratio_35 : decode cX9_ratio 35 = .ok (.lreturn, 1) := by decide +kernel
theorem dX9_ratio_36 : decode cX9_ratio 36 = .ok (.aload_n 0, 1) := by decide +kernel
theorem dX9_ratio_37 : decode cX9_ratio 37 = .ok (.getfield 79, 3) := by decide +kernel
theorem dX9_ratio_40 : decode cX9_ratio 40 = .ok (.bipush 40, 2) := by decide +kernel
theorem dX9_ratio_42 : decode cX9_ratio 42 = .ok (.if_icmp .ne 9, 3) := by decide +kernel
theorem dX9_ratio_45 : decode cX9_ratio 45 = .ok (.ldc2_w 111, 3) := by decide +kernel
theorem dX9_ratio_48 : decode cX9_ratio 48 = .ok (.goto 10, 3) := by decide +kernel
theorem dX9_ratio_51 : decode cX9_ratio 51 = .ok (.aload_n 0, 1) := by decide +kernel
theorem dX9_ratio_52 : decode cX9_ratio 52 = .ok (.lload_n 1, 1) := by decide +kernel
theorem dX9_ratio_53 : decode cX9_ratio 53 = .ok (.lload_n 3, 1) := by decide +kernel
theorem dX9_ratio_54 : decode cX9_ratio 54 = .ok (.invokevirtual 113, 3) := by decide +kernel
theorem dX9_ratio_57 : decode cX9_ratio 57 = .ok (.i2l, 1) := by decide +kernel
theorem dX9_ratio_58 : decode cX9_ratio 58 = .ok (.lreturn, 1) := by decide +kernel
theorem dX9_root_0 : decode cX9_root 0 = .ok (.iload_n 1, 1) := by decide +kernel
theorem dX9_root_1 : decode cX9_root 1 = .ok (.i2l, 1) := by decide +kernel
theorem dX9_root_2 : decode cX9_root 2 = .ok (.ldc2_w 117, 3) := by decide +kernel
theorem dX9_root_5 : decode cX9_root 5 = .ok (.ldc2_w 119, 3) := by decide +kernel
theorem dX9_root_8 : decode cX9_root 8 = .ok (.invokestatic 75, 3) := by decide +kernel
theorem dX9_root_11 : decode cX9_root 11 = .ok (.ifCond .eq 49, 3) := by decide +kernel
theorem dX9_root_14 : decode cX9_root 14 = .ok (.iload_n 2, 1) := by decide +kernel
theorem dX9_root_15 : decode cX9_root 15 = .ok (.i2l, 1) := by decide +kernel
theorem dX9_root_16 : decode cX9_root 16 = .ok (.ldc2_w 121, 3) := by decide +kernel
theorem dX9_root_19 : decode cX9_root 19 = .ok (.ldc2_w 123, 3) := by decide +kernel
theorem dX9_root_22 : decode cX9_root 22 = .ok (.invokestatic 75, 3) := by decide +kernel
theorem dX9_root_25 : decode cX9_root 25 = .ok (.ifCond .eq 35, 3) := by decide +kernel
theorem dX9_root_28 : decode cX9_root 28 = .ok (.iload 4, 2) := by decide +kernel
theorem dX9_root_30 : decode cX9_root 30 = .ok (.i2l, 1) := by decide +kernel
theorem dX9_root_31 : decode cX9_root 31 = .ok (.ldc2_w 125, 3) := by decide +kernel
theorem dX9_root_34 : decode cX9_root 34 = .ok (.ldc2_w 127, 3) := by decide +kernel
theorem dX9_root_37 : decode cX9_root 37 = .ok (.invokestatic 75, 3) := by decide +kernel
theorem dX9_root_40 : decode cX9_root 40 = .ok (.ifCond .eq 20, 3) := by decide +kernel
theorem dX9_root_43 : decode cX9_root 43 = .ok (.iload 4, 2) := by decide +kernel
theorem dX9_root_45 : decode cX9_root 45 = .ok (.ifCond .eq 15, 3) := by decide +kernel
theorem dX9_root_48 : decode cX9_root 48 = .ok (.iload_n 3, 1) := by decide +kernel
theorem dX9_root_49 : decode cX9_root 49 = .ok (.i2l, 1) := by decide +kernel
theorem dX9_root_50 : decode cX9_root 50 = .ok (.lconst 0, 1) := by decide +kernel
theorem dX9_root_51 : decode cX9_root 51 = .ok (.ldc2_w 127, 3) := by decide +kernel
theorem dX9_root_54 : decode cX9_root 54 = .ok (.invokestatic 75, 3) := by decide +kernel
theorem dX9_root_57 : decode cX9_root 57 = .ok (.ifCond .ne 7, 3) := by decide +kernel
theorem dX9_root_60 : decode cX9_root 60 = .ok (.ldc2_w 109, 3) := by decide +kernel
theorem dX9_root_63 : decode cX9_root 63 = .ok (.lreturn, 1) := by decide +kernel
theorem dX9_root_64 : decode cX9_root 64 = .ok (.aload_n 0, 1) := by decide +kernel
theorem dX9_root_65 : decode cX9_root 65 = .ok (.getfield 79, 3) := by decide +kernel
theorem dX9_root_68 : decode cX9_root 68 = .ok (.bipush 40, 2) := by decide +kernel
theorem dX9_root_70 : decode cX9_root 70 = .ok (.if_icmp .ne 7, 3) := by decide +kernel
theorem dX9_root_73 : decode cX9_root 73 = .ok (.ldc2_w 111, 3) := by decide +kernel
theorem dX9_root_76 : decode cX9_root 76 = .ok (.lreturn, 1) := by decide +kernel
theorem dX9_root_77 : decode cX9_root 77 = .ok (.iload_n 3, 1) := by decide +kernel
theorem dX9_root_78 : decode cX9_root 78 = .ok (.i2l, 1) := by decide +kernel
theorem dX9_root_79 : decode cX9_root 79 = .ok (.lstore 5, 2) := by decide +kernel
theorem dX9_root_81 : decode cX9_root 81 = .ok (.iload_n 2, 1) := by decide +kernel
theorem dX9_root_82 : decode cX9_root 82 = .ok (.i2l, 1) := by decide +kernel
theorem dX9_root_83 : decode cX9_root 83 = .ok (.lstore 7, 2) := by decide +kernel
theorem dX9_root_85 : decode cX9_root 85 = .ok (.ldc2_w 102, 3) := by decide +kernel
theorem dX9_root_88 : decode cX9_root 88 = .ok (.lstore 9, 2) := by decide +kernel
theorem dX9_root_90 : decode cX9_root 90 = .ok (.lload 9, 2) := by decide +kernel
theorem dX9_root_92 : decode cX9_root 92 = .ok (.lload 9, 2) := by decide +kernel
theorem dX9_root_94 : decode cX9_root 94 = .ok (.lmul, 1) := by decide +kernel
theorem dX9_root_95 : decode cX9_root 95 = .ok (.lload 5, 2) := by decide +kernel
theorem dX9_root_97 : decode cX9_root 97 = .ok (.lcmp, 1) := by decide +kernel
theorem dX9_root_98 : decode cX9_root 98 = .ok (.ifCond .gt 52, 3) := by decide +kernel
theorem dX9_root_101 : decode cX9_root 101 = .ok (.lload 5, 2) := by decide +kernel
theorem dX9_root_103 : decode cX9_root 103 = .ok (.lload 9, 2) := by decide +kernel
theorem dX9_root_105 : decode cX9_root 105 = .ok (.lload 9, 2) := by decide +kernel
theorem dX9_root_107 : decode cX9_root 107 = .ok (.lmul, 1) := by decide +kernel
theorem dX9_root_108 : decode cX9_root 108 = .ok (.lrem, 1) := by decide +kernel
theorem dX9_root_109 : decode cX9_root 109 = .ok (.lconst 0, 1) := by decide +kernel
theorem dX9_root_110 : decode cX9_root 110 = .ok (.lcmp, 1) := by decide +kernel
theorem dX9_root_111 : decode cX9_root 111 = .ok (.ifCond .ne 30, 3) := by decide +kernel
theorem dX9_root_114 : decode cX9_root 114 = .ok (.lload 5, 2) := by decide +kernel
theorem dX9_root_116 : decode cX9_root 116 = .ok (.lconst 0, 1) := by decide +kernel
theorem dX9_root_117 : decode cX9_root 117 = .ok (.lcmp, 1) := by decide +kernel
theorem dX9_root_118 : decode cX9_root 118 = .ok (.ifCond .le 23, 3) := by decide +kernel
theorem dX9_root_121 : decode cX9_root 121 = .ok (.lload 5, 2) := by decide +kernel
theorem dX9_root_123 : decode cX9_root 123 = .ok (.lload 9, 2) := by decide +kernel
theorem dX9_root_125 : decode cX9_root 125 = .ok (.lload 9, 2) := by decide +kernel
theorem dX9_root_127 : decode cX9_root 127 = .ok (.lmul, 1) := by decide +kernel
theorem dX9_root_128 : decode cX9_root 128 = .ok (.ldiv, 1) := by decide +kernel
theorem dX9_root_129 : decode cX9_root 129 = .ok (.lstore 5, 2) := by decide +kernel
theorem dX9_root_131 : decode cX9_root 131 = .ok (.lload 7, 2) := by decide +kernel
theorem dX9_root_133 : decode cX9_root 133 = .ok (.lload 9, 2) := by decide +kernel
theorem dX9_root_135 : decode cX9_root 135 = .ok (.lmul, 1) := by decide +kernel
theorem dX9_root_136 : decode cX9_root 136 = .ok (.lstore 7, 2) := by decide +kernel
theorem dX9_root_138 : decode cX9_root 138 = .ok (.goto (-37), 3) := by decide +kernel
theorem dX9_root_141 : decode cX9_root 141 = .ok (.lload 9, 2) := by decide +kernel
theorem dX9_root_143 : decode cX9_root 143 = .ok (.lconst 1, 1) := by decide +kernel
theorem dX9_root_144 : decode cX9_root 144 = .ok (.ladd, 1) := by decide +kernel
theorem dX9_root_145 : decode cX9_root 145 = .ok (.lstore 9, 2) := by decide +kernel
theorem dX9_root_147 : decode cX9_root 147 = .ok (.goto (-57), 3) := by decide +kernel
theorem dX9_root_150 : decode cX9_root 150 = .ok (.lload 5, 2) := by decide +kernel
theorem dX9_root_152 : decode cX9_root 152 = .ok (.ldc2_w 102, 3) := by decide +kernel
theorem dX9_root_155 : decode cX9_root 155 = .ok (.lcmp, 1) := by decide +kernel
theorem dX9_root_156 : decode cX9_root 156 = .ok (.ifCond .lt 10, 3) := by decide +kernel
theorem dX9_root_159 : decode cX9_root 159 = .ok (.lload 7, 2) := by decide +kernel
theorem dX9_root_161 : decode cX9_root 161 = .ok (.lconst 0, 1) := by decide +kernel
theorem dX9_root_162 : decode cX9_root 162 = .ok (.lcmp, 1) := by decide +kernel
theorem dX9_root_163 : decode cX9_root 163 = .ok (.ifCond .ne 28, 3) := by decide +kernel
theorem dX9_root_166 : decode cX9_root 166 = .ok (.aload_n 0, 1) := by decide +kernel
theorem dX9_root_167 : decode cX9_root 167 = .ok (.iload_n 1, 1) := by decide +kernel
theorem dX9_root_168 : decode cX9_root 168 = .ok (.i2l, 1) := by decide +kernel
theorem dX9_root_169 : decode cX9_root 169 = .ok (.lload 5, 2) := by decide +kernel
theorem dX9_root_171 : decode cX9_root 171 = .ok (.lconst 1, 1) := by decide +kernel
theorem dX9_root_172 : decode cX9_root 172 = .ok (.lcmp, 1) := by decide +kernel
theorem dX9_root_173 : decode cX9_root 173 = .ok (.ifCond .ne 8, 3) := by decide +kernel
theorem dX9_root_176 : decode cX9_root 176 = .ok (.lload 7, 2) := by decide +kernel
theorem dX9_root_178 : decode cX9_root 178 = .ok (.goto 4, 3) := by decide +kernel
theorem dX9_root_181 : decode cX9_root 181 = .ok (.lconst 0, 1) := by decide +kernel
theorem dX9_root_182 : decode cX9_root 182 = .ok (.ladd, 1) := by decide +kernel
theorem dX9_root_183 : decode cX9_root 183 = .ok (.iload 4, 2) := by decide +kernel
theorem dX9_root_185 : decode cX9_root 185 = .ok (.i2l, 1) := by decide +kernel
theorem dX9_root_186 : decode cX9_root 186 = .ok (.invokevirtual 113, 3) := by decide +kernel
theorem dX9_root_189 : decode cX9_root 189 = .ok (.i2l, 1) := by decide +kernel
theorem dX9_root_190 : decode cX9_root 190 = .ok (.lreturn, 1) := by decide +kernel
theorem dX9_root_191 : decode cX9_root 191 = .ok (.aload_n 0, 1) := by decide +kernel
theorem dX9_root_192 : decode cX9_root 192 = .ok (.iload_n 1, 1) := by decide +kernel
theorem dX9_root_193 : decode cX9_root 193 = .ok (.i2l, 1) := by decide +kernel
theorem dX9_root_194 : decode cX9_root 194 = .ok (.lload 7, 2) := by decide +kernel
theorem dX9_root_196 : decode cX9_root 196 = .ok (.lload 5, 2) := by decide +kernel
theorem dX9_root_198 : decode cX9_root 198 = .ok (.iload 4, 2) := by decide +kernel
theorem dX9_root_200 : decode cX9_root 200 = .ok (.i2l, 1) := by decide +kernel
theorem dX9_root_201 : decode cX9_root 201 = .ok (.invokevirtual 129, 3) := by decide +kernel
theorem dX9_root_204 : decode cX9_root 204 = .ok (.i2l, 1) := by decide +kernel
theorem dX9_root_205 : decode cX9_root 205 = .ok (.lreturn, 1) := by decide +kernel
theorem dX9_mixed_0 : decode cX9_mixed 0 = .ok (.aload_n 0, 1) := by decide +kernel
theorem dX9_mixed_1 : decode cX9_mixed 1 = .ok (.getfield 30, 3) := by decide +kernel
theorem dX9_mixed_4 : decode cX9_mixed 4 = .ok (.iconst 4, 1) := by decide +kernel
theorem dX9_mixed_5 : decode cX9_mixed 5 = .ok (.iload_n 2, 1) := by decide +kernel
theorem dX9_mixed_6 : decode cX9_mixed 6 = .ok (.imul, 1) := by decide +kernel
theorem dX9_mixed_7 : decode cX9_mixed 7 = .ok (.laload, 1) := by decide +kernel
theorem dX9_mixed_8 : decode cX9_mixed 8 = .ok (.lstore 4, 2) := by decide +kernel
theorem dX9_mixed_10 : decode cX9_mixed 10 = .ok (.aload_n 0, 1) := by decide +kernel
theorem dX9_mixed_11 : decode cX9_mixed 11 = .ok (.getfield 30, 3) := by decide +kernel
theorem dX9_mixed_14 : decode cX9_mixed 14 = .ok (.iconst 4, 1) := by decide +kernel
theorem dX9_mixed_15 : decode cX9_mixed 15 = .ok (.iload_n 2, 1) := by decide +kernel
theorem dX9_mixed_16 : decode cX9_mixed 16 = .ok (.imul, 1) := by decide +kernel
theorem dX9_mixed_17 : decode cX9_mixed 17 = .ok (.iconst 1, 1) := by decide +kernel
theorem dX9_mixed_18 : decode cX9_mixed 18 = .ok (.iadd, 1) := by decide +kernel
theorem dX9_mixed_19 : decode cX9_mixed 19 = .ok (.laload, 1) := by decide +kernel
theorem dX9_mixed_20 : decode cX9_mixed 20 = .ok (.lstore 6, 2) := by decide +kernel
theorem dX9_mixed_22 : decode cX9_mixed 22 = .ok (.aload_n 0, 1) := by decide +kernel
theorem dX9_mixed_23 : decode cX9_mixed 23 = .ok (.getfield 30, 3) := by decide +kernel
theorem dX9_mixed_26 : decode cX9_mixed 26 = .ok (.iconst 4, 1) := by decide +kernel
theorem dX9_mixed_27 : decode cX9_mixed 27 = .ok (.iload_n 3, 1) := by decide +kernel
theorem dX9_mixed_28 : decode cX9_mixed 28 = .ok (.imul, 1) := by decide +kernel
theorem dX9_mixed_29 : decode cX9_mixed 29 = .ok (.laload, 1) := by decide +kernel
theorem dX9_mixed_30 : decode cX9_mixed 30 = .ok (.lstore 8, 2) := by decide +kernel
theorem dX9_mixed_32 : decode cX9_mixed 32 = .ok (.aload_n 0, 1) := by decide +kernel
theorem dX9_mixed_33 : decode cX9_mixed 33 = .ok (.getfield 30, 3) := by decide +kernel
theorem dX9_mixed_36 : decode cX9_mixed 36 = .ok (.iconst 4, 1) := by decide +kernel
theorem dX9_mixed_37 : decode cX9_mixed 37 = .ok (.iload_n 3, 1) := by decide +kernel
theorem dX9_mixed_38 : decode cX9_mixed 38 = .ok (.imul, 1) := by decide +kernel
theorem dX9_mixed_39 : decode cX9_mixed 39 = .ok (.iconst 1, 1) := by decide +kernel
theorem dX9_mixed_40 : decode cX9_mixed 40 = .ok (.iadd, 1) := by decide +kernel
theorem dX9_mixed_41 : decode cX9_mixed 41 = .ok (.laload, 1) := by decide +kernel
theorem dX9_mixed_42 : decode cX9_mixed 42 = .ok (.lstore 10, 2) := by decide +kernel
theorem dX9_mixed_44 : decode cX9_mixed 44 = .ok (.aload_n 0, 1) := by decide +kernel
theorem dX9_mixed_45 : decode cX9_mixed 45 = .ok (.iconst 0, 1) := by decide +kernel
theorem dX9_mixed_46 : decode cX9_mixed 46 = .ok (.putfield 69, 3) := by decide +kernel
theorem dX9_mixed_49 : decode cX9_mixed 49 = .ok (.aload_n 0, 1) := by decide +kernel
theorem dX9_mixed_50 : decode cX9_mixed 50 = .ok (.aload_n 0, 1) := by decide +kernel
theorem dX9_mixed_51 : decode cX9_mixed 51 = .ok (.aload_n 0, 1) := by decide +kernel
theorem dX9_mixed_52 : decode cX9_mixed 52 = .ok (.aload_n 0, 1) := by decide +kernel
theorem dX9_mixed_53 : decode cX9_mixed 53 = .ok (.getfield 45, 3) := by decide +kernel
theorem dX9_mixed_56 : decode cX9_mixed 56 = .ok (.iload_n 1, 1) := by decide +kernel
theorem dX9_mixed_57 : decode cX9_mixed 57 = .ok (.laload, 1) := by decide +kernel
theorem dX9_mixed_58 : decode cX9_mixed 58 = .ok (.lload 4, 2) := by decide +kernel
theorem dX9_mixed_60 : decode cX9_mixed 60 = .ok (.invokevirtual 151, 3) := by decide +kernel
theorem dX9_mixed_63 : decode cX9_mixed 63 = .ok (.lload 8, 2) := by decide +kernel
theorem dX9_mixed_65 : decode cX9_mixed 65 = .ok (.invokevirtual 151, 3) := by decide +kernel
theorem dX9_mixed_68 : decode cX9_mixed 68 = .ok (.aload_n 0, 1) := by decide +kernel
theorem dX9_mixed_69 : decode cX9_mixed 69 = .ok (.aload_n 0, 1) := by decide +kernel
theorem dX9_mixed_70 : decode cX9_mixed 70 = .ok (.aload_n 0, 1) := by decide +kernel
theorem dX9_mixed_71 : decode cX9_mixed 71 = .ok (.getfield 45, 3) := by decide +kernel
theorem dX9_mixed_74 : decode cX9_mixed 74 = .ok (.iload_n 1, 1) := by decide +kernel
theorem dX9_mixed_75 : decode cX9_mixed 75 = .ok (.iconst 1, 1) := by decide +kernel
theorem dX9_mixed_76 : decode cX9_mixed 76 = .ok (.iadd, 1) := by decide +kernel
theorem dX9_mixed_77 : decode cX9_mixed 77 = .ok (.laload, 1) := by decide +kernel
theorem dX9_mixed_78 : decode cX9_mixed 78 = .ok (.lload 4, 2) := by decide +kernel
theorem dX9_mixed_80 : decode cX9_mixed 80 = .ok (.invokevirtual 151, 3) := by decide +kernel
theorem dX9_mixed_83 : decode cX9_mixed 83 = .ok (.lload 10, 2) := by decide +kernel
theorem dX9_mixed_85 : decode cX9_mixed 85 = .ok (.invokevirtual 151, 3) := by decide +kernel
theorem dX9_mixed_88 : decode cX9_mixed 88 = .ok (.invokevirtual 154, 3) := by decide +kernel
theorem dX9_mixed_91 : decode cX9_mixed 91 = .ok (.lstore 12, 2) := by decide +kernel
theorem dX9_mixed_93 : decode cX9_mixed 93 = .ok (.aload_n 0, 1) := by decide +kernel
theorem dX9_mixed_94 : decode cX9_mixed 94 = .ok (.lload 12, 2) := by decide +kernel
theorem dX9_mixed_96 : decode cX9_mixed 96 = .ok (.aload_n 0, 1) := by decide +kernel
theorem dX9_mixed_97 : decode cX9_mixed 97 = .ok (.aload_n 0, 1) := by decide +kernel
theorem dX9_mixed_98 : decode cX9_mixed 98 = .ok (.aload_n 0, 1) := by decide +kernel
theorem dX9_mixed_99 : decode cX9_mixed 99 = .ok (.getfield 45, 3) := by decide +kernel
theorem dX9_mixed_102 : decode cX9_mixed 102 = .ok (.iload_n 1, 1) := by decide +kernel
theorem dX9_mixed_103 : decode cX9_mixed 103 = .ok (.iconst 2, 1) := by decide +kernel
theorem dX9_mixed_104 : decode cX9_mixed 104 = .ok (.iadd, 1) := by decide +kernel
theorem dX9_mixed_105 : decode cX9_mixed 105 = .ok (.laload, 1) := by decide +kernel
theorem dX9_mixed_106 : decode cX9_mixed 106 = .ok (.lload 8, 2) := by decide +kernel
theorem dX9_mixed_108 : decode cX9_mixed 108 = .ok (.invokevirtual 151, 3) := by decide +kernel
theorem dX9_mixed_111 : decode cX9_mixed 111 = .ok (.lload 6, 2) := by decide +kernel
theorem dX9_mixed_113 : decode cX9_mixed 113 = .ok (.invokevirtual 151, 3) := by decide +kernel
theorem dX9_mixed_116 : decode cX9_mixed 116 = .ok (.invokevirtual 154, 3) := by decide +kernel
theorem dX9_mixed_119 : decode cX9_mixed 119 = .ok (.lstore 12, 2) := by decide +kernel
theorem dX9_mixed_121 : decode cX9_mixed 121 = .ok (.aload_n 0, 1) := by decide +kernel
theorem dX9_mixed_122 : decode cX9_mixed 122 = .ok (.lload 12, 2) := by decide +kernel
theorem dX9_mixed_124 : decode cX9_mixed 124 = .ok (.aload_n 0, 1) := by decide +kernel
theorem dX9_mixed_125 : decode cX9_mixed 125 = .ok (.aload_n 0, 1) := by decide +kernel
theorem dX9_mixed_126 : decode cX9_mixed 126 = .ok (.aload_n 0, 1) := by decide +kernel
theorem dX9_mixed_127 : decode cX9_mixed 127 = .ok (.getfield 45, 3) := by decide +kernel
theorem dX9_mixed_130 : decode cX9_mixed 130 = .ok (.iload_n 1, 1) := by decide +kernel
theorem dX9_mixed_131 : decode cX9_mixed 131 = .ok (.iconst 3, 1) := by decide +kernel
theorem dX9_mixed_132 : decode cX9_mixed 132 = .ok (.iadd, 1) := by decide +kernel
theorem dX9_mixed_133 : decode cX9_mixed 133 = .ok (.laload, 1) := by decide +kernel
theorem dX9_mixed_134 : decode cX9_mixed 134 = .ok (.lload 6, 2) := by decide +kernel
theorem dX9_mixed_136 : decode cX9_mixed 136 = .ok (.invokevirtual 151, 3) := by decide +kernel
theorem dX9_mixed_139 : decode cX9_mixed 139 = .ok (.lload 10, 2) := by decide +kernel
theorem dX9_mixed_141 : decode cX9_mixed 141 = .ok (.invokevirtual 151, 3) := by decide +kernel
theorem dX9_mixed_144 : decode cX9_mixed 144 = .ok (.invokevirtual 154, 3) := by decide +kernel
theorem dX9_mixed_147 : decode cX9_mixed 147 = .ok (.lreturn, 1) := by decide +kernel
theorem dX9_mix_0 : decode cX9_mix 0 = .ok (.aload_n 0, 1) := by decide +kernel
theorem dX9_mix_1 : decode cX9_mix 1 = .ok (.iload_n 1, 1) := by decide +kernel
theorem dX9_mix_2 : decode cX9_mix 2 = .ok (.invokevirtual 179, 3) := by decide +kernel
theorem dX9_mix_5 : decode cX9_mix 5 = .ok (.ifCond .ne 11, 3) := by decide +kernel
theorem dX9_mix_8 : decode cX9_mix 8 = .ok (.aload_n 0, 1) := by decide +kernel
theorem dX9_mix_9 : decode cX9_mix 9 = .ok (.iload_n 2, 1) := by decide +kernel
theorem dX9_mix_10 : decode cX9_mix 10 = .ok (.invokevirtual 179, 3) := by decide +kernel
theorem dX9_mix_13 : decode cX9_mix 13 = .ok (.ifCond .eq 7, 3) := by decide +kernel
theorem dX9_mix_16 : decode cX9_mix 16 = .ok (.ldc2_w 183, 3) := by decide +kernel
theorem dX9_mix_19 : decode cX9_mix 19 = .ok (.lreturn, 1) := by decide +kernel
theorem dX9_mix_20 : decode cX9_mix 20 = .ok (.aload_n 0, 1) := by decide +kernel
theorem dX9_mix_21 : decode cX9_mix 21 = .ok (.getfield 13, 3) := by decide +kernel
theorem dX9_mix_24 : decode cX9_mix 24 = .ok (.iload_n 1, 1) := by decide +kernel
theorem dX9_mix_25 : decode cX9_mix 25 = .ok (.iaload, 1) := by decide +kernel
theorem dX9_mix_26 : decode cX9_mix 26 = .ok (.ifCond .ne 16, 3) := by decide +kernel
theorem dX9_mix_29 : decode cX9_mix 29 = .ok (.aload_n 0, 1) := by decide +kernel
theorem dX9_mix_30 : decode cX9_mix 30 = .ok (.getfield 13, 3) := by decide +kernel
theorem dX9_mix_33 : decode cX9_mix 33 = .ok (.iload_n 2, 1) := by decide +kernel
theorem dX9_mix_34 : decode cX9_mix 34 = .ok (.iaload, 1) := by decide +kernel
theorem dX9_mix_35 : decode cX9_mix 35 = .ok (.ifCond .ne 7, 3) := by decide +kernel
theorem dX9_mix_38 : decode cX9_mix 38 = .ok (.iconst 1, 1) := by decide +kernel
theorem dX9_mix_39 : decode cX9_mix 39 = .ok (.goto 4, 3) := by decide +kernel
theorem dX9_mix_42 : decode cX9_mix 42 = .ok (.iconst 0, 1) := by decide +kernel
theorem dX9_mix_43 : decode cX9_mix 43 = .ok (.istore_n 3, 1) := by decide +kernel
theorem dX9_mix_44 : decode cX9_mix 44 = .ok (.iload_n 3, 1) := by decide +kernel
theorem dX9_mix_45 : decode cX9_mix 45 = .ok (.ifCond .eq 13, 3) := by decide +kernel
theorem dX9_mix_48 : decode cX9_mix 48 = .ok (.aload_n 0, 1) := by decide +kernel
theorem dX9_mix_49 : decode cX9_mix 49 = .ok (.iconst 4, 1) := by decide +kernel
theorem dX9_mix_50 : decode cX9_mix 50 = .ok (.iload_n 1, 1) := by decide +kernel
theorem dX9_mix_51 : decode cX9_mix 51 = .ok (.iload_n 2, 1) := by decide +kernel
theorem dX9_mix_52 : decode cX9_mix 52 = .ok (.invokevirtual 204, 3) := by decide +kernel
theorem dX9_mix_55 : decode cX9_mix 55 = .ok (.goto 4, 3) := by decide +kernel
theorem dX9_mix_58 : decode cX9_mix 58 = .ok (.lconst 1, 1) := by decide +kernel
theorem dX9_mix_59 : decode cX9_mix 59 = .ok (.lstore 4, 2) := by decide +kernel
theorem dX9_mix_61 : decode cX9_mix 61 = .ok (.iload_n 3, 1) := by decide +kernel
theorem dX9_mix_62 : decode cX9_mix 62 = .ok (.ifCond .eq 14, 3) := by decide +kernel
theorem dX9_mix_65 : decode cX9_mix 65 = .ok (.aload_n 0, 1) := by decide +kernel
theorem dX9_mix_66 : decode cX9_mix 66 = .ok (.getfield 69, 3) := by decide +kernel
theorem dX9_mix_69 : decode cX9_mix 69 = .ok (.ifCond .eq 7, 3) := by decide +kernel
theorem dX9_mix_72 : decode cX9_mix 72 = .ok (.iconst 1, 1) := by decide +kernel
theorem dX9_mix_73 : decode cX9_mix 73 = .ok (.goto 4, 3) := by decide +kernel
theorem dX9_mix_76 : decode cX9_mix 76 = .ok (.iconst 0, 1) := by decide +kernel
theorem dX9_mix_77 : decode cX9_mix 77 = .ok (.istore 6, 2) := by decide +kernel
theorem dX9_mix_79 : decode cX9_mix 79 = .ok (.iload_n 3, 1) := by decide +kernel
theorem dX9_mix_80 : decode cX9_mix 80 = .ok (.ifCond .eq 19, 3) := by decide +kernel
theorem dX9_mix_83 : decode cX9_mix 83 = .ok (.iload 6, 2) := by decide +kernel
theorem dX9_mix_85 : decode cX9_mix 85 = .ok (.ifCond .ne 14, 3) := by decide +kernel
theorem dX9_mix_88 : decode cX9_mix 88 = .ok (.lload 4, 2) := by decide +kernel
theorem dX9_mix_90 : decode cX9_mix 90 = .ok (.lconst 0, 1) := by decide +kernel
theorem dX9_mix_91 : decode cX9_mix 91 = .ok (.lcmp, 1) := by decide +kernel
theorem dX9_mix_92 : decode cX9_mix 92 = .ok (.ifCond .ne 7, 3) := by decide +kernel
theorem dX9_mix_95 : decode cX9_mix 95 = .ok (.ldc2_w 143, 3) := by decide +kernel
theorem dX9_mix_98 : decode cX9_mix 98 = .ok (.lreturn, 1) := by decide +kernel
theorem dX9_mix_99 : decode cX9_mix 99 = .ok (.aload_n 0, 1) := by decide +kernel
theorem dX9_mix_100 : decode cX9_mix 100 = .ok (.getfield 79, 3) := by decide +kernel
theorem dX9_mix_103 : decode cX9_mix 103 = .ok (.bipush 40, 2) := by decide +kernel
theorem dX9_mix_105 : decode cX9_mix 105 = .ok (.if_icmp .ne 7, 3) := by decide +kernel
theorem dX9_mix_108 : decode cX9_mix 108 = .ok (.ldc2_w 111, 3) := by decide +kernel
theorem dX9_mix_111 : decode cX9_mix 111 = .ok (.lreturn, 1) := by decide +kernel
theorem dX9_mix_112 : decode cX9_mix 112 = .ok (.iload_n 3, 1) := by decide +kernel
theorem dX9_mix_113 : decode cX9_mix 113 = .ok (.ifCond .eq 40, 3) := by decide +kernel
theorem dX9_mix_116 : decode cX9_mix 116 = .ok (.aload_n 0, 1) := by decide +kernel
theorem dX9_mix_117 : decode cX9_mix 117 = .ok (.iconst 0, 1) := by decide +kernel
theorem dX9_mix_118 : decode cX9_mix 118 = .ok (.iload_n 1, 1) := by decide +kernel
theorem dX9_mix_119 : decode cX9_mix 119 = .ok (.iload_n 2, 1) := by decide +kernel
theorem dX9_mix_120 : decode cX9_mix 120 = .ok (.invokevirtual 204, 3) := by decide +kernel
theorem dX9_mix_123 : decode cX9_mix 123 = .ok (.lstore 7, 2) := by decide +kernel
theorem dX9_mix_125 : decode cX9_mix 125 = .ok (.iload 6, 2) := by decide +kernel
theorem dX9_mix_127 : decode cX9_mix 127 = .ok (.ifCond .ne 10, 3) := by decide +kernel
theorem dX9_mix_130 : decode cX9_mix 130 = .ok (.aload_n 0, 1) := by decide +kernel
theorem dX9_mix_131 : decode cX9_mix 131 = .ok (.getfield 69, 3) := by decide +kernel
theorem dX9_mix_134 : decode cX9_mix 134 = .ok (.ifCond .eq 9, 3) := by decide +kernel
theorem dX9_mix_137 : decode cX9_mix 137 = .ok (.ldc2_w 177, 3) := by decide +kernel
theorem dX9_mix_140 : decode cX9_mix 140 = .ok (.goto 12, 3) := by decide +kernel
theorem dX9_mix_143 : decode cX9_mix 143 = .ok (.aload_n 0, 1) := by decide +kernel
theorem dX9_mix_144 : decode cX9_mix 144 = .ok (.lload 7, 2) := by decide +kernel
theorem dX9_mix_146 : decode cX9_mix 146 = .ok (.lload 4, 2) := by decide +kernel
theorem dX9_mix_148 : decode cX9_mix 148 = .ok (.invokevirtual 113, 3) := by decide +kernel
theorem dX9_mix_151 : decode cX9_mix 151 = .ok (.i2l, 1) := by decide +kernel
theorem dX9_mix_152 : decode cX9_mix 152 = .ok (.lreturn, 1) := by decide +kernel
theorem dX9_mix_153 : decode cX9_mix 153 = .ok (.iconst 0, 1) := by decide +kernel
theorem dX9_mix_154 : decode cX9_mix 154 = .ok (.istore 7, 2) := by decide +kernel
theorem dX9_mix_156 : decode cX9_mix 156 = .ok (.iload 7, 2) := by decide +kernel
theorem dX9_mix_158 : decode cX9_mix 158 = .ok (.bipush 8, 2) := by decide +kernel
theorem dX9_mix_160 : decode cX9_mix 160 = .ok (.if_icmp .ge 23, 3) := by decide +kernel
theorem dX9_mix_163 : decode cX9_mix 163 = .ok (.aload_n 0, 1) := by decide +kernel
theorem dX9_mix_164 : decode cX9_mix 164 = .ok (.getfield 48, 3) := by decide +kernel
theorem dX9_mix_167 : decode cX9_mix 167 = .ok (.iload 7, 2) := by decide +kernel
theorem dX9_mix_169 : decode cX9_mix 169 = .ok (.aload_n 0, 1) := by decide +kernel
theorem dX9_mix_170 : decode cX9_mix 170 = .ok (.getfield 45, 3) := by decide +kernel
theorem dX9_mix_173 : decode cX9_mix 173 = .ok (.iload 7, 2) := by decide +kernel
theorem dX9_mix_175 : decode cX9_mix 175 = .ok (.laload, 1) := by decide +kernel
theorem dX9_mix_176 : decode cX9_mix 176 = .ok (.lastore, 1) := by decide +kernel
theorem dX9_mix_177 : decode cX9_mix 177 = .ok (.iinc 7 1, 3) := by decide +kernel
theorem dX9_mix_180 : decode cX9_mix 180 = .ok (.goto (-24), 3) := by decide +kernel
theorem dX9_mix_183 : decode cX9_mix 183 = .ok (.aload_n 0, 1) := by decide +kernel
theorem dX9_mix_184 : decode cX9_mix 184 = .ok (.iload_n 1, 1) := by decide +kernel
theorem dX9_mix_185 : decode cX9_mix 185 = .ok (.iload_n 2, 1) := by decide +kernel
theorem dX9_mix_186 : decode cX9_mix 186 = .ok (.invokevirtual 198, 3) := by decide +kernel
theorem dX9_mix_189 : decode cX9_mix 189 = .ok (.lreturn, 1) := by decide +kernel
theorem dX9_roll__0 : decode cX9_roll_ 0 = .ok (.iload_n 1, 1) := by decide +kernel
theorem dX9_roll__1 : decode cX9_roll_ 1 = .ok (.iconst (-1), 1) := by decide +kernel
theorem dX9_roll__2 : decode cX9_roll_ 2 = .ok (.if_icmp .ne 9, 3) := by decide +kernel
theorem dX9_roll__5 : decode cX9_roll_ 5 = .ok (.aload_n 0, 1) := by decide +kernel
theorem dX9_roll__6 : decode cX9_roll_ 6 = .ok (.getfield 207, 3) := by decide +kernel
theorem dX9_roll__9 : decode cX9_roll_ 9 = .ok (.i2l, 1) := by decide +kernel
theorem dX9_roll__10 : decode cX9_roll_ 10 = .ok (.lreturn, 1) := by decide +kernel
theorem dX9_roll__11 : decode cX9_roll_ 11 = .ok (.iload_n 1, 1) := by decide +kernel
theorem dX9_roll__12 : decode cX9_roll_ 12 = .ok (.i2l, 1) := by decide +kernel
theorem dX9_roll__13 : decode cX9_roll_ 13 = .ok (.lconst 0, 1) := by decide +kernel
theorem dX9_roll__14 : decode cX9_roll_ 14 = .ok (.aload_n 0, 1) := by decide +kernel
theorem dX9_roll__15 : decode cX9_roll_ 15 = .ok (.getfield 207, 3) := by decide +kernel
theorem dX9_roll__18 : decode cX9_roll_ 18 = .ok (.iconst 1, 1) := by decide +kernel
theorem dX9_roll__19 : decode cX9_roll_ 19 = .ok (.isub, 1) := by decide +kernel
theorem dX9_roll__20 : decode cX9_roll_ 20 = .ok (.i2l, 1) := by decide +kernel
theorem dX9_roll__21 : decode cX9_roll_ 21 = .ok (.invokestatic 75, 3) := by decide +kernel
theorem dX9_roll__24 : decode cX9_roll_ 24 = .ok (.ifCond .eq 29, 3) := by decide +kernel
theorem dX9_roll__27 : decode cX9_roll_ 27 = .ok (.iload_n 2, 1) := by decide +kernel
theorem dX9_roll__28 : decode cX9_roll_ 28 = .ok (.i2l, 1) := by decide +kernel
theorem dX9_roll__29 : decode cX9_roll_ 29 = .ok (.lconst 0, 1) := by decide +kernel
theorem dX9_roll__30 : decode cX9_roll_ 30 = .ok (.ldc2_w 247, 3) := by decide +kernel
theorem dX9_roll__33 : decode cX9_roll_ 33 = .ok (.invokestatic 75, 3) := by decide +kernel
theorem dX9_roll__36 : decode cX9_roll_ 36 = .ok (.ifCond .eq 17, 3) := by decide +kernel
theorem dX9_roll__39 : decode cX9_roll_ 39 = .ok (.aload_n 0, 1) := by decide +kernel
theorem dX9_roll__40 : decode cX9_roll_ 40 = .ok (.getfield 54, 3) := by decide +kernel
theorem dX9_roll__43 : decode cX9_roll_ 43 = .ok (.bipush 10, 2) := by decide +kernel
theorem dX9_roll__45 : decode cX9_roll_ 45 = .ok (.iload_n 1, 1) := by decide +kernel
theorem dX9_roll__46 : decode cX9_roll_ 46 = .ok (.imul, 1) := by decide +kernel
theorem dX9_roll__47 : decode cX9_roll_ 47 = .ok (.iload_n 2, 1) := by decide +kernel
theorem dX9_roll__48 : decode cX9_roll_ 48 = .ok (.iadd, 1) := by decide +kernel
theorem dX9_roll__49 : decode cX9_roll_ 49 = .ok (.laload, 1) := by decide +kernel
theorem dX9_roll__50 : decode cX9_roll_ 50 = .ok (.goto 6, 3) := by decide +kernel
theorem dX9_roll__53 : decode cX9_roll_ 53 = .ok (.ldc2_w 109, 3) := by decide +kernel
theorem dX9_roll__56 : decode cX9_roll_ 56 = .ok (.lreturn, 1) := by decide +kernel
theorem dX9_isBehind_0 : decode cX9_isBehind 0 = .ok (.iload_n 2, 1) := by decide +kernel
theorem dX9_isBehind_1 : decode cX9_isBehind 1 = .ok (.ifCond .lt 22, 3) := by decide +kernel
theorem dX9_isBehind_4 : decode cX9_isBehind 4 = .ok (.aload_n 0, 1) := by decide +kernel
theorem dX9_isBehind_5 : decode cX9_isBehind 5 = .ok (.getfield 20, 3) := by decide +kernel
theorem dX9_isBehind_8 : decode cX9_isBehind 8 = .ok (.iload_n 1, 1) := by decide +kernel
theorem dX9_isBehind_9 : decode cX9_isBehind 9 = .ok (.baload, 1) := by decide +kernel
theorem dX9_isBehind_10 : decode cX9_isBehind 10 = .ok (.ifCond .eq 17, 3) := by decide +kernel
theorem dX9_isBehind_13 : decode cX9_isBehind 13 = .ok (.iload_n 2, 1) := by decide +kernel
theorem dX9_isBehind_14 : decode cX9_isBehind 14 = .ok (.aload_n 0, 1) := by decide +kernel
theorem dX9_isBehind_15 : decode cX9_isBehind 15 = .ok (.getfield 17, 3) := by decide +kernel
theorem dX9_isBehind_18 : decode cX9_isBehind 18 = .ok (.iload_n 1, 1) := by decide +kernel
theorem dX9_isBehind_19 : decode cX9_isBehind 19 = .ok (.iaload, 1) := by decide +kernel
theorem dX9_isBehind_20 : decode cX9_isBehind 20 = .ok (.if_icmp .lt 7, 3) := by decide +kernel
theorem dX9_isBehind_23 : decode cX9_isBehind 23 = .ok (.iconst 1, 1) := by decide +kernel
theorem dX9_isBehind_24 : decode cX9_isBehind 24 = .ok (.goto 4, 3) := by decide +kernel
theorem dX9_isBehind_27 : decode cX9_isBehind 27 = .ok (.iconst 0, 1) := by decide +kernel
theorem dX9_isBehind_28 : decode cX9_isBehind 28 = .ok (.ireturn, 1) := by decide +kernel
theorem dX9_part_0 : decode cX9_part 0 = .ok (.aload_n 0, 1) := by decide +kernel
theorem dX9_part_1 : decode cX9_part 1 = .ok (.iload_n 1, 1) := by decide +kernel
theorem dX9_part_2 : decode cX9_part 2 = .ok (.invokevirtual 179, 3) := by decide +kernel
theorem dX9_part_5 : decode cX9_part 5 = .ok (.ifCond .eq 7, 3) := by decide +kernel
theorem dX9_part_8 : decode cX9_part 8 = .ok (.ldc2_w 183, 3) := by decide +kernel
theorem dX9_part_11 : decode cX9_part 11 = .ok (.lreturn, 1) := by decide +kernel
theorem dX9_part_12 : decode cX9_part 12 = .ok (.aload_n 0, 1) := by decide +kernel
theorem dX9_part_13 : decode cX9_part 13 = .ok (.iload_n 1, 1) := by decide +kernel
theorem dX9_part_14 : decode cX9_part 14 = .ok (.iload_n 2, 1) := by decide +kernel
theorem dX9_part_15 : decode cX9_part 15 = .ok (.invokevirtual 252, 3) := by decide +kernel
theorem dX9_part_18 : decode cX9_part 18 = .ok (.ifCond .eq 7, 3) := by decide +kernel
theorem dX9_part_21 : decode cX9_part 21 = .ok (.ldc2_w 109, 3) := by decide +kernel
theorem dX9_part_24 : decode cX9_part 24 = .ok (.lreturn, 1) := by decide +kernel
theorem dX9_part_25 : decode cX9_part 25 = .ok (.iload_n 2, 1) := by decide +kernel
theorem dX9_part_26 : decode cX9_part 26 = .ok (.aload_n 0, 1) := by decide +kernel
theorem dX9_part_27 : decode cX9_part 27 = .ok (.getfield 17, 3) := by decide +kernel
theorem dX9_part_30 : decode cX9_part 30 = .ok (.iload_n 1, 1) := by decide +kernel
theorem dX9_part_31 : decode cX9_part 31 = .ok (.iaload, 1) := by decide +kernel
theorem dX9_part_32 : decode cX9_part 32 = .ok (.if_icmp .ge 17, 3) := by decide +kernel
theorem dX9_part_35 : decode cX9_part 35 = .ok (.aload_n 0, 1) := by decide +kernel
theorem dX9_part_36 : decode cX9_part 36 = .ok (.getfield 23, 3) := by decide +kernel
theorem dX9_part_39 : decode cX9_part 39 = .ok (.bipush 60, 2) := by decide +kernel
theorem dX9_part_41 : decode cX9_part 41 = .ok (.iload_n 1, 1) := by decide +kernel
theorem dX9_part_42 : decode cX9_part 42 = .ok (.imul, 1) := by decide +kernel
theorem dX9_part_43 : decode cX9_part 43 = .ok (.iload_n 2, 1) := by decide +kernel
theorem dX9_part_44 : decode cX9_part 44 = .ok (.iadd, 1) := by decide +kernel
theorem dX9_part_45 : decode cX9_part 45 = .ok (.laload, 1) := by decide +kernel
theorem dX9_part_46 : decode cX9_part 46 = .ok (.goto 6, 3) := by decide +kernel
theorem dX9_part_49 : decode cX9_part 49 = .ok (.ldc2_w 255, 3) := by decide +kernel
theorem dX9_part_52 : decode cX9_part 52 = .ok (.lreturn, 1) := by decide +kernel
theorem dX9_near_0 : decode cX9_near 0 = .ok (.aload_n 0, 1) := by decide +kernel
theorem dX9_near_1 : decode cX9_near 1 = .ok (.iload_n 1, 1) := by decide +kernel
theorem dX9_near_2 : decode cX9_near 2 = .ok (.invokevirtual 179, 3) := by decide +kernel
theorem dX9_near_5 : decode cX9_near 5 = .ok (.ifCond .eq 7, 3) := by decide +kernel
theorem dX9_near_8 : decode cX9_near 8 = .ok (.ldc2_w 183, 3) := by decide +kernel
theorem dX9_near_11 : decode cX9_near 11 = .ok (.lreturn, 1) := by decide +kernel
theorem dX9_near_12 : decode cX9_near 12 = .ok (.aload_n 0, 1) := by decide +kernel
theorem dX9_near_13 : decode cX9_near 13 = .ok (.iload_n 1, 1) := by decide +kernel
theorem dX9_near_14 : decode cX9_near 14 = .ok (.iload_n 2, 1) := by decide +kernel
theorem dX9_near_15 : decode cX9_near 15 = .ok (.invokevirtual 252, 3) := by decide +kernel
theorem dX9_near_18 : decode cX9_near 18 = .ok (.ifCond .ne 13, 3) := by decide +kernel
theorem dX9_near_21 : decode cX9_near 21 = .ok (.iload_n 3, 1) := by decide +kernel
theorem dX9_near_22 : decode cX9_near 22 = .ok (.i2l, 1) := by decide +kernel
theorem dX9_near_23 : decode cX9_near 23 = .ok (.lconst 0, 1) := by decide +kernel
theorem dX9_near_24 : decode cX9_near 24 = .ok (.lconst 1, 1) := by decide +kernel
theorem dX9_near_25 : decode cX9_near 25 = .ok (.invokestatic 75, 3) := by decide +kernel
theorem dX9_near_28 : decode cX9_near 28 = .ok (.ifCond .ne 7, 3) := by decide +kernel
theorem dX9_near_31 : decode cX9_near 31 = .ok (.ldc2_w 109, 3) := by decide +kernel
theorem dX9_near_34 : decode cX9_near 34 = .ok (.lreturn, 1) := by decide +kernel
theorem dX9_near_35 : decode cX9_near 35 = .ok (.aload_n 0, 1) := by decide +kernel
theorem dX9_near_36 : decode cX9_near 36 = .ok (.invokevirtual 277, 3) := by decide +kernel
theorem dX9_near_39 : decode cX9_near 39 = .ok (.iconst 0, 1) := by decide +kernel
theorem dX9_near_40 : decode cX9_near 40 = .ok (.istore 4, 2) := by decide +kernel
theorem dX9_near_42 : decode cX9_near 42 = .ok (.iload 4, 2) := by decide +kernel
theorem dX9_near_44 : decode cX9_near 44 = .ok (.iload_n 2, 1) := by decide +kernel
theorem dX9_near_45 : decode cX9_near 45 = .ok (.if_icmp .gt 43, 3) := by decide +kernel
theorem dX9_near_48 : decode cX9_near 48 = .ok (.iload 4, 2) := by decide +kernel
theorem dX9_near_50 : decode cX9_near 50 = .ok (.aload_n 0, 1) := by decide +kernel
theorem dX9_near_51 : decode cX9_near 51 = .ok (.getfield 17, 3) := by decide +kernel
theorem dX9_near_54 : decode cX9_near 54 = .ok (.iload_n 1, 1) := by decide +kernel
theorem dX9_near_55 : decode cX9_near 55 = .ok (.iaload, 1) := by decide +kernel
theorem dX9_near_56 : decode cX9_near 56 = .ok (.if_icmp .ge 32, 3) := by decide +kernel
theorem dX9_near_59 : decode cX9_near 59 = .ok (.aload_n 0, 1) := by decide +kernel
theorem dX9_near_60 : decode cX9_near 60 = .ok (.getfield 69, 3) := by decide +kernel
theorem dX9_near_63 : decode cX9_near 63 = .ok (.ifCond .ne 25, 3) := by decide +kernel
theorem dX9_near_66 : decode cX9_near 66 = .ok (.aload_n 0, 1) := by decide +kernel
theorem dX9_near_67 : decode cX9_near 67 = .ok (.aload_n 0, 1) := by decide +kernel
theorem dX9_near_68 : decode cX9_near 68 = .ok (.getfield 23, 3) := by decide +kernel
theorem dX9_near_71 : decode cX9_near 71 = .ok (.bipush 60, 2) := by decide +kernel
theorem dX9_near_73 : decode cX9_near 73 = .ok (.iload_n 1, 1) := by decide +kernel
theorem dX9_near_74 : decode cX9_near 74 = .ok (.imul, 1) := by decide +kernel
theorem dX9_near_75 : decode cX9_near 75 = .ok (.iload 4, 2) := by decide +kernel
theorem dX9_near_77 : decode cX9_near 77 = .ok (.iadd, 1) := by decide +kernel
theorem dX9_near_78 : decode cX9_near 78 = .ok (.laload, 1) := by decide +kernel
theorem dX9_near_79 : decode cX9_near 79 = .ok (.invokevirtual 280, 3) := by decide +kernel
theorem dX9_near_82 : decode cX9_near 82 = .ok (.iinc 4 1, 3) := by decide +kernel
theorem dX9_near_85 : decode cX9_near 85 = .ok (.goto (-43), 3) := by decide +kernel
theorem dX9_near_88 : decode cX9_near 88 = .ok (.aload_n 0, 1) := by decide +kernel
theorem dX9_near_89 : decode cX9_near 89 = .ok (.getfield 69, 3) := by decide +kernel
theorem dX9_near_92 : decode cX9_near 92 = .ok (.ifCond .eq 7, 3) := by decide +kernel
theorem dX9_near_95 : decode cX9_near 95 = .ok (.ldc2_w 177, 3) := by decide +kernel
theorem dX9_near_98 : decode cX9_near 98 = .ok (.lreturn, 1) := by decide +kernel
theorem dX9_near_99 : decode cX9_near 99 = .ok (.iload_n 2, 1) := by decide +kernel
theorem dX9_near_100 : decode cX9_near 100 = .ok (.aload_n 0, 1) := by decide +kernel
theorem dX9_near_101 : decode cX9_near 101 = .ok (.getfield 17, 3) := by decide +kernel
theorem dX9_near_104 : decode cX9_near 104 = .ok (.iload_n 1, 1) := by decide +kernel
theorem dX9_near_105 : decode cX9_near 105 = .ok (.iaload, 1) := by decide +kernel
theorem dX9_near_106 : decode cX9_near 106 = .ok (.if_icmp .lt 9, 3) := by decide +kernel
theorem dX9_near_109 : decode cX9_near 109 = .ok (.ldc2_w 255, 3) := by decide +kernel
theorem dX9_near_112 : decode cX9_near 112 = .ok (.goto 18, 3) := by decide +kernel
theorem dX9_near_115 : decode cX9_near 115 = .ok (.iload_n 3, 1) := by decide +kernel
theorem dX9_near_116 : decode cX9_near 116 = .ok (.ifCond .ne 10, 3) := by decide +kernel
theorem dX9_near_119 : decode cX9_near 119 = .ok (.aload_n 0, 1) := by decide +kernel
theorem dX9_near_120 : decode cX9_near 120 = .ok (.getfield 259, 3) := by decide +kernel
theorem dX9_near_123 : decode cX9_near 123 = .ok (.goto 7, 3) := by decide +kernel
theorem dX9_near_126 : decode cX9_near 126 = .ok (.aload_n 0, 1) := by decide +kernel
theorem dX9_near_127 : decode cX9_near 127 = .ok (.getfield 262, 3) := by decide +kernel
theorem dX9_near_130 : decode cX9_near 130 = .ok (.lreturn, 1) := by decide +kernel
theorem dX9_figure_0 : decode cX9_figure 0 = .ok (.aload_n 0, 1) := by decide +kernel
theorem dX9_figure_1 : decode cX9_figure 1 = .ok (.iload_n 1, 1) := by decide +kernel
theorem dX9_figure_2 : decode cX9_figure 2 = .ok (.invokevirtual 179, 3) := by decide +kernel
theorem dX9_figure_5 : decode cX9_figure 5 = .ok (.ifCond .eq 7, 3) := by decide +kernel
theorem dX9_figure_8 : decode cX9_figure 8 = .ok (.ldc2_w 183, 3) := by decide +kernel
theorem dX9_figure_11 : decode cX9_figure 11 = .ok (.lreturn, 1) := by decide +kernel
theorem dX9_figure_12 : decode cX9_figure 12 = .ok (.iload_n 2, 1) := by decide +kernel
theorem dX9_figure_13 : decode cX9_figure 13 = .ok (.i2l, 1) := by decide +kernel
theorem dX9_figure_14 : decode cX9_figure 14 = .ok (.ldc2_w 102, 3) := by decide +kernel
theorem dX9_figure_17 : decode cX9_figure 17 = .ok (.ldc2_w 305, 3) := by decide +kernel
theorem dX9_figure_20 : decode cX9_figure 20 = .ok (.invokestatic 75, 3) := by decide +kernel
theorem dX9_figure_23 : decode cX9_figure 23 = .ok (.ifCond .eq 15, 3) := by decide +kernel
theorem dX9_figure_26 : decode cX9_figure 26 = .ok (.iload_n 3, 1) := by decide +kernel
theorem dX9_figure_27 : decode cX9_figure 27 = .ok (.i2l, 1) := by decide +kernel
theorem dX9_figure_28 : decode cX9_figure 28 = .ok (.lconst 0, 1) := by decide +kernel
theorem dX9_figure_29 : decode cX9_figure 29 = .ok (.ldc2_w 307, 3) := by decide +kernel
theorem dX9_figure_32 : decode cX9_figure 32 = .ok (.invokestatic 75, 3) := by decide +kernel
theorem dX9_figure_35 : decode cX9_figure 35 = .ok (.ifCond .ne 7, 3) := by decide +kernel
theorem dX9_figure_38 : decode cX9_figure 38 = .ok (.ldc2_w 109, 3) := by decide +kernel
theorem dX9_figure_41 : decode cX9_figure 41 = .ok (.lreturn, 1) := by decide +kernel
theorem dX9_figure_42 : decode cX9_figure 42 = .ok (.aload_n 0, 1) := by decide +kernel
theorem dX9_figure_43 : decode cX9_figure 43 = .ok (.invokevirtual 277, 3) := by decide +kernel
theorem dX9_figure_46 : decode cX9_figure 46 = .ok (.aload_n 0, 1) := by decide +kernel
theorem dX9_figure_47 : decode cX9_figure 47 = .ok (.getfield 20, 3) := by decide +kernel
theorem dX9_figure_50 : decode cX9_figure 50 = .ok (.iload_n 1, 1) := by decide +kernel
theorem dX9_figure_51 : decode cX9_figure 51 = .ok (.baload, 1) := by decide +kernel
theorem dX9_figure_52 : decode cX9_figure 52 = .ok (.ifCond .eq 81, 3) := by decide +kernel
theorem dX9_figure_55 : decode cX9_figure 55 = .ok (.iconst 0, 1) := by decide +kernel
theorem dX9_figure_56 : decode cX9_figure 56 = .ok (.istore 4, 2) := by decide +kernel
theorem dX9_figure_58 : decode cX9_figure 58 = .ok (.iload 4, 2) := by decide +kernel
theorem dX9_figure_60 : decode cX9_figure 60 = .ok (.aload_n 0, 1) := by decide +kernel
theorem dX9_figure_61 : decode cX9_figure 61 = .ok (.getfield 17, 3) := by decide +kernel
theorem dX9_figure_64 : decode cX9_figure 64 = .ok (.iload_n 1, 1) := by decide +kernel
theorem dX9_figure_65 : decode cX9_figure 65 = .ok (.iaload, 1) := by decide +kernel
theorem dX9_figure_66 : decode cX9_figure 66 = .ok (.if_icmp .ge 32, 3) := by decide +kernel
theorem dX9_figure_69 : decode cX9_figure 69 = .ok (.aload_n 0, 1) := by decide +kernel
theorem dX9_figure_70 : decode cX9_figure 70 = .ok (.getfield 69, 3) := by decide +kernel
theorem dX9_figure_73 : decode cX9_figure 73 = .ok (.ifCond .ne 25, 3) := by decide +kernel
theorem dX9_figure_76 : decode cX9_figure 76 = .ok (.aload_n 0, 1) := by decide +kernel
theorem dX9_figure_77 : decode cX9_figure 77 = .ok (.aload_n 0, 1) := by decide +kernel
theorem dX9_figure_78 : decode cX9_figure 78 = .ok (.getfield 23, 3) := by decide +kernel
theorem dX9_figure_81 : decode cX9_figure 81 = .ok (.bipush 60, 2) := by decide +kernel
theorem dX9_figure_83 : decode cX9_figure 83 = .ok (.iload_n 1, 1) := by decide +kernel
theorem dX9_figure_84 : decode cX9_figure 84 = .ok (.imul, 1) := by decide +kernel
theorem dX9_figure_85 : decode cX9_figure 85 = .ok (.iload 4, 2) := by decide +kernel
theorem dX9_figure_87 : decode cX9_figure 87 = .ok (.iadd, 1) := by decide +kernel
theorem dX9_figure_88 : decode cX9_figure 88 = .ok (.laload, 1) := by decide +kernel
theorem dX9_figure_89 : decode cX9_figure 89 = .ok (.invokevirtual 280, 3) := by decide +kernel
theorem dX9_figure_92 : decode cX9_figure 92 = .ok (.iinc 4 1, 3) := by decide +kernel
theorem dX9_figure_95 : decode cX9_figure 95 = .ok (.goto (-37), 3) := by decide +kernel
theorem dX9_figure_98 : decode cX9_figure 98 = .ok (.aload_n 0, 1) := by decide +kernel
theorem dX9_figure_99 : decode cX9_figure 99 = .ok (.getfield 69, 3) := by decide +kernel
theorem dX9_figure_102 : decode cX9_figure 102 = .ok (.ifCond .ne 18, 3) := by decide +kernel
theorem dX9_figure_105 : decode cX9_figure 105 = .ok (.ldc2_w 305, 3) := by decide +kernel
theorem dX9_figure_108 : decode cX9_figure 108 = .ok (.aload_n 0, 1) := by decide +kernel
theorem dX9_figure_109 : decode cX9_figure 109 = .ok (.getfield 262, 3) := by decide +kernel
theorem dX9_figure_112 : decode cX9_figure 112 = .ok (.lmul, 1) := by decide +kernel
theorem dX9_figure_113 : decode cX9_figure 113 = .ok (.ldc2_w 67, 3) := by decide +kernel
theorem dX9_figure_116 : decode cX9_figure 116 = .ok (.lcmp, 1) := by decide +kernel
theorem dX9_figure_117 : decode cX9_figure 117 = .ok (.ifCond .le 9, 3) := by decide +kernel
theorem dX9_figure_120 : decode cX9_figure 120 = .ok (.ldc2_w 177, 3) := by decide +kernel
theorem dX9_figure_123 : decode cX9_figure 123 = .ok (.goto 9, 3) := by decide +kernel
theorem dX9_figure_126 : decode cX9_figure 126 = .ok (.aload_n 0, 1) := by decide +kernel
theorem dX9_figure_127 : decode cX9_figure 127 = .ok (.iload_n 2, 1) := by decide +kernel
theorem dX9_figure_128 : decode cX9_figure 128 = .ok (.iload_n 3, 1) := by decide +kernel
theorem dX9_figure_129 : decode cX9_figure 129 = .ok (.invokevirtual 309, 3) := by decide +kernel
theorem dX9_figure_132 : decode cX9_figure 132 = .ok (.lreturn, 1) := by decide +kernel
theorem dX9_figure_133 : decode cX9_figure 133 = .ok (.lconst 0, 1) := by decide +kernel
theorem dX9_figure_134 : decode cX9_figure 134 = .ok (.lstore 4, 2) := by decide +kernel
theorem dX9_figure_136 : decode cX9_figure 136 = .ok (.lconst 0, 1) := by decide +kernel
theorem dX9_figure_137 : decode cX9_figure 137 = .ok (.lstore 6, 2) := by decide +kernel
theorem dX9_figure_139 : decode cX9_figure 139 = .ok (.lconst 0, 1) := by decide +kernel
theorem dX9_figure_140 : decode cX9_figure 140 = .ok (.lstore 8, 2) := by decide +kernel
theorem dX9_figure_142 : decode cX9_figure 142 = .ok (.lconst 0, 1) := by decide +kernel
theorem dX9_figure_143 : decode cX9_figure 143 = .ok (.lstore 10, 2) := by decide +kernel
theorem dX9_figure_145 : decode cX9_figure 145 = .ok (.iconst (-1), 1) := by decide +kernel
theorem dX9_figure_146 : decode cX9_figure 146 = .ok (.istore 12, 2) := by decide +kernel
theorem dX9_figure_148 : decode cX9_figure 148 = .ok (.iconst 0, 1) := by decide +kernel
theorem dX9_figure_149 : decode cX9_figure 149 = .ok (.istore 13, 2) := by decide +kernel
theorem dX9_figure_151 : decode cX9_figure 151 = .ok (.iload 13, 2) := by decide +kernel
theorem dX9_figure_153 : decode cX9_figure 153 = .ok (.aload_n 0, 1) := by decide +kernel
theorem dX9_figure_154 : decode cX9_figure 154 = .ok (.getfield 17, 3) := by decide +kernel
theorem dX9_figure_157 : decode cX9_figure 157 = .ok (.iload_n 1, 1) := by decide +kernel
theorem dX9_figure_158 : decode cX9_figure 158 = .ok (.iaload, 1) := by decide +kernel
theorem dX9_figure_159 : decode cX9_figure 159 = .ok (.if_icmp .ge 79, 3) := by decide +kernel
theorem dX9_figure_162 : decode cX9_figure 162 = .ok (.iload 12, 2) := by decide +kernel
theorem dX9_figure_164 : decode cX9_figure 164 = .ok (.iload 13, 2) := by decide +kernel
theorem dX9_figure_166 : decode cX9_figure 166 = .ok (.iconst 1, 1) := by decide +kernel
theorem dX9_figure_167 : decode cX9_figure 167 = .ok (.isub, 1) := by decide +kernel
theorem dX9_figure_168 : decode cX9_figure 168 = .ok (.if_icmp .ne 70, 3) := by decide +kernel
theorem dX9_figure_171 : decode cX9_figure 171 = .ok (.aload_n 0, 1) := by decide +kernel
theorem dX9_figure_172 : decode cX9_figure 172 = .ok (.aload_n 0, 1) := by decide +kernel
theorem dX9_figure_173 : decode cX9_figure 173 = .ok (.getfield 23, 3) := by decide +kernel
theorem dX9_figure_176 : decode cX9_figure 176 = .ok (.bipush 60, 2) := by decide +kernel
theorem dX9_figure_178 : decode cX9_figure 178 = .ok (.iload_n 1, 1) := by decide +kernel
theorem dX9_figure_179 : decode cX9_figure 179 = .ok (.imul, 1) := by decide +kernel
theorem dX9_figure_180 : decode cX9_figure 180 = .ok (.iload 13, 2) := by decide +kernel
theorem dX9_figure_182 : decode cX9_figure 182 = .ok (.iadd, 1) := by decide +kernel
theorem dX9_figure_183 : decode cX9_figure 183 = .ok (.laload, 1) := by decide +kernel
theorem dX9_figure_184 : decode cX9_figure 184 = .ok (.invokevirtual 280, 3) := by decide +kernel
theorem dX9_figure_187 : decode cX9_figure 187 = .ok (.aload_n 0, 1) := by decide +kernel
theorem dX9_figure_188 : decode cX9_figure 188 = .ok (.invokevirtual 312, 3) := by decide +kernel
theorem dX9_figure_191 : decode cX9_figure 191 = .ok (.ifCond .eq 41, 3) := by decide +kernel
theorem dX9_figure_194 : decode cX9_figure 194 = .ok (.iload 13, 2) := by decide +kernel
theorem dX9_figure_196 : decode cX9_figure 196 = .ok (.istore 12, 2) := by decide +kernel
theorem dX9_figure_198 : decode cX9_figure 198 = .ok (.aload_n 0, 1) := by decide +kernel
theorem dX9_figure_199 : decode cX9_figure 199 = .ok (.getfield 259, 3) := by decide +kernel
theorem dX9_figure_202 : decode cX9_figure 202 = .ok (.lstore 4, 2) := by decide +kernel
theorem dX9_figure_204 : decode cX9_figure 204 = .ok (.aload_n 0, 1) := by decide +kernel
theorem dX9_figure_205 : decode cX9_figure 205 = .ok (.getfield 262, 3) := by decide +kernel
theorem dX9_figure_208 : decode cX9_figure 208 = .ok (.lstore 6, 2) := by decide +kernel
theorem dX9_figure_210 : decode cX9_figure 210 = .ok (.aload_n 0, 1) := by decide +kernel
theorem dX9_figure_211 : decode cX9_figure 211 = .ok (.getfield 259, 3) := by decide +kernel
theorem dX9_figure_214 : decode cX9_figure 214 = .ok (.aload_n 0, 1) := by decide +kernel
theorem dX9_figure_215 : decode cX9_figure 215 = .ok (.getfield 265, 3) := by decide +kernel
theorem dX9_figure_218 : decode cX9_figure 218 = .ok (.ladd, 1) := by decide +kernel
theorem dX9_figure_219 : decode cX9_figure 219 = .ok (.lstore 8, 2) := by decide +kernel
theorem dX9_figure_221 : decode cX9_figure 221 = .ok (.aload_n 0, 1) := by decide +kernel
theorem dX9_figure_222 : decode cX9_figure 222 = .ok (.getfield 262, 3) := by decide +kernel
theorem dX9_figure_225 : decode cX9_figure 225 = .ok (.aload_n 0, 1) := by decide +kernel
theorem dX9_figure_226 : decode cX9_figure 226 = .ok (.getfield 268, 3) := by decide +kernel
theorem dX9_figure_229 : decode cX9_figure 229 = .ok (.ladd, 1) := by decide +kernel
theorem dX9_figure_230 : decode cX9_figure 230 = .ok (.lstore 10, 2) := by decide +kernel
theorem dX9_figure_232 : decode cX9_figure 232 = .ok (.iinc 13 1, 3) := by decide +kernel
theorem dX9_figure_235 : decode cX9_figure 235 = .ok (.goto (-84), 3) := by decide +kernel
theorem dX9_figure_238 : decode cX9_figure 238 = .ok (.iload 12, 2) := by decide +kernel
theorem dX9_figure_240 : decode cX9_figure 240 = .ok (.ifCond .ge 7, 3) := by decide +kernel
theorem dX9_figure_243 : decode cX9_figure 243 = .ok (.ldc2_w 255, 3) := by decide +kernel
theorem dX9_figure_246 : decode cX9_figure 246 = .ok (.lreturn, 1) := by decide +kernel
theorem dX9_figure_247 : decode cX9_figure 247 = .ok (.iload 12, 2) := by decide +kernel
theorem dX9_figure_249 : decode cX9_figure 249 = .ok (.iconst 2, 1) := by decide +kernel
theorem dX9_figure_250 : decode cX9_figure 250 = .ok (.irem, 1) := by decide +kernel
theorem dX9_figure_251 : decode cX9_figure 251 = .ok (.ifCond .ne 7, 3) := by decide +kernel
theorem dX9_figure_254 : decode cX9_figure 254 = .ok (.iconst 1, 1) := by decide +kernel
theorem dX9_figure_255 : decode cX9_figure 255 = .ok (.goto 4, 3) := by decide +kernel
theorem dX9_figure_258 : decode cX9_figure 258 = .ok (.iconst 0, 1) := by decide +kernel
theorem dX9_figure_259 : decode cX9_figure 259 = .ok (.istore 13, 2) := by decide +kernel
theorem dX9_figure_261 : decode cX9_figure 261 = .ok (.iload 13, 2) := by decide +kernel
theorem dX9_figure_263 : decode cX9_figure 263 = .ok (.ifCond .eq 8, 3) := by decide +kernel
theorem dX9_figure_266 : decode cX9_figure 266 = .ok (.lload 4, 2) := by decide +kernel
theorem dX9_figure_268 : decode cX9_figure 268 = .ok (.goto 5, 3) := by decide +kernel
theorem dX9_figure_271 : decode cX9_figure 271 = .ok (.lload 8, 2) := by decide +kernel
theorem dX9_figure_273 : decode cX9_figure 273 = .ok (.iload 13, 2) := by decide +kernel
theorem dX9_figure_275 : decode cX9_figure 275 = .ok (.ifCond .eq 8, 3) := by decide +kernel
theorem dX9_figure_278 : decode cX9_figure 278 = .ok (.lload 6, 2) := by decide +kernel
theorem dX9_figure_280 : decode cX9_figure 280 = .ok (.goto 5, 3) := by decide +kernel
theorem dX9_figure_283 : decode cX9_figure 283 = .ok (.lload 10, 2) := by decide +kernel
theorem dX9_figure_285 : decode cX9_figure 285 = .ok (.iload 13, 2) := by decide +kernel
theorem dX9_figure_287 : decode cX9_figure 287 = .ok (.ifCond .eq 8, 3) := by decide +kernel
theorem dX9_figure_290 : decode cX9_figure 290 = .ok (.lload 8, 2) := by decide +kernel
theorem dX9_figure_292 : decode cX9_figure 292 = .ok (.goto 5, 3) := by decide +kernel
theorem dX9_figure_295 : decode cX9_figure 295 = .ok (.lload 4, 2) := by decide +kernel
theorem dX9_figure_297 : decode cX9_figure 297 = .ok (.iload 13, 2) := by decide +kernel
theorem dX9_figure_299 : decode cX9_figure 299 = .ok (.ifCond .eq 8, 3) := by decide +kernel
theorem dX9_figure_302 : decode cX9_figure 302 = .ok (.lload 10, 2) := by decide +kernel
theorem dX9_figure_304 : decode cX9_figure 304 = .ok (.goto 5, 3) := by decide +kernel
theorem dX9_figure_307 : decode cX9_figure 307 = .ok (.lload 6, 2) := by decide +kernel
theorem dX9_figure_309 : decode cX9_figure 309 = .ok (.iload_n 2, 1) := by decide +kernel
theorem dX9_figure_310 : decode cX9_figure 310 = .ok (.iload_n 3, 1) := by decide +kernel
theorem dX9_figure_311 : decode cX9_figure 311 = .ok (.invokestatic 315, 3) := by decide +kernel
theorem dX9_figure_314 : decode cX9_figure 314 = .ok (.lreturn, 1) := by decide +kernel
abbrev eX9_figure (G : GG) (R : Int64 × AH) : EE := eM G 14 (some .long) false 3 84 0 0 (some (.long R.1)) R.2
theorem wX9_figure_297 (G : GG) (hG : GT G) (R : Int64 × AH) (l2 : Int32) (l3 : Int32) (l6 : Int64) (l10 : Int64) (l13 : Int32) (s0 : Int64) (s1 : Int64) (s2 : Int64) (h : AH) (X : fX9_figure_297 l2 l3 l6 l10 l13 s0 s1 s2 h = some R) : AW (eX9_figure G R) RX9 cX9_figure 297 [none, none, some (.int l2), some (.int l3), none, none, some (.long l6), none, none, none, some (.long l10), none, none, some (.int l13)] [.long s2, .long s1, .long s0] h 0 0 := by
  unfold fX9_figure_297 at X
  refine r_ild13 299 dX9_figure_297 rfl ?_
  refine r_if_eq 307 302 dX9_figure_299 (by decide) rfl X (fun _ X => ?_) (fun _ X => ?_)
  · refine r_lld6 309 dX9_figure_307 rfl ?_
    refine r_ild2 310 dX9_figure_309 rfl ?_
    refine r_ild3 311 dX9_figure_310 rfl ?_
    obtain ⟨x102, h101, hc, X⟩ := bnd_ok X
    refine r_callS6 314 dX9_figure_311 rfl lmX9_315 (mtX9_same G hG hc) rfl ⟨(Nat.zero_le _), (Nat.zero_le _)⟩ ?_
    exact r_retL dX9_figure_314 (Nat.zero_le _) (Nat.zero_le _) X
  · refine r_lld10 304 dX9_figure_302 rfl ?_
    refine r_goto 309 dX9_figure_304 (by decide) ?_
    refine r_ild2 310 dX9_figure_309 rfl ?_
    refine r_ild3 311 dX9_figure_310 rfl ?_
    obtain ⟨x104, h103, hc, X⟩ := bnd_ok X
    refine r_callS6 314 dX9_figure_311 rfl lmX9_315 (mtX9_same G hG hc) rfl ⟨(Nat.zero_le _), (Nat.zero_le _)⟩ ?_
    exact r_retL dX9_figure_314 (Nat.zero_le _) (Nat.zero_le _) X
theorem wX9_figure_273 (G : GG) (hG : GT G) (R : Int64 × AH) (l2 : Int32) (l3 : Int32) (l4 : Int64) (l6 : Int64) (l8 : Int64) (l10 : Int64) (l13 : Int32) (s0 : Int64) (h : AH) (X : fX9_figure_273 l2 l3 l4 l6 l8 l10 l13 s0 h = some R) : AW (eX9_figure G R) RX9 cX9_figure 273 [none, none, some (.int l2), some (.int l3), some (.long l4), none, some (.long l6), none, some (.long l8), none, some (.long l10), none, none, some (.int l13)] [.long s0] h 0 0 := by
  unfold fX9_figure_273 at X
  refine r_ild13 275 dX9_figure_273 rfl ?_
  refine r_if_eq 283 278 dX9_figure_275 (by decide) rfl X (fun _ X => ?_) (fun _ X => ?_)
  · refine r_lld10 285 dX9_figure_283 rfl ?_
    refine r_ild13 287 dX9_figure_285 rfl ?_
    refine r_if_eq 295 290 dX9_figure_287 (by decide) rfl X (fun _ X => ?_) (fun _ X => ?_)
    · refine r_lld4 297 dX9_figure_295 rfl ?_
      exact r_cut (wX9_figure_297 G hG R _ _ _ _ _ _ _ _ _ X) ⟨rfl, ⟨rfl, ⟨rfl, ⟨rfl, ⟨rfl, trivial⟩⟩⟩⟩⟩
    · refine r_lld8 292 dX9_figure_290 rfl ?_
      refine r_goto 297 dX9_figure_292 (by decide) ?_
      exact r_cut (wX9_figure_297 G hG R _ _ _ _ _ _ _ _ _ X) ⟨rfl, ⟨rfl, ⟨rfl, ⟨rfl, ⟨rfl, trivial⟩⟩⟩⟩⟩
  · refine r_lld6 280 dX9_figure_278 rfl ?_
    refine r_goto 285 dX9_figure_280 (by decide) ?_
    refine r_ild13 287 dX9_figure_285 rfl ?_
    refine r_if_eq 295 290 dX9_figure_287 (by decide) rfl X (fun _ X => ?_) (fun _ X => ?_)
    · refine r_lld4 297 dX9_figure_295 rfl ?_
      exact r_cut (wX9_figure_297 G hG R _ _ _ _ _ _ _ _ _ X) ⟨rfl, ⟨rfl, ⟨rfl, ⟨rfl, ⟨rfl, trivial⟩⟩⟩⟩⟩
    · refine r_lld8 292 dX9_figure_290 rfl ?_
      refine r_goto 297 dX9_figure_292 (by decide) ?_
      exact r_cut (wX9_figure_297 G hG R _ _ _ _ _ _ _ _ _ X) ⟨rfl, ⟨rfl, ⟨rfl, ⟨rfl, ⟨rfl, trivial⟩⟩⟩⟩⟩
theorem wX9_figure_238 (G : GG) (hG : GT G) (R : Int64 × AH) (l2 : Int32) (l3 : Int32) (l4 : Int64) (l6 : Int64) (l8 : Int64) (l10 : Int64) (l12 : Int32) (h : AH) (X : fX9_figure_238 l2 l3 l4 l6 l8 l10 l12 h = some R) : AW (eX9_figure G R) RX9 cX9_figure 238 [none, none, some (.int l2), some (.int l3), some (.long l4), none, some (.long l6), none, some (.long l8), none, some (.long l10), none, some (.int l12), none] [] h 0 0 := by
  unfold fX9_figure_238 at X
  refine r_ild12 240 dX9_figure_238 rfl ?_
  refine r_if_ge 247 243 dX9_figure_240 (by decide) rfl X (fun _ X => ?_) (fun _ X => ?_)
  · refine r_ild12 249 dX9_figure_247 rfl ?_
    refine r_iconst 250 _ dX9_figure_249 rfl ki_2 ?_
    refine r_irem 251 dX9_figure_250 rfl X (fun X => ?_)
    refine r_if_ne 258 254 dX9_figure_251 (by decide) rfl X (fun _ X => ?_) (fun _ X => ?_)
    · refine r_iconst 259 _ dX9_figure_258 rfl ki_0 ?_
      refine r_ist13 261 dX9_figure_259 rfl rfl ?_
      refine r_ild13 263 dX9_figure_261 rfl ?_
      refine r_if_eq 271 266 dX9_figure_263 (by decide) rfl X (fun _ X => ?_) (fun _ X => ?_)
      · refine r_lld8 273 dX9_figure_271 rfl ?_
        exact r_cut (wX9_figure_273 G hG R _ _ _ _ _ _ _ _ _ X) ⟨rfl, ⟨rfl, ⟨rfl, ⟨rfl, ⟨rfl, ⟨rfl, ⟨rfl, trivial⟩⟩⟩⟩⟩⟩⟩
      · refine r_lld4 268 dX9_figure_266 rfl ?_
        refine r_goto 273 dX9_figure_268 (by decide) ?_
        exact r_cut (wX9_figure_273 G hG R _ _ _ _ _ _ _ _ _ X) ⟨rfl, ⟨rfl, ⟨rfl, ⟨rfl, ⟨rfl, ⟨rfl, ⟨rfl, trivial⟩⟩⟩⟩⟩⟩⟩
    · refine r_iconst 255 _ dX9_figure_254 rfl ki_1 ?_
      refine r_goto 259 dX9_figure_255 (by decide) ?_
      refine r_ist13 261 dX9_figure_259 rfl rfl ?_
      refine r_ild13 263 dX9_figure_261 rfl ?_
      refine r_if_eq 271 266 dX9_figure_263 (by decide) rfl X (fun _ X => ?_) (fun _ X => ?_)
      · refine r_lld8 273 dX9_figure_271 rfl ?_
        exact r_cut (wX9_figure_273 G hG R _ _ _ _ _ _ _ _ _ X) ⟨rfl, ⟨rfl, ⟨rfl, ⟨rfl, ⟨rfl, ⟨rfl, ⟨rfl, trivial⟩⟩⟩⟩⟩⟩⟩
      · refine r_lld4 268 dX9_figure_266 rfl ?_
        refine r_goto 273 dX9_figure_268 (by decide) ?_
        exact r_cut (wX9_figure_273 G hG R _ _ _ _ _ _ _ _ _ X) ⟨rfl, ⟨rfl, ⟨rfl, ⟨rfl, ⟨rfl, ⟨rfl, ⟨rfl, trivial⟩⟩⟩⟩⟩⟩⟩
  · refine r_ldc2 246 dX9_figure_243 rfl lkX9_255 ?_
    exact r_retL dX9_figure_246 (Nat.zero_le _) (Nat.zero_le _) X
theorem wX9_figure_151 (G : GG) (hG : GT G) (R : Int64 × AH) {K151 : Nat → Int32 → Int32 → Int32 → Int64 → Int64 → Int64 → Int64 → Int32 → Int32 → AH → Fn Int64} (hK151 : ∀ (l0 : Nat) (l1 : Int32) (l2 : Int32) (l3 : Int32) (l4 : Int64) (l6 : Int64) (l8 : Int64) (l10 : Int64) (l12 : Int32) (l13 : Int32) (h : AH), K151 l0 l1 l2 l3 l4 l6 l8 l10 l12 l13 h = some R → AW (eX9_figure G R) RX9 cX9_figure 151 [some (.ref (gB G + l0)), some (.int l1), some (.int l2), some (.int l3), some (.long l4), none, some (.long l6), none, some (.long l8), none, some (.long l10), none, some (.int l12), some (.int l13)] [] h 0 0) (l0 : Nat) (l1 : Int32) (l2 : Int32) (l3 : Int32) (l4 : Int64) (l6 : Int64) (l8 : Int64) (l10 : Int64) (l12 : Int32) (l13 : Int32) (h : AH) (X : fX9_figure_151 K151 l0 l1 l2 l3 l4 l6 l8 l10 l12 l13 h = some R) : AW (eX9_figure G R) RX9 cX9_figure 151 [some (.ref (gB G + l0)), some (.int l1), some (.int l2), some (.int l3), some (.long l4), none, some (.long l6), none, some (.long l8), none, some (.long l10), none, some (.int l12), some (.int l13)] [] h 0 0 := by
  unfold fX9_figure_151 at X
  refine r_ild13 153 dX9_figure_151 rfl ?_
  refine r_ald0 154 dX9_figure_153 rfl ?_
  refine r_gR 157 dX9_figure_154 rfl lfX9_17 rfl X (fun b101 X => ?_)
  refine r_ild1 158 dX9_figure_157 rfl ?_
  refine r_aI 159 0 dX9_figure_158 rfl rfl X (fun x102 X => ?_)
  refine r_icmp_ge 238 162 dX9_figure_159 (by decide) rfl X (fun _ X => ?_) (fun _ X => ?_)
  · exact r_cut (wX9_figure_238 G hG R _ _ _ _ _ _ _ _ X) ⟨rfl, ⟨rfl, ⟨rfl, ⟨rfl, ⟨rfl, ⟨rfl, ⟨rfl, trivial⟩⟩⟩⟩⟩⟩⟩
  · refine r_ild12 164 dX9_figure_162 rfl ?_
    refine r_ild13 166 dX9_figure_164 rfl ?_
    refine r_iconst 167 _ dX9_figure_166 rfl ki_1 ?_
    refine r_isub 168 dX9_figure_167 rfl ?_
    refine r_icmp_ne 238 171 dX9_figure_168 (by decide) rfl X (fun _ X => ?_) (fun _ X => ?_)
    · exact r_cut (wX9_figure_238 G hG R _ _ _ _ _ _ _ _ X) ⟨rfl, ⟨rfl, ⟨rfl, ⟨rfl, ⟨rfl, ⟨rfl, ⟨rfl, trivial⟩⟩⟩⟩⟩⟩⟩
    · refine r_ald0 172 dX9_figure_171 rfl ?_
      refine r_ald0 173 dX9_figure_172 rfl ?_
      refine r_gR 176 dX9_figure_173 rfl lfX9_23 rfl X (fun b103 X => ?_)
      refine r_bipush 178 _ dX9_figure_176 rfl kb_60 ?_
      refine r_ild1 179 dX9_figure_178 rfl ?_
      refine r_imul 180 dX9_figure_179 rfl ?_
      refine r_ild13 182 dX9_figure_180 rfl ?_
      refine r_iadd 183 dX9_figure_182 rfl ?_
      refine r_aL 184 1 dX9_figure_183 rfl rfl X (fun x104 X => ?_)
      obtain ⟨hs, X⟩ := r_cv X
      obtain ⟨_, h105, hc, X⟩ := bnd_ok X
      refine r_callV1v 187 dX9_figure_184 rfl lmX9_280 hs (mtX9_goNear G hG hc) rfl ⟨(Nat.zero_le _), (Nat.zero_le _)⟩ ?_
      refine r_ald0 188 dX9_figure_187 rfl ?_
      obtain ⟨hs, X⟩ := r_cv X
      obtain ⟨x107, h106, hc, X⟩ := bnd_ok X
      refine r_callV0 191 dX9_figure_188 rfl lmX9_312 hs (mtX9_isNarrow G hG hc) rfl ⟨(Nat.zero_le _), (Nat.zero_le _)⟩ ?_
      refine r_if_eq 232 194 dX9_figure_191 (by decide) rfl X (fun _ X => ?_) (fun _ X => ?_)
      · refine r_iinc13w 235 dX9_figure_232 rfl rfl ki_1 X (fun x108 X => ?_)
        refine r_goto 151 dX9_figure_235 (by decide) ?_
        exact r_cut (hK151 _ _ _ _ _ _ _ _ _ _ _ X) ⟨rfl, ⟨rfl, ⟨rfl, ⟨rfl, ⟨rfl, ⟨rfl, ⟨rfl, ⟨rfl, ⟨rfl, ⟨rfl, trivial⟩⟩⟩⟩⟩⟩⟩⟩⟩⟩
      · refine r_ild13 196 dX9_figure_194 rfl ?_
        refine r_ist12 198 dX9_figure_196 rfl rfl ?_
        refine r_ald0 199 dX9_figure_198 rfl ?_
        refine r_gL 202 dX9_figure_199 rfl lfX9_259 rfl X (fun x109 X => ?_)
        refine r_lst4 204 dX9_figure_202 rfl rfl ?_
        refine r_ald0 205 dX9_figure_204 rfl ?_
        refine r_gL 208 dX9_figure_205 rfl lfX9_262 rfl X (fun x110 X => ?_)
        refine r_lst6 210 dX9_figure_208 rfl rfl ?_
        refine r_ald0 211 dX9_figure_210 rfl ?_
        refine r_gL 214 dX9_figure_211 rfl lfX9_259 rfl X (fun x111 X => ?_)
        refine r_ald0 215 dX9_figure_214 rfl ?_
        refine r_gL 218 dX9_figure_215 rfl lfX9_265 rfl X (fun x112 X => ?_)
        refine r_ladd 219 dX9_figure_218 rfl ?_
        refine r_lst8w 221 dX9_figure_219 rfl rfl X (fun x113 X => ?_)
        refine r_ald0 222 dX9_figure_221 rfl ?_
        refine r_gL 225 dX9_figure_222 rfl lfX9_262 rfl X (fun x114 X => ?_)
        refine r_ald0 226 dX9_figure_225 rfl ?_
        refine r_gL 229 dX9_figure_226 rfl lfX9_268 rfl X (fun x115 X => ?_)
        refine r_ladd 230 dX9_figure_229 rfl ?_
        refine r_lst10w 232 dX9_figure_230 rfl rfl X (fun x116 X => ?_)
        refine r_iinc13w 235 dX9_figure_232 rfl rfl ki_1 X (fun x117 X => ?_)
        refine r_goto 151 dX9_figure_235 (by decide) ?_
        exact r_cut (hK151 _ _ _ _ _ _ _ _ _ _ _ X) ⟨rfl, ⟨rfl, ⟨rfl, ⟨rfl, ⟨rfl, ⟨rfl, ⟨rfl, ⟨rfl, ⟨rfl, ⟨rfl, trivial⟩⟩⟩⟩⟩⟩⟩⟩⟩⟩
theorem wX9_figure_151L (G : GG) (hG : GT G) (R : Int64 × AH) : ∀ (m : Nat) (l0 : Nat) (l1 : Int32) (l2 : Int32) (l3 : Int32) (l4 : Int64) (l6 : Int64) (l8 : Int64) (l10 : Int64) (l12 : Int32) (l13 : Int32) (h : AH), fX9_figure_151L m l0 l1 l2 l3 l4 l6 l8 l10 l12 l13 h = some R → AW (eX9_figure G R) RX9 cX9_figure 151 [some (.ref (gB G + l0)), some (.int l1), some (.int l2), some (.int l3), some (.long l4), none, some (.long l6), none, some (.long l8), none, some (.long l10), none, some (.int l12), some (.int l13)] [] h 0 0 := by
  intro m
  induction m with
  | zero => intro l0 l1 l2 l3 l4 l6 l8 l10 l12 l13 h X; exact nomatch (show (none : Fn Int64) = some R from X)
  | succ m ih => intro l0 l1 l2 l3 l4 l6 l8 l10 l12 l13 h X; exact wX9_figure_151 G hG R ih l0 l1 l2 l3 l4 l6 l8 l10 l12 l13 h X
theorem wX9_figure_98 (G : GG) (hG : GT G) (R : Int64 × AH) (l0 : Nat) (l2 : Int32) (l3 : Int32) (h : AH) (X : fX9_figure_98 l0 l2 l3 h = some R) : AW (eX9_figure G R) RX9 cX9_figure 98 [some (.ref (gB G + l0)), none, some (.int l2), some (.int l3), none, none, none, none, none, none, none, none, none, none] [] h 0 0 := by
  unfold fX9_figure_98 at X
  refine r_ald0 99 dX9_figure_98 rfl ?_
  refine r_gI 102 dX9_figure_99 rfl lfX9_69 rfl X (fun x101 X => ?_)
  refine r_if_ne 120 105 dX9_figure_102 (by decide) rfl X (fun _ X => ?_) (fun _ X => ?_)
  · refine r_ldc2 123 dX9_figure_120 rfl lkX9_177 ?_
    refine r_goto 132 dX9_figure_123 (by decide) ?_
    exact r_retL dX9_figure_132 (Nat.zero_le _) (Nat.zero_le _) X
  · refine r_ldc2 108 dX9_figure_105 rfl lkX9_305 ?_
    refine r_ald0 109 dX9_figure_108 rfl ?_
    refine r_gL 112 dX9_figure_109 rfl lfX9_262 rfl X (fun x102 X => ?_)
    refine r_lmul 113 dX9_figure_112 rfl ?_
    refine r_ldc2 116 dX9_figure_113 rfl lkX9_67 ?_
    refine r_lif_le 126 120 dX9_figure_116 dX9_figure_117 (by decide) rfl X (fun _ X => ?_) (fun _ X => ?_)
    · refine r_ald0 127 dX9_figure_126 rfl ?_
      refine r_ild2 128 dX9_figure_127 rfl ?_
      refine r_ild3 129 dX9_figure_128 rfl ?_
      obtain ⟨hs, X⟩ := r_cv X
      obtain ⟨x104, h103, hc, X⟩ := bnd_ok X
      refine r_callV2 132 dX9_figure_129 rfl lmX9_309 hs (mtX9_figureOf G hG hc) rfl ⟨(Nat.zero_le _), (Nat.zero_le _)⟩ ?_
      exact r_retL dX9_figure_132 (Nat.zero_le _) (Nat.zero_le _) X
    · refine r_ldc2 123 dX9_figure_120 rfl lkX9_177 ?_
      refine r_goto 132 dX9_figure_123 (by decide) ?_
      exact r_retL dX9_figure_132 (Nat.zero_le _) (Nat.zero_le _) X
theorem wX9_figure_58 (G : GG) (hG : GT G) (R : Int64 × AH) {K58 : Nat → Int32 → Int32 → Int32 → Int32 → AH → Fn Int64} (hK58 : ∀ (l0 : Nat) (l1 : Int32) (l2 : Int32) (l3 : Int32) (l4 : Int32) (h : AH), K58 l0 l1 l2 l3 l4 h = some R → AW (eX9_figure G R) RX9 cX9_figure 58 [some (.ref (gB G + l0)), some (.int l1), some (.int l2), some (.int l3), some (.int l4), none, none, none, none, none, none, none, none, none] [] h 0 0) (l0 : Nat) (l1 : Int32) (l2 : Int32) (l3 : Int32) (l4 : Int32) (h : AH) (X : fX9_figure_58 K58 l0 l1 l2 l3 l4 h = some R) : AW (eX9_figure G R) RX9 cX9_figure 58 [some (.ref (gB G + l0)), some (.int l1), some (.int l2), some (.int l3), some (.int l4), none, none, none, none, none, none, none, none, none] [] h 0 0 := by
  unfold fX9_figure_58 at X
  refine r_ild4 60 dX9_figure_58 rfl ?_
  refine r_ald0 61 dX9_figure_60 rfl ?_
  refine r_gR 64 dX9_figure_61 rfl lfX9_17 rfl X (fun b101 X => ?_)
  refine r_ild1 65 dX9_figure_64 rfl ?_
  refine r_aI 66 0 dX9_figure_65 rfl rfl X (fun x102 X => ?_)
  refine r_icmp_ge 98 69 dX9_figure_66 (by decide) rfl X (fun _ X => ?_) (fun _ X => ?_)
  · exact r_cut (wX9_figure_98 G hG R _ _ _ _ X) ⟨rfl, ⟨rfl, ⟨rfl, trivial⟩⟩⟩
  · refine r_ald0 70 dX9_figure_69 rfl ?_
    refine r_gI 73 dX9_figure_70 rfl lfX9_69 rfl X (fun x103 X => ?_)
    refine r_if_ne 98 76 dX9_figure_73 (by decide) rfl X (fun _ X => ?_) (fun _ X => ?_)
    · exact r_cut (wX9_figure_98 G hG R _ _ _ _ X) ⟨rfl, ⟨rfl, ⟨rfl, trivial⟩⟩⟩
    · refine r_ald0 77 dX9_figure_76 rfl ?_
      refine r_ald0 78 dX9_figure_77 rfl ?_
      refine r_gR 81 dX9_figure_78 rfl lfX9_23 rfl X (fun b104 X => ?_)
      refine r_bipush 83 _ dX9_figure_81 rfl kb_60 ?_
      refine r_ild1 84 dX9_figure_83 rfl ?_
      refine r_imul 85 dX9_figure_84 rfl ?_
      refine r_ild4 87 dX9_figure_85 rfl ?_
      refine r_iadd 88 dX9_figure_87 rfl ?_
      refine r_aL 89 1 dX9_figure_88 rfl rfl X (fun x105 X => ?_)
      obtain ⟨hs, X⟩ := r_cv X
      obtain ⟨_, h106, hc, X⟩ := bnd_ok X
      refine r_callV1v 92 dX9_figure_89 rfl lmX9_280 hs (mtX9_goNear G hG hc) rfl ⟨(Nat.zero_le _), (Nat.zero_le _)⟩ ?_
      refine r_iinc4w 95 dX9_figure_92 rfl rfl ki_1 X (fun x107 X => ?_)
      refine r_goto 58 dX9_figure_95 (by decide) ?_
      exact r_cut (hK58 _ _ _ _ _ _ X) ⟨rfl, ⟨rfl, ⟨rfl, ⟨rfl, ⟨rfl, trivial⟩⟩⟩⟩⟩
theorem wX9_figure_58L (G : GG) (hG : GT G) (R : Int64 × AH) : ∀ (m : Nat) (l0 : Nat) (l1 : Int32) (l2 : Int32) (l3 : Int32) (l4 : Int32) (h : AH), fX9_figure_58L m l0 l1 l2 l3 l4 h = some R → AW (eX9_figure G R) RX9 cX9_figure 58 [some (.ref (gB G + l0)), some (.int l1), some (.int l2), some (.int l3), some (.int l4), none, none, none, none, none, none, none, none, none] [] h 0 0 := by
  intro m
  induction m with
  | zero => intro l0 l1 l2 l3 l4 h X; exact nomatch (show (none : Fn Int64) = some R from X)
  | succ m ih => intro l0 l1 l2 l3 l4 h X; exact wX9_figure_58 G hG R ih l0 l1 l2 l3 l4 h X
theorem wX9_figure (G : GG) (hG : GT G) (R : Int64 × AH) (a0 : Nat) (x0 : Int32) (x1 : Int32) (x2 : Int32) (h : AH) (X : fX9_figure a0 x0 x1 x2 h = some R) : AW (eX9_figure G R) RX9 cX9_figure 0 [some (.ref (gB G + a0)), some (.int x0), some (.int x1), some (.int x2), none, none, none, none, none, none, none, none, none, none] [] h 0 0 := by
  unfold fX9_figure at X
  refine r_ald0 1 dX9_figure_0 rfl ?_
  refine r_ild1 2 dX9_figure_1 rfl ?_
  obtain ⟨hs, X⟩ := r_cv X
  obtain ⟨x102, h101, hc, X⟩ := bnd_ok X
  refine r_callV1 5 dX9_figure_2 rfl lmX9_179 hs (mtX9_noStream G hG hc) rfl ⟨(Nat.zero_le _), (Nat.zero_le _)⟩ ?_
  refine r_if_eq 12 8 dX9_figure_5 (by decide) rfl X (fun _ X => ?_) (fun _ X => ?_)
  · refine r_ild2 13 dX9_figure_12 rfl ?_
    refine r_i2l 14 dX9_figure_13 rfl ?_
    refine r_ldc2 17 dX9_figure_14 rfl lkX9_102 ?_
    refine r_ldc2 20 dX9_figure_17 rfl lkX9_305 ?_
    obtain ⟨x104, h103, hc, X⟩ := bnd_ok X
    refine r_callS3 23 dX9_figure_20 rfl lmX9_75 (mtX9_in G hG hc) rfl ⟨(Nat.zero_le _), (Nat.zero_le _)⟩ ?_
    refine r_if_eq 38 26 dX9_figure_23 (by decide) rfl X (fun _ X => ?_) (fun _ X => ?_)
    · refine r_ldc2 41 dX9_figure_38 rfl lkX9_109 ?_
      exact r_retL dX9_figure_41 (Nat.zero_le _) (Nat.zero_le _) X
    · refine r_ild3 27 dX9_figure_26 rfl ?_
      refine r_i2l 28 dX9_figure_27 rfl ?_
      refine r_lconst 29 _ dX9_figure_28 rfl kl_0 ?_
      refine r_ldc2 32 dX9_figure_29 rfl lkX9_307 ?_
      obtain ⟨x106, h105, hc, X⟩ := bnd_ok X
      refine r_callS3 35 dX9_figure_32 rfl lmX9_75 (mtX9_in G hG hc) rfl ⟨(Nat.zero_le _), (Nat.zero_le _)⟩ ?_
      refine r_if_ne 42 38 dX9_figure_35 (by decide) rfl X (fun _ X => ?_) (fun _ X => ?_)
      · refine r_ald0 43 dX9_figure_42 rfl ?_
        obtain ⟨hs, X⟩ := r_cv X
        obtain ⟨_, h107, hc, X⟩ := bnd_ok X
        refine r_callV0v 46 dX9_figure_43 rfl lmX9_277 hs (mtX9_beginNear G hG hc) rfl ⟨(Nat.zero_le _), (Nat.zero_le _)⟩ ?_
        refine r_ald0 47 dX9_figure_46 rfl ?_
        refine r_gR 50 dX9_figure_47 rfl lfX9_20 rfl X (fun b108 X => ?_)
        refine r_ild1 51 dX9_figure_50 rfl ?_
        refine r_aZ 52 2 dX9_figure_51 rfl rfl X (fun x109 X => ?_)
        refine r_if_eq 133 55 dX9_figure_52 (by decide) rfl X (fun _ X => ?_) (fun _ X => ?_)
        · refine r_lconst 134 _ dX9_figure_133 rfl kl_0 ?_
          refine r_lst4 136 dX9_figure_134 rfl rfl ?_
          refine r_lconst 137 _ dX9_figure_136 rfl kl_0 ?_
          refine r_lst6 139 dX9_figure_137 rfl rfl ?_
          refine r_lconst 140 _ dX9_figure_139 rfl kl_0 ?_
          refine r_lst8 142 dX9_figure_140 rfl rfl ?_
          refine r_lconst 143 _ dX9_figure_142 rfl kl_0 ?_
          refine r_lst10 145 dX9_figure_143 rfl rfl ?_
          refine r_iconst 146 _ dX9_figure_145 rfl ki_m1 ?_
          refine r_ist12 148 dX9_figure_146 rfl rfl ?_
          refine r_iconst 149 _ dX9_figure_148 rfl ki_0 ?_
          refine r_ist13 151 dX9_figure_149 rfl rfl ?_
          exact r_cut (wX9_figure_151L G hG R 1000 _ _ _ _ _ _ _ _ _ _ _ X) ⟨rfl, ⟨rfl, ⟨rfl, ⟨rfl, ⟨rfl, ⟨rfl, ⟨rfl, ⟨rfl, ⟨rfl, ⟨rfl, trivial⟩⟩⟩⟩⟩⟩⟩⟩⟩⟩
        · refine r_iconst 56 _ dX9_figure_55 rfl ki_0 ?_
          refine r_ist4 58 dX9_figure_56 rfl rfl ?_
          exact r_cut (wX9_figure_58L G hG R 1000 _ _ _ _ _ _ X) ⟨rfl, ⟨rfl, ⟨rfl, ⟨rfl, ⟨rfl, trivial⟩⟩⟩⟩⟩
      · refine r_ldc2 41 dX9_figure_38 rfl lkX9_109 ?_
        exact r_retL dX9_figure_41 (Nat.zero_le _) (Nat.zero_le _) X
  · refine r_ldc2 11 dX9_figure_8 rfl lkX9_183 ?_
    exact r_retL dX9_figure_11 (Nat.zero_le _) (Nat.zero_le _) X
theorem mtX9_figure (G : GG) (hG : GT G) {a0 : Nat} {x0 : Int32} {x1 : Int32} {x2 : Int32} {h h' : AH} {v : Int64} (hc : fX9_figure a0 x0 x1 x2 h = some (v, h')) : AMet G yX9_figure cX9_figure 14 (some .long) 3 84 0 0 [.ref (gB G + a0), .int x0, .int x1, .int x2] h (some (.long v)) h' :=
  amet_of false [some (.ref (gB G + a0)), some (.int x0), some (.int x1), some (.int x2), none, none, none, none, none, none, none, none, none, none] (by decide +kernel) (by decide) (Nat.le_of_ble_eq_true rfl) rfl (Nat.le_of_ble_eq_true rfl) (wX9_figure G hG (v, h') _ _ _ _ h hc)
abbrev eX9_init (G : GG) (R : Unit × AH) : EE := eM G 1 none true 1 24 17 9888 none R.2
theorem wX9_init (G : GG) (hG : GT G) (R : Unit × AH) (a0 : Nat) (h : AH) (X : fX9_init a0 h = some R) : AW (eX9_init G R) RX9 cX9_init 0 [some (.ref (gB G + a0))] [] h 0 0 := by
  unfold fX9_init at X
  refine r_ald0 1 dX9_init_0 rfl ?_
  refine r_objInit 4 dX9_init_1 rfl loX9_1 lo_i lo_c (Nat.le_of_ble_eq_true rfl) (Nat.le_of_ble_eq_true rfl) ?_
  refine r_ald0 5 dX9_init_4 rfl ?_
  refine r_bipush 7 _ dX9_init_5 rfl kb_40 ?_
  refine r_newZ 9 40 dX9_init_7 rfl la_boolean X (by decide) (by decide) (by decide) (by show _ ≤ 17; omega) (by show _ ≤ 9888; omega) (fun b101 h102 X => ?_)
  refine r_fR 12 dX9_init_9 rfl lqX9_7 rfl rfl X (fun h103 X => ?_)
  refine r_ald0 13 dX9_init_12 rfl ?_
  refine r_bipush 15 _ dX9_init_13 rfl kb_40 ?_
  refine r_newI 17 40 dX9_init_15 rfl la_int X (by decide) (by decide) (by decide) (by show _ ≤ 17; omega) (by show _ ≤ 9888; omega) (fun b104 h105 X => ?_)
  refine r_fR 20 dX9_init_17 rfl lqX9_13 rfl rfl X (fun h106 X => ?_)
  refine r_ald0 21 dX9_init_20 rfl ?_
  refine r_bipush 23 _ dX9_init_21 rfl kb_40 ?_
  refine r_newI 25 40 dX9_init_23 rfl la_int X (by decide) (by decide) (by decide) (by show _ ≤ 17; omega) (by show _ ≤ 9888; omega) (fun b107 h108 X => ?_)
  refine r_fR 28 dX9_init_25 rfl lqX9_17 rfl rfl X (fun h109 X => ?_)
  refine r_ald0 29 dX9_init_28 rfl ?_
  refine r_bipush 31 _ dX9_init_29 rfl kb_40 ?_
  refine r_newZ 33 40 dX9_init_31 rfl la_boolean X (by decide) (by decide) (by decide) (by show _ ≤ 17; omega) (by show _ ≤ 9888; omega) (fun b110 h111 X => ?_)
  refine r_fR 36 dX9_init_33 rfl lqX9_20 rfl rfl X (fun h112 X => ?_)
  refine r_ald0 37 dX9_init_36 rfl ?_
  refine r_sipush 40 _ dX9_init_37 rfl ks_2400 ?_
  refine r_newL 42 2400 dX9_init_40 rfl la_long X (by decide) (by decide) (by decide) (by show _ ≤ 17; omega) (by show _ ≤ 9888; omega) (fun b113 h114 X => ?_)
  refine r_fR 45 dX9_init_42 rfl lqX9_23 rfl rfl X (fun h115 X => ?_)
  refine r_ald0 46 dX9_init_45 rfl ?_
  refine r_bipush 48 _ dX9_init_46 rfl kb_40 ?_
  refine r_newI 50 40 dX9_init_48 rfl la_int X (by decide) (by decide) (by decide) (by show _ ≤ 17; omega) (by show _ ≤ 9888; omega) (fun b116 h117 X => ?_)
  refine r_fR 53 dX9_init_50 rfl lqX9_27 rfl rfl X (fun h118 X => ?_)
  refine r_ald0 54 dX9_init_53 rfl ?_
  refine r_sipush 57 _ dX9_init_54 rfl ks_160 ?_
  refine r_newL 59 160 dX9_init_57 rfl la_long X (by decide) (by decide) (by decide) (by show _ ≤ 17; omega) (by show _ ≤ 9888; omega) (fun b119 h120 X => ?_)
  refine r_fR 62 dX9_init_59 rfl lqX9_30 rfl rfl X (fun h121 X => ?_)
  refine r_ald0 63 dX9_init_62 rfl ?_
  refine r_sipush 66 _ dX9_init_63 rfl ks_2440 ?_
  refine r_newL 68 2440 dX9_init_66 rfl la_long X (by decide) (by decide) (by decide) (by show _ ≤ 17; omega) (by show _ ≤ 9888; omega) (fun b122 h123 X => ?_)
  refine r_fR 71 dX9_init_68 rfl lqX9_33 rfl rfl X (fun h124 X => ?_)
  refine r_ald0 72 dX9_init_71 rfl ?_
  refine r_sipush 75 _ dX9_init_72 rfl ks_2440 ?_
  refine r_newL 77 2440 dX9_init_75 rfl la_long X (by decide) (by decide) (by decide) (by show _ ≤ 17; omega) (by show _ ≤ 9888; omega) (fun b125 h126 X => ?_)
  refine r_fR 80 dX9_init_77 rfl lqX9_36 rfl rfl X (fun h127 X => ?_)
  refine r_ald0 81 dX9_init_80 rfl ?_
  refine r_bipush 83 _ dX9_init_81 rfl kb_8 ?_
  refine r_newI 85 8 dX9_init_83 rfl la_int X (by decide) (by decide) (by decide) (by show _ ≤ 17; omega) (by show _ ≤ 9888; omega) (fun b128 h129 X => ?_)
  refine r_fR 88 dX9_init_85 rfl lqX9_39 rfl rfl X (fun h130 X => ?_)
  refine r_ald0 89 dX9_init_88 rfl ?_
  refine r_bipush 91 _ dX9_init_89 rfl kb_8 ?_
  refine r_newI 93 8 dX9_init_91 rfl la_int X (by decide) (by decide) (by decide) (by show _ ≤ 17; omega) (by show _ ≤ 9888; omega) (fun b131 h132 X => ?_)
  refine r_fR 96 dX9_init_93 rfl lqX9_42 rfl rfl X (fun h133 X => ?_)
  refine r_ald0 97 dX9_init_96 rfl ?_
  refine r_bipush 99 _ dX9_init_97 rfl kb_8 ?_
  refine r_newL 101 8 dX9_init_99 rfl la_long X (by decide) (by decide) (by decide) (by show _ ≤ 17; omega) (by show _ ≤ 9888; omega) (fun b134 h135 X => ?_)
  refine r_fR 104 dX9_init_101 rfl lqX9_45 rfl rfl X (fun h136 X => ?_)
  refine r_ald0 105 dX9_init_104 rfl ?_
  refine r_bipush 107 _ dX9_init_105 rfl kb_8 ?_
  refine r_newL 109 8 dX9_init_107 rfl la_long X (by decide) (by decide) (by decide) (by show _ ≤ 17; omega) (by show _ ≤ 9888; omega) (fun b137 h138 X => ?_)
  refine r_fR 112 dX9_init_109 rfl lqX9_48 rfl rfl X (fun h139 X => ?_)
  refine r_ald0 113 dX9_init_112 rfl ?_
  refine r_bipush 115 _ dX9_init_113 rfl kb_8 ?_
  refine r_newL 117 8 dX9_init_115 rfl la_long X (by decide) (by decide) (by decide) (by show _ ≤ 17; omega) (by show _ ≤ 9888; omega) (fun b140 h141 X => ?_)
  refine r_fR 120 dX9_init_117 rfl lqX9_51 rfl rfl X (fun h142 X => ?_)
  refine r_ald0 121 dX9_init_120 rfl ?_
  refine r_sipush 124 _ dX9_init_121 rfl ks_2200 ?_
  refine r_newL 126 2200 dX9_init_124 rfl la_long X (by decide) (by decide) (by decide) (by show _ ≤ 17; omega) (by show _ ≤ 9888; omega) (fun b143 h144 X => ?_)
  refine r_fR 129 dX9_init_126 rfl lqX9_54 rfl rfl X (fun h145 X => ?_)
  refine r_ald0 130 dX9_init_129 rfl ?_
  refine r_iconst 131 _ dX9_init_130 rfl ki_4 ?_
  refine r_newL 133 4 dX9_init_131 rfl la_long X (by decide) (by decide) (by decide) (by show _ ≤ 17; omega) (by show _ ≤ 9888; omega) (fun b146 h147 X => ?_)
  refine r_fR 136 dX9_init_133 rfl lqX9_57 rfl rfl X (fun h148 X => ?_)
  refine r_ald0 137 dX9_init_136 rfl ?_
  refine r_iconst 138 _ dX9_init_137 rfl ki_4 ?_
  refine r_newL 140 4 dX9_init_138 rfl la_long X (by decide) (by decide) (by decide) (by show _ ≤ 17; omega) (by show _ ≤ 9888; omega) (fun b149 h150 X => ?_)
  refine r_fR 143 dX9_init_140 rfl lqX9_60 rfl rfl X (fun h151 X => ?_)
  exact r_retV dX9_init_143 (by show _ ≤ 17; omega) (by show _ ≤ 9888; omega) X
theorem mtX9_init (G : GG) (hG : GT G) {a0 : Nat} {h h' : AH} {v : Unit} (hc : fX9_init a0 h = some (v, h')) : AMet G yX9_init cX9_init 1 none 1 24 17 9888 [.ref (gB G + a0)] h none h' :=
  amet_of true [some (.ref (gB G + a0))] (by decide +kernel) (by decide) (Nat.le_of_ble_eq_true rfl) rfl (Nat.le_of_ble_eq_true rfl) (wX9_init G hG (v, h') _ h hc)
abbrev eX9_mixed (G : GG) (R : Int64 × AH) : EE := eM G 14 (some .long) false 2 47 0 0 (some (.long R.1)) R.2
theorem wX9_mixed (G : GG) (hG : GT G) (R : Int64 × AH) (a0 : Nat) (x0 : Int32) (x1 : Int32) (x2 : Int32) (h : AH) (X : fX9_mixed a0 x0 x1 x2 h = some R) : AW (eX9_mixed G R) RX9 cX9_mixed 0 [some (.ref (gB G + a0)), some (.int x0), some (.int x1), some (.int x2), none, none, none, none, none, none, none, none, none, none] [] h 0 0 := by
  unfold fX9_mixed at X
  refine r_ald0 1 dX9_mixed_0 rfl ?_
  refine r_gR 4 dX9_mixed_1 rfl lfX9_30 rfl X (fun b101 X => ?_)
  refine r_iconst 5 _ dX9_mixed_4 rfl ki_4 ?_
  refine r_ild2 6 dX9_mixed_5 rfl ?_
  refine r_imul 7 dX9_mixed_6 rfl ?_
  refine r_aL 8 1 dX9_mixed_7 rfl rfl X (fun x102 X => ?_)
  refine r_lst4 10 dX9_mixed_8 rfl rfl ?_
  refine r_ald0 11 dX9_mixed_10 rfl ?_
  refine r_gR 14 dX9_mixed_11 rfl lfX9_30 rfl X (fun b103 X => ?_)
  refine r_iconst 15 _ dX9_mixed_14 rfl ki_4 ?_
  refine r_ild2 16 dX9_mixed_15 rfl ?_
  refine r_imul 17 dX9_mixed_16 rfl ?_
  refine r_iconst 18 _ dX9_mixed_17 rfl ki_1 ?_
  refine r_iadd 19 dX9_mixed_18 rfl ?_
  refine r_aL 20 1 dX9_mixed_19 rfl rfl X (fun x104 X => ?_)
  refine r_lst6 22 dX9_mixed_20 rfl rfl ?_
  refine r_ald0 23 dX9_mixed_22 rfl ?_
  refine r_gR 26 dX9_mixed_23 rfl lfX9_30 rfl X (fun b105 X => ?_)
  refine r_iconst 27 _ dX9_mixed_26 rfl ki_4 ?_
  refine r_ild3 28 dX9_mixed_27 rfl ?_
  refine r_imul 29 dX9_mixed_28 rfl ?_
  refine r_aL 30 1 dX9_mixed_29 rfl rfl X (fun x106 X => ?_)
  refine r_lst8 32 dX9_mixed_30 rfl rfl ?_
  refine r_ald0 33 dX9_mixed_32 rfl ?_
  refine r_gR 36 dX9_mixed_33 rfl lfX9_30 rfl X (fun b107 X => ?_)
  refine r_iconst 37 _ dX9_mixed_36 rfl ki_4 ?_
  refine r_ild3 38 dX9_mixed_37 rfl ?_
  refine r_imul 39 dX9_mixed_38 rfl ?_
  refine r_iconst 40 _ dX9_mixed_39 rfl ki_1 ?_
  refine r_iadd 41 dX9_mixed_40 rfl ?_
  refine r_aL 42 1 dX9_mixed_41 rfl rfl X (fun x108 X => ?_)
  refine r_lst10 44 dX9_mixed_42 rfl rfl ?_
  refine r_ald0 45 dX9_mixed_44 rfl ?_
  refine r_iconst 46 _ dX9_mixed_45 rfl ki_0 ?_
  refine r_pZ 49 dX9_mixed_46 rfl lpX9_69 rfl X (fun h109 X => ?_)
  refine r_ald0 50 dX9_mixed_49 rfl ?_
  refine r_ald0 51 dX9_mixed_50 rfl ?_
  refine r_ald0 52 dX9_mixed_51 rfl ?_
  refine r_ald0 53 dX9_mixed_52 rfl ?_
  refine r_gR 56 dX9_mixed_53 rfl lfX9_45 rfl X (fun b110 X => ?_)
  refine r_ild1 57 dX9_mixed_56 rfl ?_
  refine r_aL 58 1 dX9_mixed_57 rfl rfl X (fun x111 X => ?_)
  refine r_lld4 60 dX9_mixed_58 rfl ?_
  obtain ⟨hs, X⟩ := r_cv X
  obtain ⟨x113, h112, hc, X⟩ := bnd_ok X
  refine r_callV2 63 dX9_mixed_60 rfl lmX9_151 hs (mtX9_mul G hG hc) rfl ⟨(Nat.zero_le _), (Nat.zero_le _)⟩ ?_
  refine r_lld8 65 dX9_mixed_63 rfl ?_
  obtain ⟨hs, X⟩ := r_cv X
  obtain ⟨x115, h114, hc, X⟩ := bnd_ok X
  refine r_callV2 68 dX9_mixed_65 rfl lmX9_151 hs (mtX9_mul G hG hc) rfl ⟨(Nat.zero_le _), (Nat.zero_le _)⟩ ?_
  refine r_ald0 69 dX9_mixed_68 rfl ?_
  refine r_ald0 70 dX9_mixed_69 rfl ?_
  refine r_ald0 71 dX9_mixed_70 rfl ?_
  refine r_gR 74 dX9_mixed_71 rfl lfX9_45 rfl X (fun b116 X => ?_)
  refine r_ild1 75 dX9_mixed_74 rfl ?_
  refine r_iconst 76 _ dX9_mixed_75 rfl ki_1 ?_
  refine r_iadd 77 dX9_mixed_76 rfl ?_
  refine r_aL 78 1 dX9_mixed_77 rfl rfl X (fun x117 X => ?_)
  refine r_lld4 80 dX9_mixed_78 rfl ?_
  obtain ⟨hs, X⟩ := r_cv X
  obtain ⟨x119, h118, hc, X⟩ := bnd_ok X
  refine r_callV2 83 dX9_mixed_80 rfl lmX9_151 hs (mtX9_mul G hG hc) rfl ⟨(Nat.zero_le _), (Nat.zero_le _)⟩ ?_
  refine r_lld10 85 dX9_mixed_83 rfl ?_
  obtain ⟨hs, X⟩ := r_cv X
  obtain ⟨x121, h120, hc, X⟩ := bnd_ok X
  refine r_callV2 88 dX9_mixed_85 rfl lmX9_151 hs (mtX9_mul G hG hc) rfl ⟨(Nat.zero_le _), (Nat.zero_le _)⟩ ?_
  obtain ⟨hs, X⟩ := r_cv X
  obtain ⟨x123, h122, hc, X⟩ := bnd_ok X
  refine r_callV2 91 dX9_mixed_88 rfl lmX9_154 hs (mtX9_add G hG hc) rfl ⟨(Nat.zero_le _), (Nat.zero_le _)⟩ ?_
  refine r_lst12 93 dX9_mixed_91 rfl rfl ?_
  refine r_ald0 94 dX9_mixed_93 rfl ?_
  refine r_lld12 96 dX9_mixed_94 rfl ?_
  refine r_ald0 97 dX9_mixed_96 rfl ?_
  refine r_ald0 98 dX9_mixed_97 rfl ?_
  refine r_ald0 99 dX9_mixed_98 rfl ?_
  refine r_gR 102 dX9_mixed_99 rfl lfX9_45 rfl X (fun b124 X => ?_)
  refine r_ild1 103 dX9_mixed_102 rfl ?_
  refine r_iconst 104 _ dX9_mixed_103 rfl ki_2 ?_
  refine r_iadd 105 dX9_mixed_104 rfl ?_
  refine r_aL 106 1 dX9_mixed_105 rfl rfl X (fun x125 X => ?_)
  refine r_lld8 108 dX9_mixed_106 rfl ?_
  obtain ⟨hs, X⟩ := r_cv X
  obtain ⟨x127, h126, hc, X⟩ := bnd_ok X
  refine r_callV2 111 dX9_mixed_108 rfl lmX9_151 hs (mtX9_mul G hG hc) rfl ⟨(Nat.zero_le _), (Nat.zero_le _)⟩ ?_
  refine r_lld6 113 dX9_mixed_111 rfl ?_
  obtain ⟨hs, X⟩ := r_cv X
  obtain ⟨x129, h128, hc, X⟩ := bnd_ok X
  refine r_callV2 116 dX9_mixed_113 rfl lmX9_151 hs (mtX9_mul G hG hc) rfl ⟨(Nat.zero_le _), (Nat.zero_le _)⟩ ?_
  obtain ⟨hs, X⟩ := r_cv X
  obtain ⟨x131, h130, hc, X⟩ := bnd_ok X
  refine r_callV2 119 dX9_mixed_116 rfl lmX9_154 hs (mtX9_add G hG hc) rfl ⟨(Nat.zero_le _), (Nat.zero_le _)⟩ ?_
  refine r_lst12 121 dX9_mixed_119 rfl rfl ?_
  refine r_ald0 122 dX9_mixed_121 rfl ?_
  refine r_lld12 124 dX9_mixed_122 rfl ?_
  refine r_ald0 125 dX9_mixed_124 rfl ?_
  refine r_ald0 126 dX9_mixed_125 rfl ?_
  refine r_ald0 127 dX9_mixed_126 rfl ?_
  refine r_gR 130 dX9_mixed_127 rfl lfX9_45 rfl X (fun b132 X => ?_)
  refine r_ild1 131 dX9_mixed_130 rfl ?_
  refine r_iconst 132 _ dX9_mixed_131 rfl ki_3 ?_
  refine r_iadd 133 dX9_mixed_132 rfl ?_
  refine r_aL 134 1 dX9_mixed_133 rfl rfl X (fun x133 X => ?_)
  refine r_lld6 136 dX9_mixed_134 rfl ?_
  obtain ⟨hs, X⟩ := r_cv X
  obtain ⟨x135, h134, hc, X⟩ := bnd_ok X
  refine r_callV2 139 dX9_mixed_136 rfl lmX9_151 hs (mtX9_mul G hG hc) rfl ⟨(Nat.zero_le _), (Nat.zero_le _)⟩ ?_
  refine r_lld10 141 dX9_mixed_139 rfl ?_
  obtain ⟨hs, X⟩ := r_cv X
  obtain ⟨x137, h136, hc, X⟩ := bnd_ok X
  refine r_callV2 144 dX9_mixed_141 rfl lmX9_151 hs (mtX9_mul G hG hc) rfl ⟨(Nat.zero_le _), (Nat.zero_le _)⟩ ?_
  obtain ⟨hs, X⟩ := r_cv X
  obtain ⟨x139, h138, hc, X⟩ := bnd_ok X
  refine r_callV2 147 dX9_mixed_144 rfl lmX9_154 hs (mtX9_add G hG hc) rfl ⟨(Nat.zero_le _), (Nat.zero_le _)⟩ ?_
  exact r_retL dX9_mixed_147 (Nat.zero_le _) (Nat.zero_le _) X
theorem mtX9_mixed (G : GG) (hG : GT G) {a0 : Nat} {x0 : Int32} {x1 : Int32} {x2 : Int32} {h h' : AH} {v : Int64} (hc : fX9_mixed a0 x0 x1 x2 h = some (v, h')) : AMet G yX9_mixed cX9_mixed 14 (some .long) 2 47 0 0 [.ref (gB G + a0), .int x0, .int x1, .int x2] h (some (.long v)) h' :=
  amet_of false [some (.ref (gB G + a0)), some (.int x0), some (.int x1), some (.int x2), none, none, none, none, none, none, none, none, none, none] (by decide +kernel) (by decide) (Nat.le_of_ble_eq_true rfl) rfl (Nat.le_of_ble_eq_true rfl) (wX9_mixed G hG (v, h') _ _ _ _ h hc)
abbrev eX9_mix (G : GG) (R : Int64 × AH) : EE := eM G 9 (some .long) false 5 127 0 0 (some (.long R.1)) R.2
theorem wX9_mix_183 (G : GG) (hG : GT G) (R : Int64 × AH) (l0 : Nat) (l1 : Int32) (l2 : Int32) (h : AH) (X : fX9_mix_183 l0 l1 l2 h = some R) : AW (eX9_mix G R) RX9 cX9_mix 183 [some (.ref (gB G + l0)), some (.int l1), some (.int l2), none, none, none, none, none, none] [] h 0 0 := by
  unfold fX9_mix_183 at X
  refine r_ald0 184 dX9_mix_183 rfl ?_
  refine r_ild1 185 dX9_mix_184 rfl ?_
  refine r_ild2 186 dX9_mix_185 rfl ?_
  obtain ⟨hs, X⟩ := r_cv X
  obtain ⟨x102, h101, hc, X⟩ := bnd_ok X
  refine r_callV2 189 dX9_mix_186 rfl lmX9_198 hs (mtX9_make G hG hc) rfl ⟨(Nat.zero_le _), (Nat.zero_le _)⟩ ?_
  exact r_retL dX9_mix_189 (Nat.zero_le _) (Nat.zero_le _) X
theorem wX9_mix_156 (G : GG) (hG : GT G) (R : Int64 × AH) {K156 : Nat → Int32 → Int32 → Int32 → AH → Fn Int64} (hK156 : ∀ (l0 : Nat) (l1 : Int32) (l2 : Int32) (l7 : Int32) (h : AH), K156 l0 l1 l2 l7 h = some R → AW (eX9_mix G R) RX9 cX9_mix 156 [some (.ref (gB G + l0)), some (.int l1), some (.int l2), none, none, none, none, some (.int l7), none] [] h 0 0) (l0 : Nat) (l1 : Int32) (l2 : Int32) (l7 : Int32) (h : AH) (X : fX9_mix_156 K156 l0 l1 l2 l7 h = some R) : AW (eX9_mix G R) RX9 cX9_mix 156 [some (.ref (gB G + l0)), some (.int l1), some (.int l2), none, none, none, none, some (.int l7), none] [] h 0 0 := by
  unfold fX9_mix_156 at X
  refine r_ild7 158 dX9_mix_156 rfl ?_
  refine r_bipush 160 _ dX9_mix_158 rfl kb_8 ?_
  refine r_icmp_ge 183 163 dX9_mix_160 (by decide) rfl X (fun _ X => ?_) (fun _ X => ?_)
  · exact r_cut (wX9_mix_183 G hG R _ _ _ _ X) ⟨rfl, ⟨rfl, ⟨rfl, trivial⟩⟩⟩
  · refine r_ald0 164 dX9_mix_163 rfl ?_
    refine r_gR 167 dX9_mix_164 rfl lfX9_48 rfl X (fun b101 X => ?_)
    refine r_ild7 169 dX9_mix_167 rfl ?_
    refine r_ald0 170 dX9_mix_169 rfl ?_
    refine r_gR 173 dX9_mix_170 rfl lfX9_45 rfl X (fun b102 X => ?_)
    refine r_ild7 175 dX9_mix_173 rfl ?_
    refine r_aL 176 1 dX9_mix_175 rfl rfl X (fun x103 X => ?_)
    refine r_zL 177 1 dX9_mix_176 rfl rfl X (fun h104 X => ?_)
    refine r_iinc7w 180 dX9_mix_177 rfl rfl ki_1 X (fun x105 X => ?_)
    refine r_goto 156 dX9_mix_180 (by decide) ?_
    exact r_cut (hK156 _ _ _ _ _ X) ⟨rfl, ⟨rfl, ⟨rfl, ⟨rfl, trivial⟩⟩⟩⟩
theorem wX9_mix_156L (G : GG) (hG : GT G) (R : Int64 × AH) : ∀ (m : Nat) (l0 : Nat) (l1 : Int32) (l2 : Int32) (l7 : Int32) (h : AH), fX9_mix_156L m l0 l1 l2 l7 h = some R → AW (eX9_mix G R) RX9 cX9_mix 156 [some (.ref (gB G + l0)), some (.int l1), some (.int l2), none, none, none, none, some (.int l7), none] [] h 0 0 := by
  intro m
  induction m with
  | zero => intro l0 l1 l2 l7 h X; exact nomatch (show (none : Fn Int64) = some R from X)
  | succ m ih => intro l0 l1 l2 l7 h X; exact wX9_mix_156 G hG R ih l0 l1 l2 l7 h X
theorem wX9_mix_99 (G : GG) (hG : GT G) (R : Int64 × AH) (l0 : Nat) (l1 : Int32) (l2 : Int32) (l3 : Int32) (l4 : Int64) (l6 : Int32) (h : AH) (X : fX9_mix_99 l0 l1 l2 l3 l4 l6 h = some R) : AW (eX9_mix G R) RX9 cX9_mix 99 [some (.ref (gB G + l0)), some (.int l1), some (.int l2), some (.int l3), some (.long l4), none, some (.int l6), none, none] [] h 0 0 := by
  unfold fX9_mix_99 at X
  refine r_ald0 100 dX9_mix_99 rfl ?_
  refine r_gI 103 dX9_mix_100 rfl lfX9_79 rfl X (fun x101 X => ?_)
  refine r_bipush 105 _ dX9_mix_103 rfl kb_40 ?_
  refine r_icmp_ne 112 108 dX9_mix_105 (by decide) rfl X (fun _ X => ?_) (fun _ X => ?_)
  · refine r_ild3 113 dX9_mix_112 rfl ?_
    refine r_if_eq 153 116 dX9_mix_113 (by decide) rfl X (fun _ X => ?_) (fun _ X => ?_)
    · refine r_iconst 154 _ dX9_mix_153 rfl ki_0 ?_
      refine r_ist7 156 dX9_mix_154 rfl rfl ?_
      exact r_cut (wX9_mix_156L G hG R 1000 _ _ _ _ _ X) ⟨rfl, ⟨rfl, ⟨rfl, ⟨rfl, trivial⟩⟩⟩⟩
    · refine r_ald0 117 dX9_mix_116 rfl ?_
      refine r_iconst 118 _ dX9_mix_117 rfl ki_0 ?_
      refine r_ild1 119 dX9_mix_118 rfl ?_
      refine r_ild2 120 dX9_mix_119 rfl ?_
      obtain ⟨hs, X⟩ := r_cv X
      obtain ⟨x103, h102, hc, X⟩ := bnd_ok X
      refine r_callV3 123 dX9_mix_120 rfl lmX9_204 hs (mtX9_mixed G hG hc) rfl ⟨(Nat.zero_le _), (Nat.zero_le _)⟩ ?_
      refine r_lst7 125 dX9_mix_123 rfl rfl ?_
      refine r_ild6 127 dX9_mix_125 rfl ?_
      refine r_if_ne 137 130 dX9_mix_127 (by decide) rfl X (fun _ X => ?_) (fun _ X => ?_)
      · refine r_ldc2 140 dX9_mix_137 rfl lkX9_177 ?_
        refine r_goto 152 dX9_mix_140 (by decide) ?_
        exact r_retL dX9_mix_152 (Nat.zero_le _) (Nat.zero_le _) X
      · refine r_ald0 131 dX9_mix_130 rfl ?_
        refine r_gI 134 dX9_mix_131 rfl lfX9_69 rfl X (fun x104 X => ?_)
        refine r_if_eq 143 137 dX9_mix_134 (by decide) rfl X (fun _ X => ?_) (fun _ X => ?_)
        · refine r_ald0 144 dX9_mix_143 rfl ?_
          refine r_lld7 146 dX9_mix_144 rfl ?_
          refine r_lld4 148 dX9_mix_146 rfl ?_
          obtain ⟨hs, X⟩ := r_cv X
          obtain ⟨x106, h105, hc, X⟩ := bnd_ok X
          refine r_callV2 151 dX9_mix_148 rfl lmX9_113 hs (mtX9_newRatio G hG hc) rfl ⟨(Nat.zero_le _), (Nat.zero_le _)⟩ ?_
          refine r_i2l 152 dX9_mix_151 rfl ?_
          exact r_retL dX9_mix_152 (Nat.zero_le _) (Nat.zero_le _) X
        · refine r_ldc2 140 dX9_mix_137 rfl lkX9_177 ?_
          refine r_goto 152 dX9_mix_140 (by decide) ?_
          exact r_retL dX9_mix_152 (Nat.zero_le _) (Nat.zero_le _) X
  · refine r_ldc2 111 dX9_mix_108 rfl lkX9_111 ?_
    exact r_retL dX9_mix_111 (Nat.zero_le _) (Nat.zero_le _) X
theorem wX9_mix_77 (G : GG) (hG : GT G) (R : Int64 × AH) (l0 : Nat) (l1 : Int32) (l2 : Int32) (l3 : Int32) (l4 : Int64) (s0 : Int32) (h : AH) (X : fX9_mix_77 l0 l1 l2 l3 l4 s0 h = some R) : AW (eX9_mix G R) RX9 cX9_mix 77 [some (.ref (gB G + l0)), some (.int l1), some (.int l2), some (.int l3), some (.long l4), none, none, none, none] [.int s0] h 0 0 := by
  unfold fX9_mix_77 at X
  refine r_ist6 79 dX9_mix_77 rfl rfl ?_
  refine r_ild3 80 dX9_mix_79 rfl ?_
  refine r_if_eq 99 83 dX9_mix_80 (by decide) rfl X (fun _ X => ?_) (fun _ X => ?_)
  · exact r_cut (wX9_mix_99 G hG R _ _ _ _ _ _ _ X) ⟨rfl, ⟨rfl, ⟨rfl, ⟨rfl, ⟨rfl, ⟨rfl, trivial⟩⟩⟩⟩⟩⟩
  · refine r_ild6 85 dX9_mix_83 rfl ?_
    refine r_if_ne 99 88 dX9_mix_85 (by decide) rfl X (fun _ X => ?_) (fun _ X => ?_)
    · exact r_cut (wX9_mix_99 G hG R _ _ _ _ _ _ _ X) ⟨rfl, ⟨rfl, ⟨rfl, ⟨rfl, ⟨rfl, ⟨rfl, trivial⟩⟩⟩⟩⟩⟩
    · refine r_lld4 90 dX9_mix_88 rfl ?_
      refine r_lconst 91 _ dX9_mix_90 rfl kl_0 ?_
      refine r_lif_ne 99 95 dX9_mix_91 dX9_mix_92 (by decide) rfl X (fun _ X => ?_) (fun _ X => ?_)
      · exact r_cut (wX9_mix_99 G hG R _ _ _ _ _ _ _ X) ⟨rfl, ⟨rfl, ⟨rfl, ⟨rfl, ⟨rfl, ⟨rfl, trivial⟩⟩⟩⟩⟩⟩
      · refine r_ldc2 98 dX9_mix_95 rfl lkX9_143 ?_
        exact r_retL dX9_mix_98 (Nat.zero_le _) (Nat.zero_le _) X
theorem wX9_mix_59 (G : GG) (hG : GT G) (R : Int64 × AH) (l0 : Nat) (l1 : Int32) (l2 : Int32) (l3 : Int32) (s0 : Int64) (h : AH) (X : fX9_mix_59 l0 l1 l2 l3 s0 h = some R) : AW (eX9_mix G R) RX9 cX9_mix 59 [some (.ref (gB G + l0)), some (.int l1), some (.int l2), some (.int l3), none, none, none, none, none] [.long s0] h 0 0 := by
  unfold fX9_mix_59 at X
  refine r_lst4 61 dX9_mix_59 rfl rfl ?_
  refine r_ild3 62 dX9_mix_61 rfl ?_
  refine r_if_eq 76 65 dX9_mix_62 (by decide) rfl X (fun _ X => ?_) (fun _ X => ?_)
  · refine r_iconst 77 _ dX9_mix_76 rfl ki_0 ?_
    exact r_cut (wX9_mix_77 G hG R _ _ _ _ _ _ _ X) ⟨rfl, ⟨rfl, ⟨rfl, ⟨rfl, ⟨rfl, trivial⟩⟩⟩⟩⟩
  · refine r_ald0 66 dX9_mix_65 rfl ?_
    refine r_gI 69 dX9_mix_66 rfl lfX9_69 rfl X (fun x101 X => ?_)
    refine r_if_eq 76 72 dX9_mix_69 (by decide) rfl X (fun _ X => ?_) (fun _ X => ?_)
    · refine r_iconst 77 _ dX9_mix_76 rfl ki_0 ?_
      exact r_cut (wX9_mix_77 G hG R _ _ _ _ _ _ _ X) ⟨rfl, ⟨rfl, ⟨rfl, ⟨rfl, ⟨rfl, trivial⟩⟩⟩⟩⟩
    · refine r_iconst 73 _ dX9_mix_72 rfl ki_1 ?_
      refine r_goto 77 dX9_mix_73 (by decide) ?_
      exact r_cut (wX9_mix_77 G hG R _ _ _ _ _ _ _ X) ⟨rfl, ⟨rfl, ⟨rfl, ⟨rfl, ⟨rfl, trivial⟩⟩⟩⟩⟩
theorem wX9_mix_42 (G : GG) (hG : GT G) (R : Int64 × AH) (l0 : Nat) (l1 : Int32) (l2 : Int32) (h : AH) (X : fX9_mix_42 l0 l1 l2 h = some R) : AW (eX9_mix G R) RX9 cX9_mix 42 [some (.ref (gB G + l0)), some (.int l1), some (.int l2), none, none, none, none, none, none] [] h 0 0 := by
  unfold fX9_mix_42 at X
  refine r_iconst 43 _ dX9_mix_42 rfl ki_0 ?_
  refine r_ist3 44 dX9_mix_43 rfl rfl ?_
  refine r_ild3 45 dX9_mix_44 rfl ?_
  refine r_if_eq 58 48 dX9_mix_45 (by decide) rfl X (fun _ X => ?_) (fun _ X => ?_)
  · refine r_lconst 59 _ dX9_mix_58 rfl kl_1 ?_
    exact r_cut (wX9_mix_59 G hG R _ _ _ _ _ _ X) ⟨rfl, ⟨rfl, ⟨rfl, ⟨rfl, trivial⟩⟩⟩⟩
  · refine r_ald0 49 dX9_mix_48 rfl ?_
    refine r_iconst 50 _ dX9_mix_49 rfl ki_4 ?_
    refine r_ild1 51 dX9_mix_50 rfl ?_
    refine r_ild2 52 dX9_mix_51 rfl ?_
    obtain ⟨hs, X⟩ := r_cv X
    obtain ⟨x102, h101, hc, X⟩ := bnd_ok X
    refine r_callV3 55 dX9_mix_52 rfl lmX9_204 hs (mtX9_mixed G hG hc) rfl ⟨(Nat.zero_le _), (Nat.zero_le _)⟩ ?_
    refine r_goto 59 dX9_mix_55 (by decide) ?_
    exact r_cut (wX9_mix_59 G hG R _ _ _ _ _ _ X) ⟨rfl, ⟨rfl, ⟨rfl, ⟨rfl, trivial⟩⟩⟩⟩
theorem wX9_mix (G : GG) (hG : GT G) (R : Int64 × AH) (a0 : Nat) (x0 : Int32) (x1 : Int32) (h : AH) (X : fX9_mix a0 x0 x1 h = some R) : AW (eX9_mix G R) RX9 cX9_mix 0 [some (.ref (gB G + a0)), some (.int x0), some (.int x1), none, none, none, none, none, none] [] h 0 0 := by
  unfold fX9_mix at X
  refine r_ald0 1 dX9_mix_0 rfl ?_
  refine r_ild1 2 dX9_mix_1 rfl ?_
  obtain ⟨hs, X⟩ := r_cv X
  obtain ⟨x102, h101, hc, X⟩ := bnd_ok X
  refine r_callV1 5 dX9_mix_2 rfl lmX9_179 hs (mtX9_noStream G hG hc) rfl ⟨(Nat.zero_le _), (Nat.zero_le _)⟩ ?_
  refine r_if_ne 16 8 dX9_mix_5 (by decide) rfl X (fun _ X => ?_) (fun _ X => ?_)
  · refine r_ldc2 19 dX9_mix_16 rfl lkX9_183 ?_
    exact r_retL dX9_mix_19 (Nat.zero_le _) (Nat.zero_le _) X
  · refine r_ald0 9 dX9_mix_8 rfl ?_
    refine r_ild2 10 dX9_mix_9 rfl ?_
    obtain ⟨hs, X⟩ := r_cv X
    obtain ⟨x104, h103, hc, X⟩ := bnd_ok X
    refine r_callV1 13 dX9_mix_10 rfl lmX9_179 hs (mtX9_noStream G hG hc) rfl ⟨(Nat.zero_le _), (Nat.zero_le _)⟩ ?_
    refine r_if_eq 20 16 dX9_mix_13 (by decide) rfl X (fun _ X => ?_) (fun _ X => ?_)
    · refine r_ald0 21 dX9_mix_20 rfl ?_
      refine r_gR 24 dX9_mix_21 rfl lfX9_13 rfl X (fun b105 X => ?_)
      refine r_ild1 25 dX9_mix_24 rfl ?_
      refine r_aI 26 0 dX9_mix_25 rfl rfl X (fun x106 X => ?_)
      refine r_if_ne 42 29 dX9_mix_26 (by decide) rfl X (fun _ X => ?_) (fun _ X => ?_)
      · exact r_cut (wX9_mix_42 G hG R _ _ _ _ X) ⟨rfl, ⟨rfl, ⟨rfl, trivial⟩⟩⟩
      · refine r_ald0 30 dX9_mix_29 rfl ?_
        refine r_gR 33 dX9_mix_30 rfl lfX9_13 rfl X (fun b107 X => ?_)
        refine r_ild2 34 dX9_mix_33 rfl ?_
        refine r_aI 35 0 dX9_mix_34 rfl rfl X (fun x108 X => ?_)
        refine r_if_ne 42 38 dX9_mix_35 (by decide) rfl X (fun _ X => ?_) (fun _ X => ?_)
        · exact r_cut (wX9_mix_42 G hG R _ _ _ _ X) ⟨rfl, ⟨rfl, ⟨rfl, trivial⟩⟩⟩
        · refine r_iconst 39 _ dX9_mix_38 rfl ki_1 ?_
          refine r_goto 43 dX9_mix_39 (by decide) ?_
          refine r_ist3 44 dX9_mix_43 rfl rfl ?_
          refine r_ild3 45 dX9_mix_44 rfl ?_
          refine r_if_eq 58 48 dX9_mix_45 (by decide) rfl X (fun _ X => ?_) (fun _ X => ?_)
          · refine r_lconst 59 _ dX9_mix_58 rfl kl_1 ?_
            exact r_cut (wX9_mix_59 G hG R _ _ _ _ _ _ X) ⟨rfl, ⟨rfl, ⟨rfl, ⟨rfl, trivial⟩⟩⟩⟩
          · refine r_ald0 49 dX9_mix_48 rfl ?_
            refine r_iconst 50 _ dX9_mix_49 rfl ki_4 ?_
            refine r_ild1 51 dX9_mix_50 rfl ?_
            refine r_ild2 52 dX9_mix_51 rfl ?_
            obtain ⟨hs, X⟩ := r_cv X
            obtain ⟨x110, h109, hc, X⟩ := bnd_ok X
            refine r_callV3 55 dX9_mix_52 rfl lmX9_204 hs (mtX9_mixed G hG hc) rfl ⟨(Nat.zero_le _), (Nat.zero_le _)⟩ ?_
            refine r_goto 59 dX9_mix_55 (by decide) ?_
            exact r_cut (wX9_mix_59 G hG R _ _ _ _ _ _ X) ⟨rfl, ⟨rfl, ⟨rfl, ⟨rfl, trivial⟩⟩⟩⟩
    · refine r_ldc2 19 dX9_mix_16 rfl lkX9_183 ?_
      exact r_retL dX9_mix_19 (Nat.zero_le _) (Nat.zero_le _) X
theorem mtX9_mix (G : GG) (hG : GT G) {a0 : Nat} {x0 : Int32} {x1 : Int32} {h h' : AH} {v : Int64} (hc : fX9_mix a0 x0 x1 h = some (v, h')) : AMet G yX9_mix cX9_mix 9 (some .long) 5 127 0 0 [.ref (gB G + a0), .int x0, .int x1] h (some (.long v)) h' :=
  amet_of false [some (.ref (gB G + a0)), some (.int x0), some (.int x1), none, none, none, none, none, none] (by decide +kernel) (by decide) (Nat.le_of_ble_eq_true rfl) rfl (Nat.le_of_ble_eq_true rfl) (wX9_mix G hG (v, h') _ _ _ h hc)
abbrev eX9_isBehind (G : GG) (R : Int32 × AH) : EE := eM G 3 (some .boolean) false 0 0 0 0 (some (.int R.1)) R.2
theorem wX9_isBehind (G : GG) (hG : GT G) (R : Int32 × AH) (a0 : Nat) (x0 : Int32) (x1 : Int32) (h : AH) (X : fX9_isBehind a0 x0 x1 h = some R) : AW (eX9_isBehind G R) RX9 cX9_isBehind 0 [some (.ref (gB G + a0)), some (.int x0), some (.int x1)] [] h 0 0 := by
  unfold fX9_isBehind at X
  refine r_ild2 1 dX9_isBehind_0 rfl ?_
  refine r_if_lt 23 4 dX9_isBehind_1 (by decide) rfl X (fun _ X => ?_) (fun _ X => ?_)
  · refine r_iconst 24 _ dX9_isBehind_23 rfl ki_1 ?_
    refine r_goto 28 dX9_isBehind_24 (by decide) ?_
    exact r_ret1 dX9_isBehind_28 (Nat.zero_le _) (Nat.zero_le _) X
  · refine r_ald0 5 dX9_isBehind_4 rfl ?_
    refine r_gR 8 dX9_isBehind_5 rfl lfX9_20 rfl X (fun b101 X => ?_)
    refine r_ild1 9 dX9_isBehind_8 rfl ?_
    refine r_aZ 10 2 dX9_isBehind_9 rfl rfl X (fun x102 X => ?_)
    refine r_if_eq 27 13 dX9_isBehind_10 (by decide) rfl X (fun _ X => ?_) (fun _ X => ?_)
    · refine r_iconst 28 _ dX9_isBehind_27 rfl ki_0 ?_
      exact r_ret0 dX9_isBehind_28 (Nat.zero_le _) (Nat.zero_le _) X
    · refine r_ild2 14 dX9_isBehind_13 rfl ?_
      refine r_ald0 15 dX9_isBehind_14 rfl ?_
      refine r_gR 18 dX9_isBehind_15 rfl lfX9_17 rfl X (fun b103 X => ?_)
      refine r_ild1 19 dX9_isBehind_18 rfl ?_
      refine r_aI 20 0 dX9_isBehind_19 rfl rfl X (fun x104 X => ?_)
      refine r_icmp_lt 27 23 dX9_isBehind_20 (by decide) rfl X (fun _ X => ?_) (fun _ X => ?_)
      · refine r_iconst 28 _ dX9_isBehind_27 rfl ki_0 ?_
        exact r_ret0 dX9_isBehind_28 (Nat.zero_le _) (Nat.zero_le _) X
      · refine r_iconst 24 _ dX9_isBehind_23 rfl ki_1 ?_
        refine r_goto 28 dX9_isBehind_24 (by decide) ?_
        exact r_ret1 dX9_isBehind_28 (Nat.zero_le _) (Nat.zero_le _) X
theorem mtX9_isBehind (G : GG) (hG : GT G) {a0 : Nat} {x0 : Int32} {x1 : Int32} {h h' : AH} {v : Int32} (hc : fX9_isBehind a0 x0 x1 h = some (v, h')) : AMet G yX9_isBehind cX9_isBehind 3 (some .boolean) 0 0 0 0 [.ref (gB G + a0), .int x0, .int x1] h (some (.int v)) h' :=
  amet_of false [some (.ref (gB G + a0)), some (.int x0), some (.int x1)] (by decide +kernel) (by decide) (Nat.le_of_ble_eq_true rfl) rfl (Nat.le_of_ble_eq_true rfl) (wX9_isBehind G hG (v, h') _ _ _ h hc)
abbrev eX9_near (G : GG) (R : Int64 × AH) : EE := eM G 5 (some .long) false 3 73 0 0 (some (.long R.1)) R.2
theorem wX9_near_88 (G : GG) (hG : GT G) (R : Int64 × AH) (l0 : Nat) (l1 : Int32) (l2 : Int32) (l3 : Int32) (h : AH) (X : fX9_near_88 l0 l1 l2 l3 h = some R) : AW (eX9_near G R) RX9 cX9_near 88 [some (.ref (gB G + l0)), some (.int l1), some (.int l2), some (.int l3), none] [] h 0 0 := by
  unfold fX9_near_88 at X
  refine r_ald0 89 dX9_near_88 rfl ?_
  refine r_gI 92 dX9_near_89 rfl lfX9_69 rfl X (fun x101 X => ?_)
  refine r_if_eq 99 95 dX9_near_92 (by decide) rfl X (fun _ X => ?_) (fun _ X => ?_)
  · refine r_ild2 100 dX9_near_99 rfl ?_
    refine r_ald0 101 dX9_near_100 rfl ?_
    refine r_gR 104 dX9_near_101 rfl lfX9_17 rfl X (fun b102 X => ?_)
    refine r_ild1 105 dX9_near_104 rfl ?_
    refine r_aI 106 0 dX9_near_105 rfl rfl X (fun x103 X => ?_)
    refine r_icmp_lt 115 109 dX9_near_106 (by decide) rfl X (fun _ X => ?_) (fun _ X => ?_)
    · refine r_ild3 116 dX9_near_115 rfl ?_
      refine r_if_ne 126 119 dX9_near_116 (by decide) rfl X (fun _ X => ?_) (fun _ X => ?_)
      · refine r_ald0 127 dX9_near_126 rfl ?_
        refine r_gL 130 dX9_near_127 rfl lfX9_262 rfl X (fun x104 X => ?_)
        exact r_retL dX9_near_130 (Nat.zero_le _) (Nat.zero_le _) X
      · refine r_ald0 120 dX9_near_119 rfl ?_
        refine r_gL 123 dX9_near_120 rfl lfX9_259 rfl X (fun x105 X => ?_)
        refine r_goto 130 dX9_near_123 (by decide) ?_
        exact r_retL dX9_near_130 (Nat.zero_le _) (Nat.zero_le _) X
    · refine r_ldc2 112 dX9_near_109 rfl lkX9_255 ?_
      refine r_goto 130 dX9_near_112 (by decide) ?_
      exact r_retL dX9_near_130 (Nat.zero_le _) (Nat.zero_le _) X
  · refine r_ldc2 98 dX9_near_95 rfl lkX9_177 ?_
    exact r_retL dX9_near_98 (Nat.zero_le _) (Nat.zero_le _) X
theorem wX9_near_42 (G : GG) (hG : GT G) (R : Int64 × AH) {K42 : Nat → Int32 → Int32 → Int32 → Int32 → AH → Fn Int64} (hK42 : ∀ (l0 : Nat) (l1 : Int32) (l2 : Int32) (l3 : Int32) (l4 : Int32) (h : AH), K42 l0 l1 l2 l3 l4 h = some R → AW (eX9_near G R) RX9 cX9_near 42 [some (.ref (gB G + l0)), some (.int l1), some (.int l2), some (.int l3), some (.int l4)] [] h 0 0) (l0 : Nat) (l1 : Int32) (l2 : Int32) (l3 : Int32) (l4 : Int32) (h : AH) (X : fX9_near_42 K42 l0 l1 l2 l3 l4 h = some R) : AW (eX9_near G R) RX9 cX9_near 42 [some (.ref (gB G + l0)), some (.int l1), some (.int l2), some (.int l3), some (.int l4)] [] h 0 0 := by
  unfold fX9_near_42 at X
  refine r_ild4 44 dX9_near_42 rfl ?_
  refine r_ild2 45 dX9_near_44 rfl ?_
  refine r_icmp_gt 88 48 dX9_near_45 (by decide) rfl X (fun _ X => ?_) (fun _ X => ?_)
  · exact r_cut (wX9_near_88 G hG R _ _ _ _ _ X) ⟨rfl, ⟨rfl, ⟨rfl, ⟨rfl, trivial⟩⟩⟩⟩
  · refine r_ild4 50 dX9_near_48 rfl ?_
    refine r_ald0 51 dX9_near_50 rfl ?_
    refine r_gR 54 dX9_near_51 rfl lfX9_17 rfl X (fun b101 X => ?_)
    refine r_ild1 55 dX9_near_54 rfl ?_
    refine r_aI 56 0 dX9_near_55 rfl rfl X (fun x102 X => ?_)
    refine r_icmp_ge 88 59 dX9_near_56 (by decide) rfl X (fun _ X => ?_) (fun _ X => ?_)
    · exact r_cut (wX9_near_88 G hG R _ _ _ _ _ X) ⟨rfl, ⟨rfl, ⟨rfl, ⟨rfl, trivial⟩⟩⟩⟩
    · refine r_ald0 60 dX9_near_59 rfl ?_
      refine r_gI 63 dX9_near_60 rfl lfX9_69 rfl X (fun x103 X => ?_)
      refine r_if_ne 88 66 dX9_near_63 (by decide) rfl X (fun _ X => ?_) (fun _ X => ?_)
      · exact r_cut (wX9_near_88 G hG R _ _ _ _ _ X) ⟨rfl, ⟨rfl, ⟨rfl, ⟨rfl, trivial⟩⟩⟩⟩
      · refine r_ald0 67 dX9_near_66 rfl ?_
        refine r_ald0 68 dX9_near_67 rfl ?_
        refine r_gR 71 dX9_near_68 rfl lfX9_23 rfl X (fun b104 X => ?_)
        refine r_bipush 73 _ dX9_near_71 rfl kb_60 ?_
        refine r_ild1 74 dX9_near_73 rfl ?_
        refine r_imul 75 dX9_near_74 rfl ?_
        refine r_ild4 77 dX9_near_75 rfl ?_
        refine r_iadd 78 dX9_near_77 rfl ?_
        refine r_aL 79 1 dX9_near_78 rfl rfl X (fun x105 X => ?_)
        obtain ⟨hs, X⟩ := r_cv X
        obtain ⟨_, h106, hc, X⟩ := bnd_ok X
        refine r_callV1v 82 dX9_near_79 rfl lmX9_280 hs (mtX9_goNear G hG hc) rfl ⟨(Nat.zero_le _), (Nat.zero_le _)⟩ ?_
        refine r_iinc4w 85 dX9_near_82 rfl rfl ki_1 X (fun x107 X => ?_)
        refine r_goto 42 dX9_near_85 (by decide) ?_
        exact r_cut (hK42 _ _ _ _ _ _ X) ⟨rfl, ⟨rfl, ⟨rfl, ⟨rfl, ⟨rfl, trivial⟩⟩⟩⟩⟩
theorem wX9_near_42L (G : GG) (hG : GT G) (R : Int64 × AH) : ∀ (m : Nat) (l0 : Nat) (l1 : Int32) (l2 : Int32) (l3 : Int32) (l4 : Int32) (h : AH), fX9_near_42L m l0 l1 l2 l3 l4 h = some R → AW (eX9_near G R) RX9 cX9_near 42 [some (.ref (gB G + l0)), some (.int l1), some (.int l2), some (.int l3), some (.int l4)] [] h 0 0 := by
  intro m
  induction m with
  | zero => intro l0 l1 l2 l3 l4 h X; exact nomatch (show (none : Fn Int64) = some R from X)
  | succ m ih => intro l0 l1 l2 l3 l4 h X; exact wX9_near_42 G hG R ih l0 l1 l2 l3 l4 h X
theorem wX9_near (G : GG) (hG : GT G) (R : Int64 × AH) (a0 : Nat) (x0 : Int32) (x1 : Int32) (x2 : Int32) (h : AH) (X : fX9_near a0 x0 x1 x2 h = some R) : AW (eX9_near G R) RX9 cX9_near 0 [some (.ref (gB G + a0)), some (.int x0), some (.int x1), some (.int x2), none] [] h 0 0 := by
  unfold fX9_near at X
  refine r_ald0 1 dX9_near_0 rfl ?_
  refine r_ild1 2 dX9_near_1 rfl ?_
  obtain ⟨hs, X⟩ := r_cv X
  obtain ⟨x102, h101, hc, X⟩ := bnd_ok X
  refine r_callV1 5 dX9_near_2 rfl lmX9_179 hs (mtX9_noStream G hG hc) rfl ⟨(Nat.zero_le _), (Nat.zero_le _)⟩ ?_
  refine r_if_eq 12 8 dX9_near_5 (by decide) rfl X (fun _ X => ?_) (fun _ X => ?_)
  · refine r_ald0 13 dX9_near_12 rfl ?_
    refine r_ild1 14 dX9_near_13 rfl ?_
    refine r_ild2 15 dX9_near_14 rfl ?_
    obtain ⟨hs, X⟩ := r_cv X
    obtain ⟨x104, h103, hc, X⟩ := bnd_ok X
    refine r_callV2 18 dX9_near_15 rfl lmX9_252 hs (mtX9_isBehind G hG hc) rfl ⟨(Nat.zero_le _), (Nat.zero_le _)⟩ ?_
    refine r_if_ne 31 21 dX9_near_18 (by decide) rfl X (fun _ X => ?_) (fun _ X => ?_)
    · refine r_ldc2 34 dX9_near_31 rfl lkX9_109 ?_
      exact r_retL dX9_near_34 (Nat.zero_le _) (Nat.zero_le _) X
    · refine r_ild3 22 dX9_near_21 rfl ?_
      refine r_i2l 23 dX9_near_22 rfl ?_
      refine r_lconst 24 _ dX9_near_23 rfl kl_0 ?_
      refine r_lconst 25 _ dX9_near_24 rfl kl_1 ?_
      obtain ⟨x106, h105, hc, X⟩ := bnd_ok X
      refine r_callS3 28 dX9_near_25 rfl lmX9_75 (mtX9_in G hG hc) rfl ⟨(Nat.zero_le _), (Nat.zero_le _)⟩ ?_
      refine r_if_ne 35 31 dX9_near_28 (by decide) rfl X (fun _ X => ?_) (fun _ X => ?_)
      · refine r_ald0 36 dX9_near_35 rfl ?_
        obtain ⟨hs, X⟩ := r_cv X
        obtain ⟨_, h107, hc, X⟩ := bnd_ok X
        refine r_callV0v 39 dX9_near_36 rfl lmX9_277 hs (mtX9_beginNear G hG hc) rfl ⟨(Nat.zero_le _), (Nat.zero_le _)⟩ ?_
        refine r_iconst 40 _ dX9_near_39 rfl ki_0 ?_
        refine r_ist4 42 dX9_near_40 rfl rfl ?_
        exact r_cut (wX9_near_42L G hG R 1000 _ _ _ _ _ _ X) ⟨rfl, ⟨rfl, ⟨rfl, ⟨rfl, ⟨rfl, trivial⟩⟩⟩⟩⟩
      · refine r_ldc2 34 dX9_near_31 rfl lkX9_109 ?_
        exact r_retL dX9_near_34 (Nat.zero_le _) (Nat.zero_le _) X
  · refine r_ldc2 11 dX9_near_8 rfl lkX9_183 ?_
    exact r_retL dX9_near_11 (Nat.zero_le _) (Nat.zero_le _) X
theorem mtX9_near (G : GG) (hG : GT G) {a0 : Nat} {x0 : Int32} {x1 : Int32} {x2 : Int32} {h h' : AH} {v : Int64} (hc : fX9_near a0 x0 x1 x2 h = some (v, h')) : AMet G yX9_near cX9_near 5 (some .long) 3 73 0 0 [.ref (gB G + a0), .int x0, .int x1, .int x2] h (some (.long v)) h' :=
  amet_of false [some (.ref (gB G + a0)), some (.int x0), some (.int x1), some (.int x2), none] (by decide +kernel) (by decide) (Nat.le_of_ble_eq_true rfl) rfl (Nat.le_of_ble_eq_true rfl) (wX9_near G hG (v, h') _ _ _ _ h hc)
abbrev eX9_part (G : GG) (R : Int64 × AH) : EE := eM G 3 (some .long) false 2 46 0 0 (some (.long R.1)) R.2
theorem wX9_part (G : GG) (hG : GT G) (R : Int64 × AH) (a0 : Nat) (x0 : Int32) (x1 : Int32) (h : AH) (X : fX9_part a0 x0 x1 h = some R) : AW (eX9_part G R) RX9 cX9_part 0 [some (.ref (gB G + a0)), some (.int x0), some (.int x1)] [] h 0 0 := by
  unfold fX9_part at X
  refine r_ald0 1 dX9_part_0 rfl ?_
  refine r_ild1 2 dX9_part_1 rfl ?_
  obtain ⟨hs, X⟩ := r_cv X
  obtain ⟨x102, h101, hc, X⟩ := bnd_ok X
  refine r_callV1 5 dX9_part_2 rfl lmX9_179 hs (mtX9_noStream G hG hc) rfl ⟨(Nat.zero_le _), (Nat.zero_le _)⟩ ?_
  refine r_if_eq 12 8 dX9_part_5 (by decide) rfl X (fun _ X => ?_) (fun _ X => ?_)
  · refine r_ald0 13 dX9_part_12 rfl ?_
    refine r_ild1 14 dX9_part_13 rfl ?_
    refine r_ild2 15 dX9_part_14 rfl ?_
    obtain ⟨hs, X⟩ := r_cv X
    obtain ⟨x104, h103, hc, X⟩ := bnd_ok X
    refine r_callV2 18 dX9_part_15 rfl lmX9_252 hs (mtX9_isBehind G hG hc) rfl ⟨(Nat.zero_le _), (Nat.zero_le _)⟩ ?_
    refine r_if_eq 25 21 dX9_part_18 (by decide) rfl X (fun _ X => ?_) (fun _ X => ?_)
    · refine r_ild2 26 dX9_part_25 rfl ?_
      refine r_ald0 27 dX9_part_26 rfl ?_
      refine r_gR 30 dX9_part_27 rfl lfX9_17 rfl X (fun b105 X => ?_)
      refine r_ild1 31 dX9_part_30 rfl ?_
      refine r_aI 32 0 dX9_part_31 rfl rfl X (fun x106 X => ?_)
      refine r_icmp_ge 49 35 dX9_part_32 (by decide) rfl X (fun _ X => ?_) (fun _ X => ?_)
      · refine r_ldc2 52 dX9_part_49 rfl lkX9_255 ?_
        exact r_retL dX9_part_52 (Nat.zero_le _) (Nat.zero_le _) X
      · refine r_ald0 36 dX9_part_35 rfl ?_
        refine r_gR 39 dX9_part_36 rfl lfX9_23 rfl X (fun b107 X => ?_)
        refine r_bipush 41 _ dX9_part_39 rfl kb_60 ?_
        refine r_ild1 42 dX9_part_41 rfl ?_
        refine r_imul 43 dX9_part_42 rfl ?_
        refine r_ild2 44 dX9_part_43 rfl ?_
        refine r_iadd 45 dX9_part_44 rfl ?_
        refine r_aL 46 1 dX9_part_45 rfl rfl X (fun x108 X => ?_)
        refine r_goto 52 dX9_part_46 (by decide) ?_
        exact r_retL dX9_part_52 (Nat.zero_le _) (Nat.zero_le _) X
    · refine r_ldc2 24 dX9_part_21 rfl lkX9_109 ?_
      exact r_retL dX9_part_24 (Nat.zero_le _) (Nat.zero_le _) X
  · refine r_ldc2 11 dX9_part_8 rfl lkX9_183 ?_
    exact r_retL dX9_part_11 (Nat.zero_le _) (Nat.zero_le _) X
theorem mtX9_part (G : GG) (hG : GT G) {a0 : Nat} {x0 : Int32} {x1 : Int32} {h h' : AH} {v : Int64} (hc : fX9_part a0 x0 x1 h = some (v, h')) : AMet G yX9_part cX9_part 3 (some .long) 2 46 0 0 [.ref (gB G + a0), .int x0, .int x1] h (some (.long v)) h' :=
  amet_of false [some (.ref (gB G + a0)), some (.int x0), some (.int x1)] (by decide +kernel) (by decide) (Nat.le_of_ble_eq_true rfl) rfl (Nat.le_of_ble_eq_true rfl) (wX9_part G hG (v, h') _ _ _ h hc)
abbrev eX9_ratio (G : GG) (R : Int64 × AH) : EE := eM G 5 (some .long) false 3 85 0 0 (some (.long R.1)) R.2
theorem wX9_ratio (G : GG) (hG : GT G) (R : Int64 × AH) (a0 : Nat) (x0 : Int64) (x1 : Int64) (h : AH) (X : fX9_ratio a0 x0 x1 h = some R) : AW (eX9_ratio G R) RX9 cX9_ratio 0 [some (.ref (gB G + a0)), some (.long x0), none, some (.long x1), none] [] h 0 0 := by
  unfold fX9_ratio at X
  refine r_lld1 1 dX9_ratio_0 rfl ?_
  refine r_ldc2 4 dX9_ratio_1 rfl lkX9_107 ?_
  refine r_ldc2 7 dX9_ratio_4 rfl lkX9_67 ?_
  obtain ⟨x102, h101, hc, X⟩ := bnd_ok X
  refine r_callS3 10 dX9_ratio_7 rfl lmX9_75 (mtX9_in G hG hc) rfl ⟨(Nat.zero_le _), (Nat.zero_le _)⟩ ?_
  refine r_if_eq 32 13 dX9_ratio_10 (by decide) rfl X (fun _ X => ?_) (fun _ X => ?_)
  · refine r_ldc2 35 dX9_ratio_32 rfl lkX9_109 ?_
    exact r_retL dX9_ratio_35 (Nat.zero_le _) (Nat.zero_le _) X
  · refine r_lld3 14 dX9_ratio_13 rfl ?_
    refine r_ldc2 17 dX9_ratio_14 rfl lkX9_107 ?_
    refine r_ldc2 20 dX9_ratio_17 rfl lkX9_67 ?_
    obtain ⟨x104, h103, hc, X⟩ := bnd_ok X
    refine r_callS3 23 dX9_ratio_20 rfl lmX9_75 (mtX9_in G hG hc) rfl ⟨(Nat.zero_le _), (Nat.zero_le _)⟩ ?_
    refine r_if_eq 32 26 dX9_ratio_23 (by decide) rfl X (fun _ X => ?_) (fun _ X => ?_)
    · refine r_ldc2 35 dX9_ratio_32 rfl lkX9_109 ?_
      exact r_retL dX9_ratio_35 (Nat.zero_le _) (Nat.zero_le _) X
    · refine r_lld3 27 dX9_ratio_26 rfl ?_
      refine r_lconst 28 _ dX9_ratio_27 rfl kl_0 ?_
      refine r_lif_ne 36 32 dX9_ratio_28 dX9_ratio_29 (by decide) rfl X (fun _ X => ?_) (fun _ X => ?_)
      · refine r_ald0 37 dX9_ratio_36 rfl ?_
        refine r_gI 40 dX9_ratio_37 rfl lfX9_79 rfl X (fun x105 X => ?_)
        refine r_bipush 42 _ dX9_ratio_40 rfl kb_40 ?_
        refine r_icmp_ne 51 45 dX9_ratio_42 (by decide) rfl X (fun _ X => ?_) (fun _ X => ?_)
        · refine r_ald0 52 dX9_ratio_51 rfl ?_
          refine r_lld1 53 dX9_ratio_52 rfl ?_
          refine r_lld3 54 dX9_ratio_53 rfl ?_
          obtain ⟨hs, X⟩ := r_cv X
          obtain ⟨x107, h106, hc, X⟩ := bnd_ok X
          refine r_callV2 57 dX9_ratio_54 rfl lmX9_113 hs (mtX9_newRatio G hG hc) rfl ⟨(Nat.zero_le _), (Nat.zero_le _)⟩ ?_
          refine r_i2l 58 dX9_ratio_57 rfl ?_
          exact r_retL dX9_ratio_58 (Nat.zero_le _) (Nat.zero_le _) X
        · refine r_ldc2 48 dX9_ratio_45 rfl lkX9_111 ?_
          refine r_goto 58 dX9_ratio_48 (by decide) ?_
          exact r_retL dX9_ratio_58 (Nat.zero_le _) (Nat.zero_le _) X
      · refine r_ldc2 35 dX9_ratio_32 rfl lkX9_109 ?_
        exact r_retL dX9_ratio_35 (Nat.zero_le _) (Nat.zero_le _) X
theorem mtX9_ratio (G : GG) (hG : GT G) {a0 : Nat} {x0 : Int64} {x1 : Int64} {h h' : AH} {v : Int64} (hc : fX9_ratio a0 x0 x1 h = some (v, h')) : AMet G yX9_ratio cX9_ratio 5 (some .long) 3 85 0 0 [.ref (gB G + a0), .long x0, .long x1] h (some (.long v)) h' :=
  amet_of false [some (.ref (gB G + a0)), some (.long x0), none, some (.long x1), none] (by decide +kernel) (by decide) (Nat.le_of_ble_eq_true rfl) rfl (Nat.le_of_ble_eq_true rfl) (wX9_ratio G hG (v, h') _ _ _ h hc)
abbrev eX9_roll_ (G : GG) (R : Int64 × AH) : EE := eM G 3 (some .long) false 1 25 0 0 (some (.long R.1)) R.2
theorem wX9_roll_ (G : GG) (hG : GT G) (R : Int64 × AH) (a0 : Nat) (x0 : Int32) (x1 : Int32) (h : AH) (X : fX9_roll_ a0 x0 x1 h = some R) : AW (eX9_roll_ G R) RX9 cX9_roll_ 0 [some (.ref (gB G + a0)), some (.int x0), some (.int x1)] [] h 0 0 := by
  unfold fX9_roll_ at X
  refine r_ild1 1 dX9_roll__0 rfl ?_
  refine r_iconst 2 _ dX9_roll__1 rfl ki_m1 ?_
  refine r_icmp_ne 11 5 dX9_roll__2 (by decide) rfl X (fun _ X => ?_) (fun _ X => ?_)
  · refine r_ild1 12 dX9_roll__11 rfl ?_
    refine r_i2l 13 dX9_roll__12 rfl ?_
    refine r_lconst 14 _ dX9_roll__13 rfl kl_0 ?_
    refine r_ald0 15 dX9_roll__14 rfl ?_
    refine r_gI 18 dX9_roll__15 rfl lfX9_207 rfl X (fun x101 X => ?_)
    refine r_iconst 19 _ dX9_roll__18 rfl ki_1 ?_
    refine r_isub 20 dX9_roll__19 rfl ?_
    refine r_i2l 21 dX9_roll__20 rfl ?_
    obtain ⟨x103, h102, hc, X⟩ := bnd_ok X
    refine r_callS3 24 dX9_roll__21 rfl lmX9_75 (mtX9_in G hG hc) rfl ⟨(Nat.zero_le _), (Nat.zero_le _)⟩ ?_
    refine r_if_eq 53 27 dX9_roll__24 (by decide) rfl X (fun _ X => ?_) (fun _ X => ?_)
    · refine r_ldc2 56 dX9_roll__53 rfl lkX9_109 ?_
      exact r_retL dX9_roll__56 (Nat.zero_le _) (Nat.zero_le _) X
    · refine r_ild2 28 dX9_roll__27 rfl ?_
      refine r_i2l 29 dX9_roll__28 rfl ?_
      refine r_lconst 30 _ dX9_roll__29 rfl kl_0 ?_
      refine r_ldc2 33 dX9_roll__30 rfl lkX9_247 ?_
      obtain ⟨x105, h104, hc, X⟩ := bnd_ok X
      refine r_callS3 36 dX9_roll__33 rfl lmX9_75 (mtX9_in G hG hc) rfl ⟨(Nat.zero_le _), (Nat.zero_le _)⟩ ?_
      refine r_if_eq 53 39 dX9_roll__36 (by decide) rfl X (fun _ X => ?_) (fun _ X => ?_)
      · refine r_ldc2 56 dX9_roll__53 rfl lkX9_109 ?_
        exact r_retL dX9_roll__56 (Nat.zero_le _) (Nat.zero_le _) X
      · refine r_ald0 40 dX9_roll__39 rfl ?_
        refine r_gR 43 dX9_roll__40 rfl lfX9_54 rfl X (fun b106 X => ?_)
        refine r_bipush 45 _ dX9_roll__43 rfl kb_10 ?_
        refine r_ild1 46 dX9_roll__45 rfl ?_
        refine r_imul 47 dX9_roll__46 rfl ?_
        refine r_ild2 48 dX9_roll__47 rfl ?_
        refine r_iadd 49 dX9_roll__48 rfl ?_
        refine r_aL 50 1 dX9_roll__49 rfl rfl X (fun x107 X => ?_)
        refine r_goto 56 dX9_roll__50 (by decide) ?_
        exact r_retL dX9_roll__56 (Nat.zero_le _) (Nat.zero_le _) X
  · refine r_ald0 6 dX9_roll__5 rfl ?_
    refine r_gI 9 dX9_roll__6 rfl lfX9_207 rfl X (fun x108 X => ?_)
    refine r_i2l 10 dX9_roll__9 rfl ?_
    exact r_retL dX9_roll__10 (Nat.zero_le _) (Nat.zero_le _) X
theorem mtX9_roll_ (G : GG) (hG : GT G) {a0 : Nat} {x0 : Int32} {x1 : Int32} {h h' : AH} {v : Int64} (hc : fX9_roll_ a0 x0 x1 h = some (v, h')) : AMet G yX9_roll_ cX9_roll_ 3 (some .long) 1 25 0 0 [.ref (gB G + a0), .int x0, .int x1] h (some (.long v)) h' :=
  amet_of false [some (.ref (gB G + a0)), some (.int x0), some (.int x1)] (by decide +kernel) (by decide) (Nat.le_of_ble_eq_true rfl) rfl (Nat.le_of_ble_eq_true rfl) (wX9_roll_ G hG (v, h') _ _ _ h hc)
abbrev eX9_root (G : GG) (R : Int64 × AH) : EE := eM G 11 (some .long) false 4 115 0 0 (some (.long R.1)) R.2
theorem wX9_root_166 (G : GG) (hG : GT G) (R : Int64 × AH) (l0 : Nat) (l1 : Int32) (l4 : Int32) (l5 : Int64) (l7 : Int64) (h : AH) (X : fX9_root_166 l0 l1 l4 l5 l7 h = some R) : AW (eX9_root G R) RX9 cX9_root 166 [some (.ref (gB G + l0)), some (.int l1), none, none, some (.int l4), some (.long l5), none, some (.long l7), none, none, none] [] h 0 0 := by
  unfold fX9_root_166 at X
  refine r_ald0 167 dX9_root_166 rfl ?_
  refine r_ild1 168 dX9_root_167 rfl ?_
  refine r_i2l 169 dX9_root_168 rfl ?_
  refine r_lld5 171 dX9_root_169 rfl ?_
  refine r_lconst 172 _ dX9_root_171 rfl kl_1 ?_
  refine r_lif_ne 181 176 dX9_root_172 dX9_root_173 (by decide) rfl X (fun _ X => ?_) (fun _ X => ?_)
  · refine r_lconst 182 _ dX9_root_181 rfl kl_0 ?_
    refine r_ladd 183 dX9_root_182 rfl ?_
    refine r_ild4 185 dX9_root_183 rfl ?_
    refine r_i2l 186 dX9_root_185 rfl ?_
    obtain ⟨hs, X⟩ := r_cv X
    obtain ⟨x102, h101, hc, X⟩ := bnd_ok X
    refine r_callV2 189 dX9_root_186 rfl lmX9_113 hs (mtX9_newRatio G hG hc) rfl ⟨(Nat.zero_le _), (Nat.zero_le _)⟩ ?_
    refine r_i2l 190 dX9_root_189 rfl ?_
    exact r_retL dX9_root_190 (Nat.zero_le _) (Nat.zero_le _) X
  · refine r_lld7 178 dX9_root_176 rfl ?_
    refine r_goto 182 dX9_root_178 (by decide) ?_
    refine r_ladd 183 dX9_root_182 rfl ?_
    refine r_ild4 185 dX9_root_183 rfl ?_
    refine r_i2l 186 dX9_root_185 rfl ?_
    obtain ⟨hs, X⟩ := r_cv X
    obtain ⟨x104, h103, hc, X⟩ := bnd_ok X
    refine r_callV2 189 dX9_root_186 rfl lmX9_113 hs (mtX9_newRatio G hG hc) rfl ⟨(Nat.zero_le _), (Nat.zero_le _)⟩ ?_
    refine r_i2l 190 dX9_root_189 rfl ?_
    exact r_retL dX9_root_190 (Nat.zero_le _) (Nat.zero_le _) X
theorem wX9_root_150 (G : GG) (hG : GT G) (R : Int64 × AH) (l0 : Nat) (l1 : Int32) (l4 : Int32) (l5 : Int64) (l7 : Int64) (h : AH) (X : fX9_root_150 l0 l1 l4 l5 l7 h = some R) : AW (eX9_root G R) RX9 cX9_root 150 [some (.ref (gB G + l0)), some (.int l1), none, none, some (.int l4), some (.long l5), none, some (.long l7), none, none, none] [] h 0 0 := by
  unfold fX9_root_150 at X
  refine r_lld5 152 dX9_root_150 rfl ?_
  refine r_ldc2 155 dX9_root_152 rfl lkX9_102 ?_
  refine r_lif_lt 166 159 dX9_root_155 dX9_root_156 (by decide) rfl X (fun _ X => ?_) (fun _ X => ?_)
  · exact r_cut (wX9_root_166 G hG R _ _ _ _ _ _ X) ⟨rfl, ⟨rfl, ⟨rfl, ⟨rfl, ⟨rfl, trivial⟩⟩⟩⟩⟩
  · refine r_lld7 161 dX9_root_159 rfl ?_
    refine r_lconst 162 _ dX9_root_161 rfl kl_0 ?_
    refine r_lif_ne 191 166 dX9_root_162 dX9_root_163 (by decide) rfl X (fun _ X => ?_) (fun _ X => ?_)
    · refine r_ald0 192 dX9_root_191 rfl ?_
      refine r_ild1 193 dX9_root_192 rfl ?_
      refine r_i2l 194 dX9_root_193 rfl ?_
      refine r_lld7 196 dX9_root_194 rfl ?_
      refine r_lld5 198 dX9_root_196 rfl ?_
      refine r_ild4 200 dX9_root_198 rfl ?_
      refine r_i2l 201 dX9_root_200 rfl ?_
      obtain ⟨hs, X⟩ := r_cv X
      obtain ⟨x102, h101, hc, X⟩ := bnd_ok X
      refine r_callV4 204 dX9_root_201 rfl lmX9_129 hs (mtX9_put G hG hc) rfl ⟨(Nat.zero_le _), (Nat.zero_le _)⟩ ?_
      refine r_i2l 205 dX9_root_204 rfl ?_
      exact r_retL dX9_root_205 (Nat.zero_le _) (Nat.zero_le _) X
    · exact r_cut (wX9_root_166 G hG R _ _ _ _ _ _ X) ⟨rfl, ⟨rfl, ⟨rfl, ⟨rfl, ⟨rfl, trivial⟩⟩⟩⟩⟩
theorem wX9_root_141 (G : GG) (hG : GT G) (R : Int64 × AH) {K90 : Nat → Int32 → Int32 → Int64 → Int64 → Int64 → AH → Fn Int64} (hK90 : ∀ (l0 : Nat) (l1 : Int32) (l4 : Int32) (l5 : Int64) (l7 : Int64) (l9 : Int64) (h : AH), K90 l0 l1 l4 l5 l7 l9 h = some R → AW (eX9_root G R) RX9 cX9_root 90 [some (.ref (gB G + l0)), some (.int l1), none, none, some (.int l4), some (.long l5), none, some (.long l7), none, some (.long l9), none] [] h 0 0) (l0 : Nat) (l1 : Int32) (l4 : Int32) (l5 : Int64) (l7 : Int64) (l9 : Int64) (h : AH) (X : fX9_root_141 K90 l0 l1 l4 l5 l7 l9 h = some R) : AW (eX9_root G R) RX9 cX9_root 141 [some (.ref (gB G + l0)), some (.int l1), none, none, some (.int l4), some (.long l5), none, some (.long l7), none, some (.long l9), none] [] h 0 0 := by
  unfold fX9_root_141 at X
  refine r_lld9 143 dX9_root_141 rfl ?_
  refine r_lconst 144 _ dX9_root_143 rfl kl_1 ?_
  refine r_ladd 145 dX9_root_144 rfl ?_
  refine r_lst9w 147 dX9_root_145 rfl rfl X (fun x101 X => ?_)
  refine r_goto 90 dX9_root_147 (by decide) ?_
  exact r_cut (hK90 _ _ _ _ _ _ _ X) ⟨rfl, ⟨rfl, ⟨rfl, ⟨rfl, ⟨rfl, ⟨rfl, trivial⟩⟩⟩⟩⟩⟩
theorem wX9_root_101 (G : GG) (hG : GT G) (R : Int64 × AH) {K90 : Nat → Int32 → Int32 → Int64 → Int64 → Int64 → AH → Fn Int64} {K101 : Nat → Int32 → Int32 → Int64 → Int64 → Int64 → AH → Fn Int64} (hK90 : ∀ (l0 : Nat) (l1 : Int32) (l4 : Int32) (l5 : Int64) (l7 : Int64) (l9 : Int64) (h : AH), K90 l0 l1 l4 l5 l7 l9 h = some R → AW (eX9_root G R) RX9 cX9_root 90 [some (.ref (gB G + l0)), some (.int l1), none, none, some (.int l4), some (.long l5), none, some (.long l7), none, some (.long l9), none] [] h 0 0) (hK101 : ∀ (l0 : Nat) (l1 : Int32) (l4 : Int32) (l5 : Int64) (l7 : Int64) (l9 : Int64) (h : AH), K101 l0 l1 l4 l5 l7 l9 h = some R → AW (eX9_root G R) RX9 cX9_root 101 [some (.ref (gB G + l0)), some (.int l1), none, none, some (.int l4), some (.long l5), none, some (.long l7), none, some (.long l9), none] [] h 0 0) (l0 : Nat) (l1 : Int32) (l4 : Int32) (l5 : Int64) (l7 : Int64) (l9 : Int64) (h : AH) (X : fX9_root_101 K90 K101 l0 l1 l4 l5 l7 l9 h = some R) : AW (eX9_root G R) RX9 cX9_root 101 [some (.ref (gB G + l0)), some (.int l1), none, none, some (.int l4), some (.long l5), none, some (.long l7), none, some (.long l9), none] [] h 0 0 := by
  unfold fX9_root_101 at X
  refine r_lld5 103 dX9_root_101 rfl ?_
  refine r_lld9 105 dX9_root_103 rfl ?_
  refine r_lld9 107 dX9_root_105 rfl ?_
  refine r_lmul 108 dX9_root_107 rfl ?_
  refine r_lrem 109 dX9_root_108 rfl X (fun X => ?_)
  refine r_lconst 110 _ dX9_root_109 rfl kl_0 ?_
  refine r_lif_ne 141 114 dX9_root_110 dX9_root_111 (by decide) rfl X (fun _ X => ?_) (fun _ X => ?_)
  · exact r_cut (wX9_root_141 G hG R hK90 _ _ _ _ _ _ _ X) ⟨rfl, ⟨rfl, ⟨rfl, ⟨rfl, ⟨rfl, ⟨rfl, trivial⟩⟩⟩⟩⟩⟩
  · refine r_lld5 116 dX9_root_114 rfl ?_
    refine r_lconst 117 _ dX9_root_116 rfl kl_0 ?_
    refine r_lif_le 141 121 dX9_root_117 dX9_root_118 (by decide) rfl X (fun _ X => ?_) (fun _ X => ?_)
    · exact r_cut (wX9_root_141 G hG R hK90 _ _ _ _ _ _ _ X) ⟨rfl, ⟨rfl, ⟨rfl, ⟨rfl, ⟨rfl, ⟨rfl, trivial⟩⟩⟩⟩⟩⟩
    · refine r_lld5 123 dX9_root_121 rfl ?_
      refine r_lld9 125 dX9_root_123 rfl ?_
      refine r_lld9 127 dX9_root_125 rfl ?_
      refine r_lmul 128 dX9_root_127 rfl ?_
      refine r_ldiv 129 dX9_root_128 rfl X (fun X => ?_)
      refine r_lst5w 131 dX9_root_129 rfl rfl X (fun x101 X => ?_)
      refine r_lld7 133 dX9_root_131 rfl ?_
      refine r_lld9 135 dX9_root_133 rfl ?_
      refine r_lmul 136 dX9_root_135 rfl ?_
      refine r_lst7w 138 dX9_root_136 rfl rfl X (fun x102 X => ?_)
      refine r_goto 101 dX9_root_138 (by decide) ?_
      exact r_cut (hK101 _ _ _ _ _ _ _ X) ⟨rfl, ⟨rfl, ⟨rfl, ⟨rfl, ⟨rfl, ⟨rfl, trivial⟩⟩⟩⟩⟩⟩
theorem wX9_root_101L (G : GG) (hG : GT G) (R : Int64 × AH) {K90 : Nat → Int32 → Int32 → Int64 → Int64 → Int64 → AH → Fn Int64} (hK90 : ∀ (l0 : Nat) (l1 : Int32) (l4 : Int32) (l5 : Int64) (l7 : Int64) (l9 : Int64) (h : AH), K90 l0 l1 l4 l5 l7 l9 h = some R → AW (eX9_root G R) RX9 cX9_root 90 [some (.ref (gB G + l0)), some (.int l1), none, none, some (.int l4), some (.long l5), none, some (.long l7), none, some (.long l9), none] [] h 0 0) : ∀ (m : Nat) (l0 : Nat) (l1 : Int32) (l4 : Int32) (l5 : Int64) (l7 : Int64) (l9 : Int64) (h : AH), fX9_root_101L K90 m l0 l1 l4 l5 l7 l9 h = some R → AW (eX9_root G R) RX9 cX9_root 101 [some (.ref (gB G + l0)), some (.int l1), none, none, some (.int l4), some (.long l5), none, some (.long l7), none, some (.long l9), none] [] h 0 0 := by
  intro m
  induction m with
  | zero => intro l0 l1 l4 l5 l7 l9 h X; exact nomatch (show (none : Fn Int64) = some R from X)
  | succ m ih => intro l0 l1 l4 l5 l7 l9 h X; exact wX9_root_101 G hG R hK90 ih l0 l1 l4 l5 l7 l9 h X
theorem wX9_root_90 (G : GG) (hG : GT G) (R : Int64 × AH) {K90 : Nat → Int32 → Int32 → Int64 → Int64 → Int64 → AH → Fn Int64} (hK90 : ∀ (l0 : Nat) (l1 : Int32) (l4 : Int32) (l5 : Int64) (l7 : Int64) (l9 : Int64) (h : AH), K90 l0 l1 l4 l5 l7 l9 h = some R → AW (eX9_root G R) RX9 cX9_root 90 [some (.ref (gB G + l0)), some (.int l1), none, none, some (.int l4), some (.long l5), none, some (.long l7), none, some (.long l9), none] [] h 0 0) (l0 : Nat) (l1 : Int32) (l4 : Int32) (l5 : Int64) (l7 : Int64) (l9 : Int64) (h : AH) (X : fX9_root_90 K90 l0 l1 l4 l5 l7 l9 h = some R) : AW (eX9_root G R) RX9 cX9_root 90 [some (.ref (gB G + l0)), some (.int l1), none, none, some (.int l4), some (.long l5), none, some (.long l7), none, some (.long l9), none] [] h 0 0 := by
  unfold fX9_root_90 at X
  refine r_lld9 92 dX9_root_90 rfl ?_
  refine r_lld9 94 dX9_root_92 rfl ?_
  refine r_lmul 95 dX9_root_94 rfl ?_
  refine r_lld5 97 dX9_root_95 rfl ?_
  refine r_lif_gt 150 101 dX9_root_97 dX9_root_98 (by decide) rfl X (fun _ X => ?_) (fun _ X => ?_)
  · exact r_cut (wX9_root_150 G hG R _ _ _ _ _ _ X) ⟨rfl, ⟨rfl, ⟨rfl, ⟨rfl, ⟨rfl, trivial⟩⟩⟩⟩⟩
  · exact r_cut (wX9_root_101L G hG R hK90 1000 _ _ _ _ _ _ _ X) ⟨rfl, ⟨rfl, ⟨rfl, ⟨rfl, ⟨rfl, ⟨rfl, trivial⟩⟩⟩⟩⟩⟩
theorem wX9_root_90L (G : GG) (hG : GT G) (R : Int64 × AH) : ∀ (m : Nat) (l0 : Nat) (l1 : Int32) (l4 : Int32) (l5 : Int64) (l7 : Int64) (l9 : Int64) (h : AH), fX9_root_90L m l0 l1 l4 l5 l7 l9 h = some R → AW (eX9_root G R) RX9 cX9_root 90 [some (.ref (gB G + l0)), some (.int l1), none, none, some (.int l4), some (.long l5), none, some (.long l7), none, some (.long l9), none] [] h 0 0 := by
  intro m
  induction m with
  | zero => intro l0 l1 l4 l5 l7 l9 h X; exact nomatch (show (none : Fn Int64) = some R from X)
  | succ m ih => intro l0 l1 l4 l5 l7 l9 h X; exact wX9_root_90 G hG R ih l0 l1 l4 l5 l7 l9 h X
theorem wX9_root (G : GG) (hG : GT G) (R : Int64 × AH) (a0 : Nat) (x0 : Int32) (x1 : Int32) (x2 : Int32) (x3 : Int32) (h : AH) (X : fX9_root a0 x0 x1 x2 x3 h = some R) : AW (eX9_root G R) RX9 cX9_root 0 [some (.ref (gB G + a0)), some (.int x0), some (.int x1), some (.int x2), some (.int x3), none, none, none, none, none, none] [] h 0 0 := by
  unfold fX9_root at X
  refine r_ild1 1 dX9_root_0 rfl ?_
  refine r_i2l 2 dX9_root_1 rfl ?_
  refine r_ldc2 5 dX9_root_2 rfl lkX9_117 ?_
  refine r_ldc2 8 dX9_root_5 rfl lkX9_119 ?_
  obtain ⟨x102, h101, hc, X⟩ := bnd_ok X
  refine r_callS3 11 dX9_root_8 rfl lmX9_75 (mtX9_in G hG hc) rfl ⟨(Nat.zero_le _), (Nat.zero_le _)⟩ ?_
  refine r_if_eq 60 14 dX9_root_11 (by decide) rfl X (fun _ X => ?_) (fun _ X => ?_)
  · refine r_ldc2 63 dX9_root_60 rfl lkX9_109 ?_
    exact r_retL dX9_root_63 (Nat.zero_le _) (Nat.zero_le _) X
  · refine r_ild2 15 dX9_root_14 rfl ?_
    refine r_i2l 16 dX9_root_15 rfl ?_
    refine r_ldc2 19 dX9_root_16 rfl lkX9_121 ?_
    refine r_ldc2 22 dX9_root_19 rfl lkX9_123 ?_
    obtain ⟨x104, h103, hc, X⟩ := bnd_ok X
    refine r_callS3 25 dX9_root_22 rfl lmX9_75 (mtX9_in G hG hc) rfl ⟨(Nat.zero_le _), (Nat.zero_le _)⟩ ?_
    refine r_if_eq 60 28 dX9_root_25 (by decide) rfl X (fun _ X => ?_) (fun _ X => ?_)
    · refine r_ldc2 63 dX9_root_60 rfl lkX9_109 ?_
      exact r_retL dX9_root_63 (Nat.zero_le _) (Nat.zero_le _) X
    · refine r_ild4 30 dX9_root_28 rfl ?_
      refine r_i2l 31 dX9_root_30 rfl ?_
      refine r_ldc2 34 dX9_root_31 rfl lkX9_125 ?_
      refine r_ldc2 37 dX9_root_34 rfl lkX9_127 ?_
      obtain ⟨x106, h105, hc, X⟩ := bnd_ok X
      refine r_callS3 40 dX9_root_37 rfl lmX9_75 (mtX9_in G hG hc) rfl ⟨(Nat.zero_le _), (Nat.zero_le _)⟩ ?_
      refine r_if_eq 60 43 dX9_root_40 (by decide) rfl X (fun _ X => ?_) (fun _ X => ?_)
      · refine r_ldc2 63 dX9_root_60 rfl lkX9_109 ?_
        exact r_retL dX9_root_63 (Nat.zero_le _) (Nat.zero_le _) X
      · refine r_ild4 45 dX9_root_43 rfl ?_
        refine r_if_eq 60 48 dX9_root_45 (by decide) rfl X (fun _ X => ?_) (fun _ X => ?_)
        · refine r_ldc2 63 dX9_root_60 rfl lkX9_109 ?_
          exact r_retL dX9_root_63 (Nat.zero_le _) (Nat.zero_le _) X
        · refine r_ild3 49 dX9_root_48 rfl ?_
          refine r_i2l 50 dX9_root_49 rfl ?_
          refine r_lconst 51 _ dX9_root_50 rfl kl_0 ?_
          refine r_ldc2 54 dX9_root_51 rfl lkX9_127 ?_
          obtain ⟨x108, h107, hc, X⟩ := bnd_ok X
          refine r_callS3 57 dX9_root_54 rfl lmX9_75 (mtX9_in G hG hc) rfl ⟨(Nat.zero_le _), (Nat.zero_le _)⟩ ?_
          refine r_if_ne 64 60 dX9_root_57 (by decide) rfl X (fun _ X => ?_) (fun _ X => ?_)
          · refine r_ald0 65 dX9_root_64 rfl ?_
            refine r_gI 68 dX9_root_65 rfl lfX9_79 rfl X (fun x109 X => ?_)
            refine r_bipush 70 _ dX9_root_68 rfl kb_40 ?_
            refine r_icmp_ne 77 73 dX9_root_70 (by decide) rfl X (fun _ X => ?_) (fun _ X => ?_)
            · refine r_ild3 78 dX9_root_77 rfl ?_
              refine r_i2l 79 dX9_root_78 rfl ?_
              refine r_lst5w 81 dX9_root_79 rfl rfl X (fun x110 X => ?_)
              refine r_ild2 82 dX9_root_81 rfl ?_
              refine r_i2l 83 dX9_root_82 rfl ?_
              refine r_lst7w 85 dX9_root_83 rfl rfl X (fun x111 X => ?_)
              refine r_ldc2 88 dX9_root_85 rfl lkX9_102 ?_
              refine r_lst9 90 dX9_root_88 rfl rfl ?_
              exact r_cut (wX9_root_90L G hG R 1000 _ _ _ _ _ _ _ X) ⟨rfl, ⟨rfl, ⟨rfl, ⟨rfl, ⟨rfl, ⟨rfl, trivial⟩⟩⟩⟩⟩⟩
            · refine r_ldc2 76 dX9_root_73 rfl lkX9_111 ?_
              exact r_retL dX9_root_76 (Nat.zero_le _) (Nat.zero_le _) X
          · refine r_ldc2 63 dX9_root_60 rfl lkX9_109 ?_
            exact r_retL dX9_root_63 (Nat.zero_le _) (Nat.zero_le _) X
theorem mtX9_root (G : GG) (hG : GT G) {a0 : Nat} {x0 : Int32} {x1 : Int32} {x2 : Int32} {x3 : Int32} {h h' : AH} {v : Int64} (hc : fX9_root a0 x0 x1 x2 x3 h = some (v, h')) : AMet G yX9_root cX9_root 11 (some .long) 4 115 0 0 [.ref (gB G + a0), .int x0, .int x1, .int x2, .int x3] h (some (.long v)) h' :=
  amet_of false [some (.ref (gB G + a0)), some (.int x0), some (.int x1), some (.int x2), some (.int x3), none, none, none, none, none, none] (by decide +kernel) (by decide) (Nat.le_of_ble_eq_true rfl) rfl (Nat.le_of_ble_eq_true rfl) (wX9_root G hG (v, h') _ _ _ _ _ h hc)
