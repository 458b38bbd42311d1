theorem dX9_in_0 : decode cX9_in 0 = .ok (.lload_n 0, 1) := by decide +kernel
theorem dX9_in_1 : decode cX9_in 1 = .ok (.lload_n 2, 1) := by decide +kernel
theorem dX9_in_2 : decode cX9_in 2 = .ok (.lcmp, 1) := by decide +kernel
theorem dX9_in_3 : decode cX9_in 3 = .ok (.ifCond .lt 14, 3) := by decide +kernel
theorem dX9_in_6 : decode cX9_in 6 = .ok (.lload_n 0, 1) := by decide +kernel
theorem dX9_in_7 : decode cX9_in 7 = .ok (.lload 4, 2) := by decide +kernel
theorem dX9_in_9 : decode cX9_in 9 = .ok (.lcmp, 1) := by decide +kernel
theorem dX9_in_10 : decode cX9_in 10 = .ok (.ifCond .gt 7, 3) := by decide +kernel
theorem dX9_in_13 : decode cX9_in 13 = .ok (.iconst 1, 1) := by decide +kernel
theorem dX9_in_14 : decode cX9_in 14 = .ok (.goto 4, 3) := by decide +kernel
theorem dX9_in_17 : decode cX9_in 17 = .ok (.iconst 0, 1) := by decide +kernel
theorem dX9_in_18 : decode cX9_in 18 = .ok (.ireturn, 1) := by decide +kernel
theorem dX9_put_0 : decode cX9_put 0 = .ok (.lload_n 1, 1) := by decide +kernel
theorem dX9_put_1 : decode cX9_put 1 = .ok (.lload_n 3, 1) := by decide +kernel
theorem dX9_put_2 : decode cX9_put 2 = .ok (.invokestatic 87, 3) := by decide +kernel
theorem dX9_put_5 : decode cX9_put 5 = .ok (.lload 7, 2) := by decide +kernel
theorem dX9_put_7 : decode cX9_put 7 = .ok (.invokestatic 87, 3) := by decide +kernel
theorem dX9_put_10 : decode cX9_put 10 = .ok (.lstore 9, 2) := by decide +kernel
theorem dX9_put_12 : decode cX9_put 12 = .ok (.lload 7, 2) := by decide +kernel
theorem dX9_put_14 : decode cX9_put 14 = .ok (.lconst 0, 1) := by decide +kernel
theorem dX9_put_15 : decode cX9_put 15 = .ok (.lcmp, 1) := by decide +kernel
theorem dX9_put_16 : decode cX9_put 16 = .ok (.ifCond .ge 9, 3) := by decide +kernel
theorem dX9_put_19 : decode cX9_put 19 = .ok (.lload 9, 2) := by decide +kernel
theorem dX9_put_21 : decode cX9_put 21 = .ok (.lneg, 1) := by decide +kernel
theorem dX9_put_22 : decode cX9_put 22 = .ok (.goto 5, 3) := by decide +kernel
theorem dX9_put_25 : decode cX9_put 25 = .ok (.lload 9, 2) := by decide +kernel
theorem dX9_put_27 : decode cX9_put 27 = .ok (.lstore 9, 2) := by decide +kernel
theorem dX9_put_29 : decode cX9_put 29 = .ok (.lload_n 3, 1) := by decide +kernel
theorem dX9_put_30 : decode cX9_put 30 = .ok (.lconst 0, 1) := by decide +kernel
theorem dX9_put_31 : decode cX9_put 31 = .ok (.lcmp, 1) := by decide +kernel
theorem dX9_put_32 : decode cX9_put 32 = .ok (.ifCond .ne 13, 3) := by decide +kernel
theorem dX9_put_35 : decode cX9_put 35 = .ok (.aload_n 0, 1) := by decide +kernel
theorem dX9_put_36 : decode cX9_put 36 = .ok (.lload_n 1, 1) := by decide +kernel
theorem dX9_put_37 : decode cX9_put 37 = .ok (.lload 7, 2) := by decide +kernel
theorem dX9_put_39 : decode cX9_put 39 = .ok (.invokevirtual 113, 3) := by decide +kernel
theorem dX9_put_42 : decode cX9_put 42 = .ok (.goto 22, 3) := by decide +kernel
theorem dX9_put_45 : decode cX9_put 45 = .ok (.aload_n 0, 1) := by decide +kernel
theorem dX9_put_46 : decode cX9_put 46 = .ok (.lload_n 1, 1) := by decide +kernel
theorem dX9_put_47 : decode cX9_put 47 = .ok (.lload 9, 2) := by decide +kernel
theorem dX9_put_49 : decode cX9_put 49 = .ok (.ldiv, 1) := by decide +kernel
theorem dX9_put_50 : decode cX9_put 50 = .ok (.lload_n 3, 1) := by decide +kernel
theorem dX9_put_51 : decode cX9_put 51 = .ok (.lload 9, 2) := by decide +kernel
theorem dX9_put_53 : decode cX9_put 53 = .ok (.ldiv, 1) := by decide +kernel
theorem dX9_put_54 : decode cX9_put 54 = .ok (.lload 5, 2) := by decide +kernel
theorem dX9_put_56 : decode cX9_put 56 = .ok (.lload 7, 2) := by decide +kernel
theorem dX9_put_58 : decode cX9_put 58 = .ok (.lload 9, 2) := by decide +kernel
theorem dX9_put_60 : decode cX9_put 60 = .ok (.ldiv, 1) := by decide +kernel
theorem dX9_put_61 : decode cX9_put 61 = .ok (.invokevirtual 133, 3) := by decide +kernel
theorem dX9_put_64 : decode cX9_put 64 = .ok (.ireturn, 1) := by decide +kernel
theorem dX9_isExact_0 : decode cX9_isExact 0 = .ok (.aload_n 0, 1) := by decide +kernel
theorem dX9_isExact_1 : decode cX9_isExact 1 = .ok (.getfield 13, 3) := by decide +kernel
theorem dX9_isExact_4 : decode cX9_isExact 4 = .ok (.iload_n 1, 1) := by decide +kernel
theorem dX9_isExact_5 : decode cX9_isExact 5 = .ok (.iaload, 1) := by decide +kernel
theorem dX9_isExact_6 : decode cX9_isExact 6 = .ok (.iconst 1, 1) := by decide +kernel
theorem dX9_isExact_7 : decode cX9_isExact 7 = .ok (.if_icmp .gt 13, 3) := by decide +kernel
theorem dX9_isExact_10 : decode cX9_isExact 10 = .ok (.aload_n 0, 1) := by decide +kernel
theorem dX9_isExact_11 : decode cX9_isExact 11 = .ok (.getfield 13, 3) := by decide +kernel
theorem dX9_isExact_14 : decode cX9_isExact 14 = .ok (.iload_n 2, 1) := by decide +kernel
theorem dX9_isExact_15 : decode cX9_isExact 15 = .ok (.iaload, 1) := by decide +kernel
theorem dX9_isExact_16 : decode cX9_isExact 16 = .ok (.iconst 1, 1) := by decide +kernel
theorem dX9_isExact_17 : decode cX9_isExact 17 = .ok (.if_icmp .le 5, 3) := by decide +kernel
theorem dX9_isExact_20 : decode cX9_isExact 20 = .ok (.iconst 0, 1) := by decide +kernel
theorem dX9_isExact_21 : decode cX9_isExact 21 = .ok (.ireturn, 1) := by decide +kernel
theorem dX9_isExact_22 : decode cX9_isExact 22 = .ok (.aload_n 0, 1) := by decide +kernel
theorem dX9_isExact_23 : decode cX9_isExact 23 = .ok (.getfield 13, 3) := by decide +kernel
theorem dX9_isExact_26 : decode cX9_isExact 26 = .ok (.iload_n 1, 1) := by decide +kernel
theorem dX9_isExact_27 : decode cX9_isExact 27 = .ok (.iaload, 1) := by decide +kernel
theorem dX9_isExact_28 : decode cX9_isExact 28 = .ok (.ifCond .eq 36, 3) := by decide +kernel
theorem dX9_isExact_31 : decode cX9_isExact 31 = .ok (.aload_n 0, 1) := by decide +kernel
theorem dX9_isExact_32 : decode cX9_isExact 32 = .ok (.getfield 13, 3) := by decide +kernel
theorem dX9_isExact_35 : decode cX9_isExact 35 = .ok (.iload_n 2, 1) := by decide +kernel
theorem dX9_isExact_36 : decode cX9_isExact 36 = .ok (.iaload, 1) := by decide +kernel
theorem dX9_isExact_37 : decode cX9_isExact 37 = .ok (.ifCond .eq 27, 3) := by decide +kernel
theorem dX9_isExact_40 : decode cX9_isExact 40 = .ok (.aload_n 0, 1) := by decide +kernel
theorem dX9_isExact_41 : decode cX9_isExact 41 = .ok (.getfield 30, 3) := by decide +kernel
theorem dX9_isExact_44 : decode cX9_isExact 44 = .ok (.iconst 4, 1) := by decide +kernel
theorem dX9_isExact_45 : decode cX9_isExact 45 = .ok (.iload_n 1, 1) := by decide +kernel
theorem dX9_isExact_46 : decode cX9_isExact 46 = .ok (.imul, 1) := by decide +kernel
theorem dX9_isExact_47 : decode cX9_isExact 47 = .ok (.iconst 2, 1) := by decide +kernel
theorem dX9_isExact_48 : decode cX9_isExact 48 = .ok (.iadd, 1) := by decide +kernel
theorem dX9_isExact_49 : decode cX9_isExact 49 = .ok (.laload, 1) := by decide +kernel
theorem dX9_isExact_50 : decode cX9_isExact 50 = .ok (.aload_n 0, 1) := by decide +kernel
theorem dX9_isExact_51 : decode cX9_isExact 51 = .ok (.getfield 30, 3) := by decide +kernel
theorem dX9_isExact_54 : decode cX9_isExact 54 = .ok (.iconst 4, 1) := by decide +kernel
theorem dX9_isExact_55 : decode cX9_isExact 55 = .ok (.iload_n 2, 1) := by decide +kernel
theorem dX9_isExact_56 : decode cX9_isExact 56 = .ok (.imul, 1) := by decide +kernel
theorem dX9_isExact_57 : decode cX9_isExact 57 = .ok (.iconst 2, 1) := by decide +kernel
theorem dX9_isExact_58 : decode cX9_isExact 58 = .ok (.iadd, 1) := by decide +kernel
theorem dX9_isExact_59 : decode cX9_isExact 59 = .ok (.laload, 1) := by decide +kernel
theorem dX9_isExact_60 : decode cX9_isExact 60 = .ok (.lcmp, 1) := by decide +kernel
theorem dX9_isExact_61 : decode cX9_isExact 61 = .ok (.ifCond .ne 7, 3) := by decide +kernel
theorem dX9_isExact_64 : decode cX9_isExact 64 = .ok (.iconst 1, 1) := by decide +kernel
theorem dX9_isExact_65 : decode cX9_isExact 65 = .ok (.goto 4, 3) := by decide +kernel
theorem dX9_isExact_68 : decode cX9_isExact 68 = .ok (.iconst 0, 1) := by decide +kernel
theorem dX9_isExact_69 : decode cX9_isExact 69 = .ok (.ireturn, 1) := by decide +kernel
theorem dX9_exactOf_0 : decode cX9_exactOf 0 = .ok (.aload_n 0, 1) := by decide +kernel
theorem dX9_exactOf_1 : decode cX9_exactOf 1 = .ok (.getfield 13, 3) := by decide +kernel
theorem dX9_exactOf_4 : decode cX9_exactOf 4 = .ok (.iload_n 2, 1) := by decide +kernel
theorem dX9_exactOf_5 : decode cX9_exactOf 5 = .ok (.iaload, 1) := by decide +kernel
theorem dX9_exactOf_6 : decode cX9_exactOf 6 = .ok (.iconst 1, 1) := by decide +kernel
theorem dX9_exactOf_7 : decode cX9_exactOf 7 = .ok (.if_icmp .ne 7, 3) := by decide +kernel
theorem dX9_exactOf_10 : decode cX9_exactOf 10 = .ok (.iconst 1, 1) := by decide +kernel
theorem dX9_exactOf_11 : decode cX9_exactOf 11 = .ok (.goto 4, 3) := by decide +kernel
theorem dX9_exactOf_14 : decode cX9_exactOf 14 = .ok (.iconst 0, 1) := by decide +kernel
theorem dX9_exactOf_15 : decode cX9_exactOf 15 = .ok (.istore 4, 2) := by decide +kernel
theorem dX9_exactOf_17 : decode cX9_exactOf 17 = .ok (.aload_n 0, 1) := by decide +kernel
theorem dX9_exactOf_18 : decode cX9_exactOf 18 = .ok (.getfield 13, 3) := by decide +kernel
theorem dX9_exactOf_21 : decode cX9_exactOf 21 = .ok (.iload_n 3, 1) := by decide +kernel
theorem dX9_exactOf_22 : decode cX9_exactOf 22 = .ok (.iaload, 1) := by decide +kernel
theorem dX9_exactOf_23 : decode cX9_exactOf 23 = .ok (.iconst 1, 1) := by decide +kernel
theorem dX9_exactOf_24 : decode cX9_exactOf 24 = .ok (.if_icmp .ne 7, 3) := by decide +kernel
theorem dX9_exactOf_27 : decode cX9_exactOf 27 = .ok (.iconst 1, 1) := by decide +kernel
theorem dX9_exactOf_28 : decode cX9_exactOf 28 = .ok (.goto 4, 3) := by decide +kernel
theorem dX9_exactOf_31 : decode cX9_exactOf 31 = .ok (.iconst 0, 1) := by decide +kernel
theorem dX9_exactOf_32 : decode cX9_exactOf 32 = .ok (.istore 5, 2) := by decide +kernel
theorem dX9_exactOf_34 : decode cX9_exactOf 34 = .ok (.iload 4, 2) := by decide +kernel
theorem dX9_exactOf_36 : decode cX9_exactOf 36 = .ok (.ifCond .eq 16, 3) := by decide +kernel
theorem dX9_exactOf_39 : decode cX9_exactOf 39 = .ok (.aload_n 0, 1) := by decide +kernel
theorem dX9_exactOf_40 : decode cX9_exactOf 40 = .ok (.getfield 30, 3) := by decide +kernel
theorem dX9_exactOf_43 : decode cX9_exactOf 43 = .ok (.iconst 4, 1) := by decide +kernel
theorem dX9_exactOf_44 : decode cX9_exactOf 44 = .ok (.iload_n 2, 1) := by decide +kernel
theorem dX9_exactOf_45 : decode cX9_exactOf 45 = .ok (.imul, 1) := by decide +kernel
theorem dX9_exactOf_46 : decode cX9_exactOf 46 = .ok (.iconst 2, 1) := by decide +kernel
theorem dX9_exactOf_47 : decode cX9_exactOf 47 = .ok (.iadd, 1) := by decide +kernel
theorem dX9_exactOf_48 : decode cX9_exactOf 48 = .ok (.laload, 1) := by decide +kernel
theorem dX9_exactOf_49 : decode cX9_exactOf 49 = .ok (.goto 24, 3) := by decide +kernel
theorem dX9_exactOf_52 : decode cX9_exactOf 52 = .ok (.iload 5, 2) := by decide +kernel
theorem dX9_exactOf_54 : decode cX9_exactOf 54 = .ok (.ifCond .eq 16, 3) := by decide +kernel
theorem dX9_exactOf_57 : decode cX9_exactOf 57 = .ok (.aload_n 0, 1) := by decide +kernel
theorem dX9_exactOf_58 : decode cX9_exactOf 58 = .ok (.getfield 30, 3) := by decide +kernel
theorem dX9_exactOf_61 : decode cX9_exactOf 61 = .ok (.iconst 4, 1) := by decide +kernel
theorem dX9_exactOf_62 : decode cX9_exactOf 62 = .ok (.iload_n 3, 1) := by decide +kernel
theorem dX9_exactOf_63 : decode cX9_exactOf 63 = .ok (.imul, 1) := by decide +kernel
theorem dX9_exactOf_64 : decode cX9_exactOf 64 = .ok (.iconst 2, 1) := by decide +kernel
theorem dX9_exactOf_65 : decode cX9_exactOf 65 = .ok (.iadd, 1) := by decide +kernel
theorem dX9_exactOf_66 : decode cX9_exactOf 66 = .ok (.laload, 1) := by decide +kernel
theorem dX9_exactOf_67 : decode cX9_exactOf 67 = .ok (.goto 6, 3) := by decide +kernel
theorem dX9_exactOf_70 : decode cX9_exactOf 70 = .ok (.ldc2_w 102, 3) := by decide +kernel
theorem dX9_exactOf_73 : decode cX9_exactOf 73 = .ok (.lstore 6, 2) := by decide +kernel
theorem dX9_exactOf_75 : decode cX9_exactOf 75 = .ok (.aload_n 0, 1) := by decide +kernel
theorem dX9_exactOf_76 : decode cX9_exactOf 76 = .ok (.iload_n 1, 1) := by decide +kernel
theorem dX9_exactOf_77 : decode cX9_exactOf 77 = .ok (.aload_n 0, 1) := by decide +kernel
theorem dX9_exactOf_78 : decode cX9_exactOf 78 = .ok (.getfield 30, 3) := by decide +kernel
theorem dX9_exactOf_81 : decode cX9_exactOf 81 = .ok (.iconst 4, 1) := by decide +kernel
theorem dX9_exactOf_82 : decode cX9_exactOf 82 = .ok (.iload_n 2, 1) := by decide +kernel
theorem dX9_exactOf_83 : decode cX9_exactOf 83 = .ok (.imul, 1) := by decide +kernel
theorem dX9_exactOf_84 : decode cX9_exactOf 84 = .ok (.laload, 1) := by decide +kernel
theorem dX9_exactOf_85 : decode cX9_exactOf 85 = .ok (.iload 4, 2) := by decide +kernel
theorem dX9_exactOf_87 : decode cX9_exactOf 87 = .ok (.ifCond .eq 16, 3) := by decide +kernel
theorem dX9_exactOf_90 : decode cX9_exactOf 90 = .ok (.aload_n 0, 1) := by decide +kernel
theorem dX9_exactOf_91 : decode cX9_exactOf 91 = .ok (.getfield 30, 3) := by decide +kernel
theorem dX9_exactOf_94 : decode cX9_exactOf 94 = .ok (.iconst 4, 1) := by decide +kernel
theorem dX9_exactOf_95 : decode cX9_exactOf 95 = .ok (.iload_n 2, 1) := by decide +kernel
theorem dX9_exactOf_96 : decode cX9_exactOf 96 = .ok (.imul, 1) := by decide +kernel
theorem dX9_exactOf_97 : decode cX9_exactOf 97 = .ok (.iconst 1, 1) := by decide +kernel
theorem dX9_exactOf_98 : decode cX9_exactOf 98 = .ok (.iadd, 1) := by decide +kernel
theorem dX9_exactOf_99 : decode cX9_exactOf 99 = .ok (.laload, 1) := by decide +kernel
theorem dX9_exactOf_100 : decode cX9_exactOf 100 = .ok (.goto 4, 3) := by decide +kernel
theorem dX9_exactOf_103 : decode cX9_exactOf 103 = .ok (.lconst 0, 1) := by decide +kernel
theorem dX9_exactOf_104 : decode cX9_exactOf 104 = .ok (.aload_n 0, 1) := by decide +kernel
theorem dX9_exactOf_105 : decode cX9_exactOf 105 = .ok (.getfield 30, 3) := by decide +kernel
theorem dX9_exactOf_108 : decode cX9_exactOf 108 = .ok (.iconst 4, 1) := by decide +kernel
theorem dX9_exactOf_109 : decode cX9_exactOf 109 = .ok (.iload_n 2, 1) := by decide +kernel
theorem dX9_exactOf_110 : decode cX9_exactOf 110 = .ok (.imul, 1) := by decide +kernel
theorem dX9_exactOf_111 : decode cX9_exactOf 111 = .ok (.iload 4, 2) := by decide +kernel
theorem dX9_exactOf_113 : decode cX9_exactOf 113 = .ok (.ifCond .eq 7, 3) := by decide +kernel
theorem dX9_exactOf_116 : decode cX9_exactOf 116 = .ok (.iconst 3, 1) := by decide +kernel
theorem dX9_exactOf_117 : decode cX9_exactOf 117 = .ok (.goto 4, 3) := by decide +kernel
theorem dX9_exactOf_120 : decode cX9_exactOf 120 = .ok (.iconst 1, 1) := by decide +kernel
theorem dX9_exactOf_121 : decode cX9_exactOf 121 = .ok (.iadd, 1) := by decide +kernel
theorem dX9_exactOf_122 : decode cX9_exactOf 122 = .ok (.laload, 1) := by decide +kernel
theorem dX9_exactOf_123 : decode cX9_exactOf 123 = .ok (.aload_n 0, 1) := by decide +kernel
theorem dX9_exactOf_124 : decode cX9_exactOf 124 = .ok (.getfield 30, 3) := by decide +kernel
theorem dX9_exactOf_127 : decode cX9_exactOf 127 = .ok (.iconst 4, 1) := by decide +kernel
theorem dX9_exactOf_128 : decode cX9_exactOf 128 = .ok (.iload_n 3, 1) := by decide +kernel
theorem dX9_exactOf_129 : decode cX9_exactOf 129 = .ok (.imul, 1) := by decide +kernel
theorem dX9_exactOf_130 : decode cX9_exactOf 130 = .ok (.laload, 1) := by decide +kernel
theorem dX9_exactOf_131 : decode cX9_exactOf 131 = .ok (.iload 5, 2) := by decide +kernel
theorem dX9_exactOf_133 : decode cX9_exactOf 133 = .ok (.ifCond .eq 16, 3) := by decide +kernel
theorem dX9_exactOf_136 : decode cX9_exactOf 136 = .ok (.aload_n 0, 1) := by decide +kernel
theorem dX9_exactOf_137 : decode cX9_exactOf 137 = .ok (.getfield 30, 3) := by decide +kernel
theorem dX9_exactOf_140 : decode cX9_exactOf 140 = .ok (.iconst 4, 1) := by decide +kernel
theorem dX9_exactOf_141 : decode cX9_exactOf 141 = .ok (.iload_n 3, 1) := by decide +kernel
theorem dX9_exactOf_142 : decode cX9_exactOf 142 = .ok (.imul, 1) := by decide +kernel
theorem dX9_exactOf_143 : decode cX9_exactOf 143 = .ok (.iconst 1, 1) := by decide +kernel
theorem dX9_exactOf_144 : decode cX9_exactOf 144 = .ok (.iadd, 1) := by decide +kernel
theorem dX9_exactOf_145 : decode cX9_exactOf 145 = .ok (.laload, 1) := by decide +kernel
theorem dX9_exactOf_146 : decode cX9_exactOf 146 = .ok (.goto 4, 3) := by decide +kernel
theorem dX9_exactOf_149 : decode cX9_exactOf 149 = .ok (.lconst 0, 1) := by decide +kernel
theorem dX9_exactOf_150 : decode cX9_exactOf 150 = .ok (.aload_n 0, 1) := by decide +kernel
theorem dX9_exactOf_151 : decode cX9_exactOf 151 = .ok (.getfield 30, 3) := by decide +kernel
theorem dX9_exactOf_154 : decode cX9_exactOf 154 = .ok (.iconst 4, 1) := by decide +kernel
theorem dX9_exactOf_155 : decode cX9_exactOf 155 = .ok (.iload_n 3, 1) := by decide +kernel
theorem dX9_exactOf_156 : decode cX9_exactOf 156 = .ok (.imul, 1) := by decide +kernel
theorem dX9_exactOf_157 : decode cX9_exactOf 157 = .ok (.iload 5, 2) := by decide +kernel
theorem dX9_exactOf_159 : decode cX9_exactOf 159 = .ok (.ifCond .eq 7, 3) := by decide +kernel
theorem dX9_exactOf_162 : decode cX9_exactOf 162 = .ok (.iconst 3, 1) := by decide +kernel
theorem dX9_exactOf_163 : decode cX9_exactOf 163 = .ok (.goto 4, 3) := by decide +kernel
theorem dX9_exactOf_166 : decode cX9_exactOf 166 = .ok (.iconst 1, 1) := by decide +kernel
theorem dX9_exactOf_167 : decode cX9_exactOf 167 = .ok (.iadd, 1) := by decide +kernel
theorem dX9_exactOf_168 : decode cX9_exactOf 168 = .ok (.laload, 1) := by decide +kernel
theorem dX9_exactOf_169 : decode cX9_exactOf 169 = .ok (.lload 6, 2) := by decide +kernel
theorem dX9_exactOf_171 : decode cX9_exactOf 171 = .ok (.iload 5, 2) := by decide +kernel
theorem dX9_exactOf_173 : decode cX9_exactOf 173 = .ok (.invokevirtual 173, 3) := by decide +kernel
theorem dX9_exactOf_176 : decode cX9_exactOf 176 = .ok (.aload_n 0, 1) := by decide +kernel
theorem dX9_exactOf_177 : decode cX9_exactOf 177 = .ok (.getfield 69, 3) := by decide +kernel
theorem dX9_exactOf_180 : decode cX9_exactOf 180 = .ok (.ifCond .eq 9, 3) := by decide +kernel
theorem dX9_exactOf_183 : decode cX9_exactOf 183 = .ok (.ldc2_w 177, 3) := by decide +kernel
theorem dX9_exactOf_186 : decode cX9_exactOf 186 = .ok (.goto 24, 3) := by decide +kernel
theorem dX9_exactOf_189 : decode cX9_exactOf 189 = .ok (.aload_n 0, 1) := by decide +kernel
theorem dX9_exactOf_190 : decode cX9_exactOf 190 = .ok (.aload_n 0, 1) := by decide +kernel
theorem dX9_exactOf_191 : decode cX9_exactOf 191 = .ok (.getfield 157, 3) := by decide +kernel
theorem dX9_exactOf_194 : decode cX9_exactOf 194 = .ok (.aload_n 0, 1) := by decide +kernel
theorem dX9_exactOf_195 : decode cX9_exactOf 195 = .ok (.getfield 160, 3) := by decide +kernel
theorem dX9_exactOf_198 : decode cX9_exactOf 198 = .ok (.aload_n 0, 1) := by decide +kernel
theorem dX9_exactOf_199 : decode cX9_exactOf 199 = .ok (.getfield 145, 3) := by decide +kernel
theorem dX9_exactOf_202 : decode cX9_exactOf 202 = .ok (.aload_n 0, 1) := by decide +kernel
theorem dX9_exactOf_203 : decode cX9_exactOf 203 = .ok (.getfield 163, 3) := by decide +kernel
theorem dX9_exactOf_206 : decode cX9_exactOf 206 = .ok (.invokevirtual 129, 3) := by decide +kernel
theorem dX9_exactOf_209 : decode cX9_exactOf 209 = .ok (.i2l, 1) := by decide +kernel
theorem dX9_exactOf_210 : decode cX9_exactOf 210 = .ok (.lreturn, 1) := by decide +kernel
theorem dX9_isNought_0 : decode cX9_isNought 0 = .ok (.aload_n 0, 1) := by decide +kernel
theorem dX9_isNought_1 : decode cX9_isNought 1 = .ok (.getfield 13, 3) := by decide +kernel
theorem dX9_isNought_4 : decode cX9_isNought 4 = .ok (.iload_n 1, 1) := by decide +kernel
theorem dX9_isNought_5 : decode cX9_isNought 5 = .ok (.iaload, 1) := by decide +kernel
theorem dX9_isNought_6 : decode cX9_isNought 6 = .ok (.ifCond .ne 20, 3) := by decide +kernel
theorem dX9_isNought_9 : decode cX9_isNought 9 = .ok (.aload_n 0, 1) := by decide +kernel
theorem dX9_isNought_10 : decode cX9_isNought 10 = .ok (.getfield 30, 3) := by decide +kernel
theorem dX9_isNought_13 : decode cX9_isNought 13 = .ok (.iconst 4, 1) := by decide +kernel
theorem dX9_isNought_14 : decode cX9_isNought 14 = .ok (.iload_n 1, 1) := by decide +kernel
theorem dX9_isNought_15 : decode cX9_isNought 15 = .ok (.imul, 1) := by decide +kernel
theorem dX9_isNought_16 : decode cX9_isNought 16 = .ok (.laload, 1) := by decide +kernel
theorem dX9_isNought_17 : decode cX9_isNought 17 = .ok (.lconst 0, 1) := by decide +kernel
theorem dX9_isNought_18 : decode cX9_isNought 18 = .ok (.lcmp, 1) := by decide +kernel
theorem dX9_isNought_19 : decode cX9_isNought 19 = .ok (.ifCond .ne 7, 3) := by decide +kernel
theorem dX9_isNought_22 : decode cX9_isNought 22 = .ok (.iconst 1, 1) := by decide +kernel
theorem dX9_isNought_23 : decode cX9_isNought 23 = .ok (.goto 4, 3) := by decide +kernel
theorem dX9_isNought_26 : decode cX9_isNought 26 = .ok (.iconst 0, 1) := by decide +kernel
theorem dX9_isNought_27 : decode cX9_isNought 27 = .ok (.ireturn, 1) := by decide +kernel
theorem dX9_become_0 : decode cX9_become 0 = .ok (.aload_n 0, 1) := by decide +kernel
theorem dX9_become_1 : decode cX9_become 1 = .ok (.getfield 69, 3) := by decide +kernel
theorem dX9_become_4 : decode cX9_become 4 = .ok (.ifCond .eq 5, 3) := by decide +kernel
theorem dX9_become_7 : decode cX9_become 7 = .ok (.iconst 0, 1) := by decide +kernel
theorem dX9_become_8 : decode cX9_become 8 = .ok (.ireturn, 1) := by decide +kernel
theorem dX9_become_9 : decode cX9_become 9 = .ok (.lconst 0, 1) := by decide +kernel
theorem dX9_become_10 : decode cX9_become 10 = .ok (.lstore_n 1, 1) := by decide +kernel
theorem dX9_become_11 : decode cX9_become 11 = .ok (.iconst 0, 1) := by decide +kernel
theorem dX9_become_12 : decode cX9_become 12 = .ok (.istore_n 3, 1) := by decide +kernel
theorem dX9_become_13 : decode cX9_become 13 = .ok (.iload_n 3, 1) := by decide +kernel
theorem dX9_become_14 : decode cX9_become 14 = .ok (.bipush 8, 2) := by decide +kernel
theorem dX9_become_16 : decode cX9_become 16 = .ok (.if_icmp .ge 20, 3) := by decide +kernel
theorem dX9_become_19 : decode cX9_become 19 = .ok (.lload_n 1, 1) := by decide +kernel
theorem dX9_become_20 : decode cX9_become 20 = .ok (.aload_n 0, 1) := by decide +kernel
theorem dX9_become_21 : decode cX9_become 21 = .ok (.getfield 51, 3) := by decide +kernel
theorem dX9_become_24 : decode cX9_become 24 = .ok (.iload_n 3, 1) := by decide +kernel
theorem dX9_become_25 : decode cX9_become 25 = .ok (.laload, 1) := by decide +kernel
theorem dX9_become_26 : decode cX9_become 26 = .ok (.invokestatic 87, 3) := by decide +kernel
theorem dX9_become_29 : decode cX9_become 29 = .ok (.lstore_n 1, 1) := by decide +kernel
theorem dX9_become_30 : decode cX9_become 30 = .ok (.iinc 3 1, 3) := by decide +kernel
theorem dX9_become_33 : decode cX9_become 33 = .ok (.goto (-20), 3) := by decide +kernel
theorem dX9_become_36 : decode cX9_become 36 = .ok (.iconst 0, 1) := by decide +kernel
theorem dX9_become_37 : decode cX9_become 37 = .ok (.istore_n 3, 1) := by decide +kernel
theorem dX9_become_38 : decode cX9_become 38 = .ok (.iload_n 3, 1) := by decide +kernel
theorem dX9_become_39 : decode cX9_become 39 = .ok (.bipush 8, 2) := by decide +kernel
theorem dX9_become_41 : decode cX9_become 41 = .ok (.if_icmp .ge 33, 3) := by decide +kernel
theorem dX9_become_44 : decode cX9_become 44 = .ok (.aload_n 0, 1) := by decide +kernel
theorem dX9_become_45 : decode cX9_become 45 = .ok (.getfield 48, 3) := by decide +kernel
theorem dX9_become_48 : decode cX9_become 48 = .ok (.iload_n 3, 1) := by decide +kernel
theorem dX9_become_49 : decode cX9_become 49 = .ok (.lload_n 1, 1) := by decide +kernel
theorem dX9_become_50 : decode cX9_become 50 = .ok (.lconst 0, 1) := by decide +kernel
theorem dX9_become_51 : decode cX9_become 51 = .ok (.lcmp, 1) := by decide +kernel
theorem dX9_become_52 : decode cX9_become 52 = .ok (.ifCond .ne 7, 3) := by decide +kernel
theorem dX9_become_55 : decode cX9_become 55 = .ok (.lconst 0, 1) := by decide +kernel
theorem dX9_become_56 : decode cX9_become 56 = .ok (.goto 11, 3) := by decide +kernel
theorem dX9_become_59 : decode cX9_become 59 = .ok (.aload_n 0, 1) := by decide +kernel
theorem dX9_become_60 : decode cX9_become 60 = .ok (.getfield 51, 3) := by decide +kernel
theorem dX9_become_63 : decode cX9_become 63 = .ok (.iload_n 3, 1) := by decide +kernel
theorem dX9_become_64 : decode cX9_become 64 = .ok (.laload, 1) := by decide +kernel
theorem dX9_become_65 : decode cX9_become 65 = .ok (.lload_n 1, 1) := by decide +kernel
theorem dX9_become_66 : decode cX9_become 66 = .ok (.ldiv, 1) := by decide +kernel
theorem dX9_become_67 : decode cX9_become 67 = .ok (.lastore, 1) := by decide +kernel
theorem dX9_become_68 : decode cX9_become 68 = .ok (.iinc 3 1, 3) := by decide +kernel
theorem dX9_become_71 : decode cX9_become 71 = .ok (.goto (-33), 3) := by decide +kernel
theorem dX9_become_74 : decode cX9_become 74 = .ok (.iconst 1, 1) := by decide +kernel
theorem dX9_become_75 : decode cX9_become 75 = .ok (.ireturn, 1) := by decide +kernel
theorem dX9_outX_0 : decode cX9_outX 0 = .ok (.aload_n 0, 1) := by decide +kernel
theorem dX9_outX_1 : decode cX9_outX 1 = .ok (.iconst 0, 1) := by decide +kernel
theorem dX9_outX_2 : decode cX9_outX 2 = .ok (.putfield 69, 3) := by decide +kernel
theorem dX9_outX_5 : decode cX9_outX 5 = .ok (.iconst 0, 1) := by decide +kernel
theorem dX9_outX_6 : decode cX9_outX 6 = .ok (.istore_n 1, 1) := by decide +kernel
theorem dX9_outX_7 : decode cX9_outX 7 = .ok (.iload_n 1, 1) := by decide +kernel
theorem dX9_outX_8 : decode cX9_outX 8 = .ok (.bipush 8, 2) := by decide +kernel
theorem dX9_outX_10 : decode cX9_outX 10 = .ok (.if_icmp .ge 55, 3) := by decide +kernel
theorem dX9_outX_13 : decode cX9_outX 13 = .ok (.aload_n 0, 1) := by decide +kernel
theorem dX9_outX_14 : decode cX9_outX 14 = .ok (.getfield 51, 3) := by decide +kernel
theorem dX9_outX_17 : decode cX9_outX 17 = .ok (.iload_n 1, 1) := by decide +kernel
theorem dX9_outX_18 : decode cX9_outX 18 = .ok (.iconst 2, 1) := by decide +kernel
theorem dX9_outX_19 : decode cX9_outX 19 = .ok (.iadd, 1) := by decide +kernel
theorem dX9_outX_20 : decode cX9_outX 20 = .ok (.aload_n 0, 1) := by decide +kernel
theorem dX9_outX_21 : decode cX9_outX 21 = .ok (.getfield 48, 3) := by decide +kernel
theorem dX9_outX_24 : decode cX9_outX 24 = .ok (.iload_n 1, 1) := by decide +kernel
theorem dX9_outX_25 : decode cX9_outX 25 = .ok (.laload, 1) := by decide +kernel
theorem dX9_outX_26 : decode cX9_outX 26 = .ok (.lastore, 1) := by decide +kernel
theorem dX9_outX_27 : decode cX9_outX 27 = .ok (.aload_n 0, 1) := by decide +kernel
theorem dX9_outX_28 : decode cX9_outX 28 = .ok (.getfield 51, 3) := by decide +kernel
theorem dX9_outX_31 : decode cX9_outX 31 = .ok (.iload_n 1, 1) := by decide +kernel
theorem dX9_outX_32 : decode cX9_outX 32 = .ok (.iconst 3, 1) := by decide +kernel
theorem dX9_outX_33 : decode cX9_outX 33 = .ok (.iadd, 1) := by decide +kernel
theorem dX9_outX_34 : decode cX9_outX 34 = .ok (.aload_n 0, 1) := by decide +kernel
theorem dX9_outX_35 : decode cX9_outX 35 = .ok (.getfield 48, 3) := by decide +kernel
theorem dX9_outX_38 : decode cX9_outX 38 = .ok (.iload_n 1, 1) := by decide +kernel
theorem dX9_outX_39 : decode cX9_outX 39 = .ok (.iconst 1, 1) := by decide +kernel
theorem dX9_outX_40 : decode cX9_outX 40 = .ok (.iadd, 1) := by decide +kernel
theorem dX9_outX_41 : decode cX9_outX 41 = .ok (.laload, 1) := by decide +kernel
theorem dX9_outX_42 : decode cX9_outX 42 = .ok (.lastore, 1) := by decide +kernel
theorem dX9_outX_43 : decode cX9_outX 43 = .ok (.aload_n 0, 1) := by decide +kernel
theorem dX9_outX_44 : decode cX9_outX 44 = .ok (.getfield 51, 3) := by decide +kernel
theorem dX9_outX_47 : decode cX9_outX 47 = .ok (.iload_n 1, 1) := by decide +kernel
theorem dX9_outX_48 : decode cX9_outX 48 = .ok (.lconst 0, 1) := by decide +kernel
theorem dX9_outX_49 : decode cX9_outX 49 = .ok (.lastore, 1) := by decide +kernel
theorem dX9_outX_50 : decode cX9_outX 50 = .ok (.aload_n 0, 1) := by decide +kernel
theorem dX9_outX_51 : decode cX9_outX 51 = .ok (.getfield 51, 3) := by decide +kernel
theorem dX9_outX_54 : decode cX9_outX 54 = .ok (.iload_n 1, 1) := by decide +kernel
theorem dX9_outX_55 : decode cX9_outX 55 = .ok (.iconst 1, 1) := by decide +kernel
theorem dX9_outX_56 : decode cX9_outX 56 = .ok (.iadd, 1) := by decide +kernel
theorem dX9_outX_57 : decode cX9_outX 57 = .ok (.lconst 0, 1) := by decide +kernel
theorem dX9_outX_58 : decode cX9_outX 58 = .ok (.lastore, 1) := by decide +kernel
theorem dX9_outX_59 : decode cX9_outX 59 = .ok (.iinc 1 4, 3) := by decide +kernel
theorem dX9_outX_62 : decode cX9_outX 62 = .ok (.goto (-55), 3) := by decide +kernel
theorem dX9_outX_65 : decode cX9_outX 65 = .ok (.aload_n 0, 1) := by decide +kernel
theorem dX9_outX_66 : decode cX9_outX 66 = .ok (.invokevirtual 210, 3) := by decide +kernel
theorem dX9_outX_69 : decode cX9_outX 69 = .ok (.istore_n 1, 1) := by decide +kernel
theorem dX9_outX_70 : decode cX9_outX 70 = .ok (.return_, 1) := by decide +kernel
theorem dX9_outY_0 : decode cX9_outY 0 = .ok (.aload_n 0, 1) := by decide +kernel
theorem dX9_outY_1 : decode cX9_outY 1 = .ok (.iconst 0, 1) := by decide +kernel
theorem dX9_outY_2 : decode cX9_outY 2 = .ok (.putfield 69, 3) := by decide +kernel
theorem dX9_outY_5 : decode cX9_outY 5 = .ok (.iconst 0, 1) := by decide +kernel
theorem dX9_outY_6 : decode cX9_outY 6 = .ok (.istore_n 1, 1) := by decide +kernel
theorem dX9_outY_7 : decode cX9_outY 7 = .ok (.iload_n 1, 1) := by decide +kernel
theorem dX9_outY_8 : decode cX9_outY 8 = .ok (.bipush 8, 2) := by decide +kernel
theorem dX9_outY_10 : decode cX9_outY 10 = .ok (.if_icmp .ge 55, 3) := by decide +kernel
theorem dX9_outY_13 : decode cX9_outY 13 = .ok (.aload_n 0, 1) := by decide +kernel
theorem dX9_outY_14 : decode cX9_outY 14 = .ok (.getfield 51, 3) := by decide +kernel
theorem dX9_outY_17 : decode cX9_outY 17 = .ok (.iload_n 1, 1) := by decide +kernel
theorem dX9_outY_18 : decode cX9_outY 18 = .ok (.iconst 1, 1) := by decide +kernel
theorem dX9_outY_19 : decode cX9_outY 19 = .ok (.iadd, 1) := by decide +kernel
theorem dX9_outY_20 : decode cX9_outY 20 = .ok (.aload_n 0, 1) := by decide +kernel
theorem dX9_outY_21 : decode cX9_outY 21 = .ok (.getfield 48, 3) := by decide +kernel
theorem dX9_outY_24 : decode cX9_outY 24 = .ok (.iload_n 1, 1) := by decide +kernel
theorem dX9_outY_25 : decode cX9_outY 25 = .ok (.laload, 1) := by decide +kernel
theorem dX9_outY_26 : decode cX9_outY 26 = .ok (.lastore, 1) := by decide +kernel
theorem dX9_outY_27 : decode cX9_outY 27 = .ok (.aload_n 0, 1) := by decide +kernel
theorem dX9_outY_28 : decode cX9_outY 28 = .ok (.getfield 51, 3) := by decide +kernel
theorem dX9_outY_31 : decode cX9_outY 31 = .ok (.iload_n 1, 1) := by decide +kernel
theorem dX9_outY_32 : decode cX9_outY 32 = .ok (.iconst 3, 1) := by decide +kernel
theorem dX9_outY_33 : decode cX9_outY 33 = .ok (.iadd, 1) := by decide +kernel
theorem dX9_outY_34 : decode cX9_outY 34 = .ok (.aload_n 0, 1) := by decide +kernel
theorem dX9_outY_35 : decode cX9_outY 35 = .ok (.getfield 48, 3) := by decide +kernel
theorem dX9_outY_38 : decode cX9_outY 38 = .ok (.iload_n 1, 1) := by decide +kernel
theorem dX9_outY_39 : decode cX9_outY 39 = .ok (.iconst 2, 1) := by decide +kernel
theorem dX9_outY_40 : decode cX9_outY 40 = .ok (.iadd, 1) := by decide +kernel
theorem dX9_outY_41 : decode cX9_outY 41 = .ok (.laload, 1) := by decide +kernel
theorem dX9_outY_42 : decode cX9_outY 42 = .ok (.lastore, 1) := by decide +kernel
theorem dX9_outY_43 : decode cX9_outY 43 = .ok (.aload_n 0, 1) := by decide +kernel
theorem dX9_outY_44 : decode cX9_outY 44 = .ok (.getfield 51, 3) := by decide +kernel
theorem dX9_outY_47 : decode cX9_outY 47 = .ok (.iload_n 1, 1) := by decide +kernel
theorem dX9_outY_48 : decode cX9_outY 48 = .ok (.lconst 0, 1) := by decide +kernel
theorem dX9_outY_49 : decode cX9_outY 49 = .ok (.lastore, 1) := by decide +kernel
theorem dX9_outY_50 : decode cX9_outY 50 = .ok (.aload_n 0, 1) := by decide +kernel
theorem dX9_outY_51 : decode cX9_outY 51 = .ok (.getfield 51, 3) := by decide +kernel
theorem dX9_outY_54 : decode cX9_outY 54 = .ok (.iload_n 1, 1) := by decide +kernel
theorem dX9_outY_55 : decode cX9_outY 55 = .ok (.iconst 2, 1) := by decide +kernel
theorem dX9_outY_56 : decode cX9_outY 56 = .ok (.iadd, 1) := by decide +kernel
theorem dX9_outY_57 : decode cX9_outY 57 = .ok (.lconst 0, 1) := by decide +kernel
theorem dX9_outY_58 : decode cX9_outY 58 = .ok (.lastore, 1) := by decide +kernel
theorem dX9_outY_59 : decode cX9_outY 59 = .ok (.iinc 1 4, 3) := by decide +kernel
theorem dX9_outY_62 : decode cX9_outY 62 = .ok (.goto (-55), 3) := by decide +kernel
theorem dX9_outY_65 : decode cX9_outY 65 = .ok (.aload_n 0, 1) := by decide +kernel
theorem dX9_outY_66 : decode cX9_outY 66 = .ok (.invokevirtual 210, 3) := by decide +kernel
theorem dX9_outY_69 : decode cX9_outY 69 = .ok (.istore_n 1, 1) := by decide +kernel
theorem dX9_outY_70 : decode cX9_outY 70 = .ok (.return_, 1) := by decide +kernel
theorem dX9_corner_0 : decode cX9_corner 0 = .ok (.aload_n 0, 1) := by decide +kernel
theorem dX9_corner_1 : decode cX9_corner 1 = .ok (.getfield 57, 3) := by decide +kernel
theorem dX9_corner_4 : decode cX9_corner 4 = .ok (.aload_n 0, 1) := by decide +kernel
theorem dX9_corner_5 : decode cX9_corner 5 = .ok (.getfield 214, 3) := by decide +kernel
theorem dX9_corner_8 : decode cX9_corner 8 = .ok (.lload_n 1, 1) := by decide +kernel
theorem dX9_corner_9 : decode cX9_corner 9 = .ok (.lastore, 1) := by decide +kernel
theorem dX9_corner_10 : decode cX9_corner 10 = .ok (.aload_n 0, 1) := by decide +kernel
theorem dX9_corner_11 : decode cX9_corner 11 = .ok (.getfield 60, 3) := by decide +kernel
theorem dX9_corner_14 : decode cX9_corner 14 = .ok (.aload_n 0, 1) := by decide +kernel
theorem dX9_corner_15 : decode cX9_corner 15 = .ok (.getfield 214, 3) := by decide +kernel
theorem dX9_corner_18 : decode cX9_corner 18 = .ok (.lload_n 3, 1) := by decide +kernel
theorem dX9_corner_19 : decode cX9_corner 19 = .ok (.lastore, 1) := by decide +kernel
theorem dX9_corner_20 : decode cX9_corner 20 = .ok (.aload_n 0, 1) := by decide +kernel
theorem dX9_corner_21 : decode cX9_corner 21 = .ok (.dup, 1) := by decide +kernel
theorem dX9_corner_22 : decode cX9_corner 22 = .ok (.getfield 214, 3) := by decide +kernel
theorem dX9_corner_25 : decode cX9_corner 25 = .ok (.iconst 1, 1) := by decide +kernel
theorem dX9_corner_26 : decode cX9_corner 26 = .ok (.iadd, 1) := by decide +kernel
theorem dX9_corner_27 : decode cX9_corner 27 = .ok (.putfield 214, 3) := by decide +kernel
theorem dX9_corner_30 : decode cX9_corner 30 = .ok (.return_, 1) := by decide +kernel
theorem dX9_findCorners_0 : decode cX9_findCorners 0 = .ok (.aload_n 0, 1) := by decide +kernel
theorem dX9_findCorners_1 : decode cX9_findCorners 1 = .ok (.iconst 0, 1) := by decide +kernel
theorem dX9_findCorners_2 : decode cX9_findCorners 2 = .ok (.putfield 214, 3) := by decide +kernel
theorem dX9_findCorners_5 : decode cX9_findCorners 5 = .ok (.aload_n 0, 1) := by decide +kernel
theorem dX9_findCorners_6 : decode cX9_findCorners 6 = .ok (.iconst 0, 1) := by decide +kernel
theorem dX9_findCorners_7 : decode cX9_findCorners 7 = .ok (.putfield 69, 3) := by decide +kernel
theorem dX9_findCorners_10 : decode cX9_findCorners 10 = .ok (.iload_n 1, 1) := by decide +kernel
theorem dX9_findCorners_11 : decode cX9_findCorners 11 = .ok (.ifCond .eq 27, 3) := by decide +kernel
theorem dX9_findCorners_14 : decode cX9_findCorners 14 = .ok (.iload_n 2, 1) := by decide +kernel
theorem dX9_findCorners_15 : decode cX9_findCorners 15 = .ok (.ifCond .eq 23, 3) := by decide +kernel
theorem dX9_findCorners_18 : decode cX9_findCorners 18 = .ok (.aload_n 0, 1) := by decide +kernel
theorem dX9_findCorners_19 : decode cX9_findCorners 19 = .ok (.aload_n 0, 1) := by decide +kernel
theorem dX9_findCorners_20 : decode cX9_findCorners 20 = .ok (.getfield 48, 3) := by decide +kernel
theorem dX9_findCorners_23 : decode cX9_findCorners 23 = .ok (.iconst 3, 1) := by decide +kernel
theorem dX9_findCorners_24 : decode cX9_findCorners 24 = .ok (.laload, 1) := by decide +kernel
theorem dX9_findCorners_25 : decode cX9_findCorners 25 = .ok (.aload_n 0, 1) := by decide +kernel
theorem dX9_findCorners_26 : decode cX9_findCorners 26 = .ok (.getfield 48, 3) := by decide +kernel
theorem dX9_findCorners_29 : decode cX9_findCorners 29 = .ok (.bipush 7, 2) := by decide +kernel
theorem dX9_findCorners_31 : decode cX9_findCorners 31 = .ok (.laload, 1) := by decide +kernel
theorem dX9_findCorners_32 : decode cX9_findCorners 32 = .ok (.invokevirtual 217, 3) := by decide +kernel
theorem dX9_findCorners_35 : decode cX9_findCorners 35 = .ok (.goto 292, 3) := by decide +kernel
theorem dX9_findCorners_38 : decode cX9_findCorners 38 = .ok (.iload_n 1, 1) := by decide +kernel
theorem dX9_findCorners_39 : decode cX9_findCorners 39 = .ok (.ifCond .eq 61, 3) := by decide +kernel
theorem dX9_findCorners_42 : decode cX9_findCorners 42 = .ok (.aload_n 0, 1) := by decide +kernel
theorem dX9_findCorners_43 : decode cX9_findCorners 43 = .ok (.aload_n 0, 1) := by decide +kernel
theorem dX9_findCorners_44 : decode cX9_findCorners 44 = .ok (.aload_n 0, 1) := by decide +kernel
theorem dX9_findCorners_45 : decode cX9_findCorners 45 = .ok (.getfield 48, 3) := by decide +kernel
theorem dX9_findCorners_48 : decode cX9_findCorners 48 = .ok (.iconst 2, 1) := by decide +kernel
theorem dX9_findCorners_49 : decode cX9_findCorners 49 = .ok (.laload, 1) := by decide +kernel
theorem dX9_findCorners_50 : decode cX9_findCorners 50 = .ok (.aload_n 0, 1) := by decide +kernel
theorem dX9_findCorners_51 : decode cX9_findCorners 51 = .ok (.getfield 48, 3) := by decide +kernel
theorem dX9_findCorners_54 : decode cX9_findCorners 54 = .ok (.iconst 3, 1) := by decide +kernel
theorem dX9_findCorners_55 : decode cX9_findCorners 55 = .ok (.laload, 1) := by decide +kernel
theorem dX9_findCorners_56 : decode cX9_findCorners 56 = .ok (.invokevirtual 154, 3) := by decide +kernel
theorem dX9_findCorners_59 : decode cX9_findCorners 59 = .ok (.aload_n 0, 1) := by decide +kernel
theorem dX9_findCorners_60 : decode cX9_findCorners 60 = .ok (.aload_n 0, 1) := by decide +kernel
theorem dX9_findCorners_61 : decode cX9_findCorners 61 = .ok (.getfield 48, 3) := by decide +kernel
theorem dX9_findCorners_64 : decode cX9_findCorners 64 = .ok (.bipush 6, 2) := by decide +kernel
theorem dX9_findCorners_66 : decode cX9_findCorners 66 = .ok (.laload, 1) := by decide +kernel
theorem dX9_findCorners_67 : decode cX9_findCorners 67 = .ok (.aload_n 0, 1) := by decide +kernel
theorem dX9_findCorners_68 : decode cX9_findCorners 68 = .ok (.getfield 48, 3) := by decide +kernel
theorem dX9_findCorners_71 : decode cX9_findCorners 71 = .ok (.bipush 7, 2) := by decide +kernel
theorem dX9_findCorners_73 : decode cX9_findCorners 73 = .ok (.laload, 1) := by decide +kernel
theorem dX9_findCorners_74 : decode cX9_findCorners 74 = .ok (.invokevirtual 154, 3) := by decide +kernel
theorem dX9_findCorners_77 : decode cX9_findCorners 77 = .ok (.invokevirtual 217, 3) := by decide +kernel
theorem dX9_findCorners_80 : decode cX9_findCorners 80 = .ok (.aload_n 0, 1) := by decide +kernel
theorem dX9_findCorners_81 : decode cX9_findCorners 81 = .ok (.aload_n 0, 1) := by decide +kernel
theorem dX9_findCorners_82 : decode cX9_findCorners 82 = .ok (.getfield 48, 3) := by decide +kernel
theorem dX9_findCorners_85 : decode cX9_findCorners 85 = .ok (.iconst 2, 1) := by decide +kernel
theorem dX9_findCorners_86 : decode cX9_findCorners 86 = .ok (.laload, 1) := by decide +kernel
theorem dX9_findCorners_87 : decode cX9_findCorners 87 = .ok (.aload_n 0, 1) := by decide +kernel
theorem dX9_findCorners_88 : decode cX9_findCorners 88 = .ok (.getfield 48, 3) := by decide +kernel
theorem dX9_findCorners_91 : decode cX9_findCorners 91 = .ok (.bipush 6, 2) := by decide +kernel
theorem dX9_findCorners_93 : decode cX9_findCorners 93 = .ok (.laload, 1) := by decide +kernel
theorem dX9_findCorners_94 : decode cX9_findCorners 94 = .ok (.invokevirtual 217, 3) := by decide +kernel
theorem dX9_findCorners_97 : decode cX9_findCorners 97 = .ok (.goto 230, 3) := by decide +kernel
theorem dX9_findCorners_100 : decode cX9_findCorners 100 = .ok (.iload_n 2, 1) := by decide +kernel
theorem dX9_findCorners_101 : decode cX9_findCorners 101 = .ok (.ifCond .eq 59, 3) := by decide +kernel
theorem dX9_findCorners_104 : decode cX9_findCorners 104 = .ok (.aload_n 0, 1) := by decide +kernel
theorem dX9_findCorners_105 : decode cX9_findCorners 105 = .ok (.aload_n 0, 1) := by decide +kernel
theorem dX9_findCorners_106 : decode cX9_findCorners 106 = .ok (.aload_n 0, 1) := by decide +kernel
theorem dX9_findCorners_107 : decode cX9_findCorners 107 = .ok (.getfield 48, 3) := by decide +kernel
theorem dX9_findCorners_110 : decode cX9_findCorners 110 = .ok (.iconst 1, 1) := by decide +kernel
theorem dX9_findCorners_111 : decode cX9_findCorners 111 = .ok (.laload, 1) := by decide +kernel
theorem dX9_findCorners_112 : decode cX9_findCorners 112 = .ok (.aload_n 0, 1) := by decide +kernel
theorem dX9_findCorners_113 : decode cX9_findCorners 113 = .ok (.getfield 48, 3) := by decide +kernel
theorem dX9_findCorners_116 : decode cX9_findCorners 116 = .ok (.iconst 3, 1) := by decide +kernel
theorem dX9_findCorners_117 : decode cX9_findCorners 117 = .ok (.laload, 1) := by decide +kernel
theorem dX9_findCorners_118 : decode cX9_findCorners 118 = .ok (.invokevirtual 154, 3) := by decide +kernel
theorem dX9_findCorners_121 : decode cX9_findCorners 121 = .ok (.aload_n 0, 1) := by decide +kernel
theorem dX9_findCorners_122 : decode cX9_findCorners 122 = .ok (.aload_n 0, 1) := by decide +kernel
theorem dX9_findCorners_123 : decode cX9_findCorners 123 = .ok (.getfield 48, 3) := by decide +kernel
theorem dX9_findCorners_126 : decode cX9_findCorners 126 = .ok (.iconst 5, 1) := by decide +kernel
theorem dX9_findCorners_127 : decode cX9_findCorners 127 = .ok (.laload, 1) := by decide +kernel
theorem dX9_findCorners_128 : decode cX9_findCorners 128 = .ok (.aload_n 0, 1) := by decide +kernel
theorem dX9_findCorners_129 : decode cX9_findCorners 129 = .ok (.getfield 48, 3) := by decide +kernel
theorem dX9_findCorners_132 : decode cX9_findCorners 132 = .ok (.bipush 7, 2) := by decide +kernel
theorem dX9_findCorners_134 : decode cX9_findCorners 134 = .ok (.laload, 1) := by decide +kernel
theorem dX9_findCorners_135 : decode cX9_findCorners 135 = .ok (.invokevirtual 154, 3) := by decide +kernel
theorem dX9_findCorners_138 : decode cX9_findCorners 138 = .ok (.invokevirtual 217, 3) := by decide +kernel
theorem dX9_findCorners_141 : decode cX9_findCorners 141 = .ok (.aload_n 0, 1) := by decide +kernel
theorem dX9_findCorners_142 : decode cX9_findCorners 142 = .ok (.aload_n 0, 1) := by decide +kernel
theorem dX9_findCorners_143 : decode cX9_findCorners 143 = .ok (.getfield 48, 3) := by decide +kernel
theorem dX9_findCorners_146 : decode cX9_findCorners 146 = .ok (.iconst 1, 1) := by decide +kernel
theorem dX9_findCorners_147 : decode cX9_findCorners 147 = .ok (.laload, 1) := by decide +kernel
theorem dX9_findCorners_148 : decode cX9_findCorners 148 = .ok (.aload_n 0, 1) := by decide +kernel
theorem dX9_findCorners_149 : decode cX9_findCorners 149 = .ok (.getfield 48, 3) := by decide +kernel
theorem dX9_findCorners_152 : decode cX9_findCorners 152 = .ok (.iconst 5, 1) := by decide +kernel
theorem dX9_findCorners_153 : decode cX9_findCorners 153 = .ok (.laload, 1) := by decide +kernel
theorem dX9_findCorners_154 : decode cX9_findCorners 154 = .ok (.invokevirtual 217, 3) := by decide +kernel
theorem dX9_findCorners_157 : decode cX9_findCorners 157 = .ok (.goto 170, 3) := by decide +kernel
theorem dX9_findCorners_160 : decode cX9_findCorners 160 = .ok (.aload_n 0, 1) := by decide +kernel
theorem dX9_findCorners_161 : decode cX9_findCorners 161 = .ok (.aload_n 0, 1) := by decide +kernel
theorem dX9_findCorners_162 : decode cX9_findCorners 162 = .ok (.aload_n 0, 1) := by decide +kernel
theorem dX9_findCorners_163 : decode cX9_findCorners 163 = .ok (.aload_n 0, 1) := by decide +kernel
theorem dX9_findCorners_164 : decode cX9_findCorners 164 = .ok (.aload_n 0, 1) := by decide +kernel
theorem dX9_findCorners_165 : decode cX9_findCorners 165 = .ok (.getfield 48, 3) := by decide +kernel
theorem dX9_findCorners_168 : decode cX9_findCorners 168 = .ok (.iconst 0, 1) := by decide +kernel
theorem dX9_findCorners_169 : decode cX9_findCorners 169 = .ok (.laload, 1) := by decide +kernel
theorem dX9_findCorners_170 : decode cX9_findCorners 170 = .ok (.aload_n 0, 1) := by decide +kernel
theorem dX9_findCorners_171 : decode cX9_findCorners 171 = .ok (.getfield 48, 3) := by decide +kernel
theorem dX9_findCorners_174 : decode cX9_findCorners 174 = .ok (.iconst 1, 1) := by decide +kernel
theorem dX9_findCorners_175 : decode cX9_findCorners 175 = .ok (.laload, 1) := by decide +kernel
theorem dX9_findCorners_176 : decode cX9_findCorners 176 = .ok (.invokevirtual 154, 3) := by decide +kernel
theorem dX9_findCorners_179 : decode cX9_findCorners 179 = .ok (.aload_n 0, 1) := by decide +kernel
theorem dX9_findCorners_180 : decode cX9_findCorners 180 = .ok (.getfield 48, 3) := by decide +kernel
theorem dX9_findCorners_183 : decode cX9_findCorners 183 = .ok (.iconst 2, 1) := by decide +kernel
theorem dX9_findCorners_184 : decode cX9_findCorners 184 = .ok (.laload, 1) := by decide +kernel
theorem dX9_findCorners_185 : decode cX9_findCorners 185 = .ok (.invokevirtual 154, 3) := by decide +kernel
theorem dX9_findCorners_188 : decode cX9_findCorners 188 = .ok (.aload_n 0, 1) := by decide +kernel
theorem dX9_findCorners_189 : decode cX9_findCorners 189 = .ok (.getfield 48, 3) := by decide +kernel
theorem dX9_findCorners_192 : decode cX9_findCorners 192 = .ok (.iconst 3, 1) := by decide +kernel
theorem dX9_findCorners_193 : decode cX9_findCorners 193 = .ok (.laload, 1) := by decide +kernel
theorem dX9_findCorners_194 : decode cX9_findCorners 194 = .ok (.invokevirtual 154, 3) := by decide +kernel
theorem dX9_findCorners_197 : decode cX9_findCorners 197 = .ok (.aload_n 0, 1) := by decide +kernel
theorem dX9_findCorners_198 : decode cX9_findCorners 198 = .ok (.aload_n 0, 1) := by decide +kernel
theorem dX9_findCorners_199 : decode cX9_findCorners 199 = .ok (.aload_n 0, 1) := by decide +kernel
theorem dX9_findCorners_200 : decode cX9_findCorners 200 = .ok (.aload_n 0, 1) := by decide +kernel
theorem dX9_findCorners_201 : decode cX9_findCorners 201 = .ok (.getfield 48, 3) := by decide +kernel
theorem dX9_findCorners_204 : decode cX9_findCorners 204 = .ok (.iconst 4, 1) := by decide +kernel
theorem dX9_findCorners_205 : decode cX9_findCorners 205 = .ok (.laload, 1) := by decide +kernel
theorem dX9_findCorners_206 : decode cX9_findCorners 206 = .ok (.aload_n 0, 1) := by decide +kernel
theorem dX9_findCorners_207 : decode cX9_findCorners 207 = .ok (.getfield 48, 3) := by decide +kernel
theorem dX9_findCorners_210 : decode cX9_findCorners 210 = .ok (.iconst 5, 1) := by decide +kernel
theorem dX9_findCorners_211 : decode cX9_findCorners 211 = .ok (.laload, 1) := by decide +kernel
theorem dX9_findCorners_212 : decode cX9_findCorners 212 = .ok (.invokevirtual 154, 3) := by decide +kernel
theorem dX9_findCorners_215 : decode cX9_findCorners 215 = .ok (.aload_n 0, 1) := by decide +kernel
theorem dX9_findCorners_216 : decode cX9_findCorners 216 = .ok (.getfield 48, 3) := by decide +kernel
theorem dX9_findCorners_219 : decode cX9_findCorners 219 = .ok (.bipush 6, 2) := by decide +kernel
theorem dX9_findCorners_221 : decode cX9_findCorners 221 = .ok (.laload, 1) := by decide +kernel
theorem dX9_findCorners_222 : decode cX9_findCorners 222 = .ok (.invokevirtual 154, 3) := by decide +kernel
theorem dX9_findCorners_225 : decode cX9_findCorners 225 = .ok (.aload_n 0, 1) := by decide +kernel
theorem dX9_findCorners_226 : decode cX9_findCorners 226 = .ok (.getfield 48, 3) := by decide +kernel
theorem dX9_findCorners_229 : decode cX9_findCorners 229 = .ok (.bipush 7, 2) := by decide +kernel
theorem dX9_findCorners_231 : decode cX9_findCorners 231 = .ok (.laload, 1) := by decide +kernel
theorem dX9_findCorners_232 : decode cX9_findCorners 232 = .ok (.invokevirtual 154, 3) := by decide +kernel
theorem dX9_findCorners_235 : decode cX9_findCorners 235 = .ok (.invokevirtual 217, 3) := by decide +kernel
theorem dX9_findCorners_238 : decode cX9_findCorners 238 = .ok (.aload_n 0, 1) := by decide +kernel
theorem dX9_findCorners_239 : decode cX9_findCorners 239 = .ok (.aload_n 0, 1) := by decide +kernel
theorem dX9_findCorners_240 : decode cX9_findCorners 240 = .ok (.aload_n 0, 1) := by decide +kernel
theorem dX9_findCorners_241 : decode cX9_findCorners 241 = .ok (.getfield 48, 3) := by decide +kernel
theorem dX9_findCorners_244 : decode cX9_findCorners 244 = .ok (.iconst 0, 1) := by decide +kernel
theorem dX9_findCorners_245 : decode cX9_findCorners 245 = .ok (.laload, 1) := by decide +kernel
theorem dX9_findCorners_246 : decode cX9_findCorners 246 = .ok (.aload_n 0, 1) := by decide +kernel
theorem dX9_findCorners_247 : decode cX9_findCorners 247 = .ok (.getfield 48, 3) := by decide +kernel
theorem dX9_findCorners_250 : decode cX9_findCorners 250 = .ok (.iconst 1, 1) := by decide +kernel
theorem dX9_findCorners_251 : decode cX9_findCorners 251 = .ok (.laload, 1) := by decide +kernel
theorem dX9_findCorners_252 : decode cX9_findCorners 252 = .ok (.invokevirtual 154, 3) := by decide +kernel
theorem dX9_findCorners_255 : decode cX9_findCorners 255 = .ok (.aload_n 0, 1) := by decide +kernel
theorem dX9_findCorners_256 : decode cX9_findCorners 256 = .ok (.aload_n 0, 1) := by decide +kernel
theorem dX9_findCorners_257 : decode cX9_findCorners 257 = .ok (.getfield 48, 3) := by decide +kernel
theorem dX9_findCorners_260 : decode cX9_findCorners 260 = .ok (.iconst 4, 1) := by decide +kernel
theorem dX9_findCorners_261 : decode cX9_findCorners 261 = .ok (.laload, 1) := by decide +kernel
theorem dX9_findCorners_262 : decode cX9_findCorners 262 = .ok (.aload_n 0, 1) := by decide +kernel
theorem dX9_findCorners_263 : decode cX9_findCorners 263 = .ok (.getfield 48, 3) := by decide +kernel
theorem dX9_findCorners_266 : decode cX9_findCorners 266 = .ok (.iconst 5, 1) := by decide +kernel
theorem dX9_findCorners_267 : decode cX9_findCorners 267 = .ok (.laload, 1) := by decide +kernel
theorem dX9_findCorners_268 : decode cX9_findCorners 268 = .ok (.invokevirtual 154, 3) := by decide +kernel
theorem dX9_findCorners_271 : decode cX9_findCorners 271 = .ok (.invokevirtual 217, 3) := by decide +kernel
theorem dX9_findCorners_274 : decode cX9_findCorners 274 = .ok (.aload_n 0, 1) := by decide +kernel
theorem dX9_findCorners_275 : decode cX9_findCorners 275 = .ok (.aload_n 0, 1) := by decide +kernel
theorem dX9_findCorners_276 : decode cX9_findCorners 276 = .ok (.aload_n 0, 1) := by decide +kernel
theorem dX9_findCorners_277 : decode cX9_findCorners 277 = .ok (.getfield 48, 3) := by decide +kernel
theorem dX9_findCorners_280 : decode cX9_findCorners 280 = .ok (.iconst 0, 1) := by decide +kernel
theorem dX9_findCorners_281 : decode cX9_findCorners 281 = .ok (.laload, 1) := by decide +kernel
theorem dX9_findCorners_282 : decode cX9_findCorners 282 = .ok (.aload_n 0, 1) := by decide +kernel
theorem dX9_findCorners_283 : decode cX9_findCorners 283 = .ok (.getfield 48, 3) := by decide +kernel
theorem dX9_findCorners_286 : decode cX9_findCorners 286 = .ok (.iconst 2, 1) := by decide +kernel
theorem dX9_findCorners_287 : decode cX9_findCorners 287 = .ok (.laload, 1) := by decide +kernel
theorem dX9_findCorners_288 : decode cX9_findCorners 288 = .ok (.invokevirtual 154, 3) := by decide +kernel
theorem dX9_findCorners_291 : decode cX9_findCorners 291 = .ok (.aload_n 0, 1) := by decide +kernel
theorem dX9_findCorners_292 : decode cX9_findCorners 292 = .ok (.aload_n 0, 1) := by decide +kernel
theorem dX9_findCorners_293 : decode cX9_findCorners 293 = .ok (.getfield 48, 3) := by decide +kernel
theorem dX9_findCorners_296 : decode cX9_findCorners 296 = .ok (.iconst 4, 1) := by decide +kernel
theorem dX9_findCorners_297 : decode cX9_findCorners 297 = .ok (.laload, 1) := by decide +kernel
theorem dX9_findCorners_298 : decode cX9_findCorners 298 = .ok (.aload_n 0, 1) := by decide +kernel
theorem dX9_findCorners_299 : decode cX9_findCorners 299 = .ok (.getfield 48, 3) := by decide +kernel
theorem dX9_findCorners_302 : decode cX9_findCorners 302 = .ok (.bipush 6, 2) := by decide +kernel
theorem dX9_findCorners_304 : decode cX9_findCorners 304 = .ok (.laload, 1) := by decide +kernel
theorem dX9_findCorners_305 : decode cX9_findCorners 305 = .ok (.invokevirtual 154, 3) := by decide +kernel
theorem dX9_findCorners_308 : decode cX9_findCorners 308 = .ok (.invokevirtual 217, 3) := by decide +kernel
theorem dX9_findCorners_311 : decode cX9_findCorners 311 = .ok (.aload_n 0, 1) := by decide +kernel
theorem dX9_findCorners_312 : decode cX9_findCorners 312 = .ok (.aload_n 0, 1) := by decide +kernel
theorem dX9_findCorners_313 : decode cX9_findCorners 313 = .ok (.getfield 48, 3) := by decide +kernel
theorem dX9_findCorners_316 : decode cX9_findCorners 316 = .ok (.iconst 0, 1) := by decide +kernel
theorem dX9_findCorners_317 : decode cX9_findCorners 317 = .ok (.laload, 1) := by decide +kernel
theorem dX9_findCorners_318 : decode cX9_findCorners 318 = .ok (.aload_n 0, 1) := by decide +kernel
theorem dX9_findCorners_319 : decode cX9_findCorners 319 = .ok (.getfield 48, 3) := by decide +kernel
theorem dX9_findCorners_322 : decode cX9_findCorners 322 = .ok (.iconst 4, 1) := by decide +kernel
theorem dX9_findCorners_323 : decode cX9_findCorners 323 = .ok (.laload, 1) := by decide +kernel
theorem dX9_findCorners_324 : decode cX9_findCorners 324 = .ok (.invokevirtual 217, 3) := by decide +kernel
theorem dX9_findCorners_327 : decode cX9_findCorners 327 = .ok (.return_, 1) := by decide +kernel
theorem dX9_agree_0 : decode cX9_agree 0 = .ok (.iconst 1, 1) := by decide +kernel
theorem dX9_agree_1 : decode cX9_agree 1 = .ok (.istore_n 1, 1) := by decide +kernel
theorem dX9_agree_2 : decode cX9_agree 2 = .ok (.iconst 0, 1) := by decide +kernel
theorem dX9_agree_3 : decode cX9_agree 3 = .ok (.istore_n 2, 1) := by decide +kernel
theorem dX9_agree_4 : decode cX9_agree 4 = .ok (.iload_n 2, 1) := by decide +kernel
theorem dX9_agree_5 : decode cX9_agree 5 = .ok (.aload_n 0, 1) := by decide +kernel
theorem dX9_agree_6 : decode cX9_agree 6 = .ok (.getfield 214, 3) := by decide +kernel
theorem dX9_agree_9 : decode cX9_agree 9 = .ok (.if_icmp .ge 65, 3) := by decide +kernel
theorem dX9_agree_12 : decode cX9_agree 12 = .ok (.iload_n 1, 1) := by decide +kernel
theorem dX9_agree_13 : decode cX9_agree 13 = .ok (.ifCond .eq 53, 3) := by decide +kernel
theorem dX9_agree_16 : decode cX9_agree 16 = .ok (.aload_n 0, 1) := by decide +kernel
theorem dX9_agree_17 : decode cX9_agree 17 = .ok (.getfield 60, 3) := by decide +kernel
theorem dX9_agree_20 : decode cX9_agree 20 = .ok (.iload_n 2, 1) := by decide +kernel
theorem dX9_agree_21 : decode cX9_agree 21 = .ok (.laload, 1) := by decide +kernel
theorem dX9_agree_22 : decode cX9_agree 22 = .ok (.lconst 0, 1) := by decide +kernel
theorem dX9_agree_23 : decode cX9_agree 23 = .ok (.lcmp, 1) := by decide +kernel
theorem dX9_agree_24 : decode cX9_agree 24 = .ok (.ifCond .eq 42, 3) := by decide +kernel
theorem dX9_agree_27 : decode cX9_agree 27 = .ok (.aload_n 0, 1) := by decide +kernel
theorem dX9_agree_28 : decode cX9_agree 28 = .ok (.getfield 60, 3) := by decide +kernel
theorem dX9_agree_31 : decode cX9_agree 31 = .ok (.iload_n 2, 1) := by decide +kernel
theorem dX9_agree_32 : decode cX9_agree 32 = .ok (.laload, 1) := by decide +kernel
theorem dX9_agree_33 : decode cX9_agree 33 = .ok (.lconst 0, 1) := by decide +kernel
theorem dX9_agree_34 : decode cX9_agree 34 = .ok (.lcmp, 1) := by decide +kernel
theorem dX9_agree_35 : decode cX9_agree 35 = .ok (.ifCond .ge 7, 3) := by decide +kernel
theorem dX9_agree_38 : decode cX9_agree 38 = .ok (.iconst 1, 1) := by decide +kernel
theorem dX9_agree_39 : decode cX9_agree 39 = .ok (.goto 4, 3) := by decide +kernel
theorem dX9_agree_42 : decode cX9_agree 42 = .ok (.iconst 0, 1) := by decide +kernel
theorem dX9_agree_43 : decode cX9_agree 43 = .ok (.aload_n 0, 1) := by decide +kernel
theorem dX9_agree_44 : decode cX9_agree 44 = .ok (.getfield 60, 3) := by decide +kernel
theorem dX9_agree_47 : decode cX9_agree 47 = .ok (.iconst 0, 1) := by decide +kernel
theorem dX9_agree_48 : decode cX9_agree 48 = .ok (.laload, 1) := by decide +kernel
theorem dX9_agree_49 : decode cX9_agree 49 = .ok (.lconst 0, 1) := by decide +kernel
theorem dX9_agree_50 : decode cX9_agree 50 = .ok (.lcmp, 1) := by decide +kernel
theorem dX9_agree_51 : decode cX9_agree 51 = .ok (.ifCond .ge 7, 3) := by decide +kernel
theorem dX9_agree_54 : decode cX9_agree 54 = .ok (.iconst 1, 1) := by decide +kernel
theorem dX9_agree_55 : decode cX9_agree 55 = .ok (.goto 4, 3) := by decide +kernel
theorem dX9_agree_58 : decode cX9_agree 58 = .ok (.iconst 0, 1) := by decide +kernel
theorem dX9_agree_59 : decode cX9_agree 59 = .ok (.if_icmp .ne 7, 3) := by decide +kernel
theorem dX9_agree_62 : decode cX9_agree 62 = .ok (.iconst 1, 1) := by decide +kernel
theorem dX9_agree_63 : decode cX9_agree 63 = .ok (.goto 4, 3) := by decide +kernel
theorem dX9_agree_66 : decode cX9_agree 66 = .ok (.iconst 0, 1) := by decide +kernel
theorem dX9_agree_67 : decode cX9_agree 67 = .ok (.istore_n 1, 1) := by decide +kernel
theorem dX9_agree_68 : decode cX9_agree 68 = .ok (.iinc 2 1, 3) := by decide +kernel
theorem dX9_agree_71 : decode cX9_agree 71 = .ok (.goto (-67), 3) := by decide +kernel
theorem dX9_agree_74 : decode cX9_agree 74 = .ok (.iconst 1, 1) := by decide +kernel
theorem dX9_agree_75 : decode cX9_agree 75 = .ok (.istore_n 2, 1) := by decide +kernel
theorem dX9_agree_76 : decode cX9_agree 76 = .ok (.iload_n 2, 1) := by decide +kernel
theorem dX9_agree_77 : decode cX9_agree 77 = .ok (.aload_n 0, 1) := by decide +kernel
theorem dX9_agree_78 : decode cX9_agree 78 = .ok (.getfield 214, 3) := by decide +kernel
theorem dX9_agree_81 : decode cX9_agree 81 = .ok (.if_icmp .ge 53, 3) := by decide +kernel
theorem dX9_agree_84 : decode cX9_agree 84 = .ok (.iload_n 1, 1) := by decide +kernel
theorem dX9_agree_85 : decode cX9_agree 85 = .ok (.ifCond .eq 49, 3) := by decide +kernel
theorem dX9_agree_88 : decode cX9_agree 88 = .ok (.aload_n 0, 1) := by decide +kernel
theorem dX9_agree_89 : decode cX9_agree 89 = .ok (.getfield 57, 3) := by decide +kernel
theorem dX9_agree_92 : decode cX9_agree 92 = .ok (.iload_n 2, 1) := by decide +kernel
theorem dX9_agree_93 : decode cX9_agree 93 = .ok (.laload, 1) := by decide +kernel
theorem dX9_agree_94 : decode cX9_agree 94 = .ok (.aload_n 0, 1) := by decide +kernel
theorem dX9_agree_95 : decode cX9_agree 95 = .ok (.getfield 60, 3) := by decide +kernel
theorem dX9_agree_98 : decode cX9_agree 98 = .ok (.iload_n 2, 1) := by decide +kernel
theorem dX9_agree_99 : decode cX9_agree 99 = .ok (.laload, 1) := by decide +kernel
theorem dX9_agree_100 : decode cX9_agree 100 = .ok (.invokestatic 91, 3) := by decide +kernel
theorem dX9_agree_103 : decode cX9_agree 103 = .ok (.aload_n 0, 1) := by decide +kernel
theorem dX9_agree_104 : decode cX9_agree 104 = .ok (.getfield 57, 3) := by decide +kernel
theorem dX9_agree_107 : decode cX9_agree 107 = .ok (.iconst 0, 1) := by decide +kernel
theorem dX9_agree_108 : decode cX9_agree 108 = .ok (.laload, 1) := by decide +kernel
theorem dX9_agree_109 : decode cX9_agree 109 = .ok (.aload_n 0, 1) := by decide +kernel
theorem dX9_agree_110 : decode cX9_agree 110 = .ok (.getfield 60, 3) := by decide +kernel
theorem dX9_agree_113 : decode cX9_agree 113 = .ok (.iconst 0, 1) := by decide +kernel
theorem dX9_agree_114 : decode cX9_agree 114 = .ok (.laload, 1) := by decide +kernel
theorem dX9_agree_115 : decode cX9_agree 115 = .ok (.invokestatic 91, 3) := by decide +kernel
theorem dX9_agree_118 : decode cX9_agree 118 = .ok (.lcmp, 1) := by decide +kernel
theorem dX9_agree_119 : decode cX9_agree 119 = .ok (.ifCond .ne 7, 3) := by decide +kernel
theorem dX9_agree_122 : decode cX9_agree 122 = .ok (.iconst 1, 1) := by decide +kernel
theorem dX9_agree_123 : decode cX9_agree 123 = .ok (.goto 4, 3) := by decide +kernel
theorem dX9_agree_126 : decode cX9_agree 126 = .ok (.iconst 0, 1) := by decide +kernel
theorem dX9_agree_127 : decode cX9_agree 127 = .ok (.istore_n 1, 1) := by decide +kernel
theorem dX9_agree_128 : decode cX9_agree 128 = .ok (.iinc 2 1, 3) := by decide +kernel
theorem dX9_agree_131 : decode cX9_agree 131 = .ok (.goto (-55), 3) := by decide +kernel
theorem dX9_agree_134 : decode cX9_agree 134 = .ok (.iload_n 1, 1) := by decide +kernel
theorem dX9_agree_135 : decode cX9_agree 135 = .ok (.ireturn, 1) := by decide +kernel
theorem dX9_giveOne_0 : decode cX9_giveOne 0 = .ok (.aload_n 0, 1) := by decide +kernel
theorem dX9_giveOne_1 : decode cX9_giveOne 1 = .ok (.iconst 0, 1) := by decide +kernel
theorem dX9_giveOne_2 : decode cX9_giveOne 2 = .ok (.putfield 69, 3) := by decide +kernel
theorem dX9_giveOne_5 : decode cX9_giveOne 5 = .ok (.iconst 0, 1) := by decide +kernel
theorem dX9_giveOne_6 : decode cX9_giveOne 6 = .ok (.istore_n 3, 1) := by decide +kernel
theorem dX9_giveOne_7 : decode cX9_giveOne 7 = .ok (.iload_n 3, 1) := by decide +kernel
theorem dX9_giveOne_8 : decode cX9_giveOne 8 = .ok (.iconst 4, 1) := by decide +kernel
theorem dX9_giveOne_9 : decode cX9_giveOne 9 = .ok (.if_icmp .ge 55, 3) := by decide +kernel
theorem dX9_giveOne_12 : decode cX9_giveOne 12 = .ok (.aload_n 0, 1) := by decide +kernel
theorem dX9_giveOne_13 : decode cX9_giveOne 13 = .ok (.getfield 51, 3) := by decide +kernel
theorem dX9_giveOne_16 : decode cX9_giveOne 16 = .ok (.iload_n 3, 1) := by decide +kernel
theorem dX9_giveOne_17 : decode cX9_giveOne 17 = .ok (.aload_n 0, 1) := by decide +kernel
theorem dX9_giveOne_18 : decode cX9_giveOne 18 = .ok (.getfield 48, 3) := by decide +kernel
theorem dX9_giveOne_21 : decode cX9_giveOne 21 = .ok (.iconst 4, 1) := by decide +kernel
theorem dX9_giveOne_22 : decode cX9_giveOne 22 = .ok (.iload_n 3, 1) := by decide +kernel
theorem dX9_giveOne_23 : decode cX9_giveOne 23 = .ok (.iadd, 1) := by decide +kernel
theorem dX9_giveOne_24 : decode cX9_giveOne 24 = .ok (.laload, 1) := by decide +kernel
theorem dX9_giveOne_25 : decode cX9_giveOne 25 = .ok (.lastore, 1) := by decide +kernel
theorem dX9_giveOne_26 : decode cX9_giveOne 26 = .ok (.aload_n 0, 1) := by decide +kernel
theorem dX9_giveOne_27 : decode cX9_giveOne 27 = .ok (.getfield 51, 3) := by decide +kernel
theorem dX9_giveOne_30 : decode cX9_giveOne 30 = .ok (.iconst 4, 1) := by decide +kernel
theorem dX9_giveOne_31 : decode cX9_giveOne 31 = .ok (.iload_n 3, 1) := by decide +kernel
theorem dX9_giveOne_32 : decode cX9_giveOne 32 = .ok (.iadd, 1) := by decide +kernel
theorem dX9_giveOne_33 : decode cX9_giveOne 33 = .ok (.aload_n 0, 1) := by decide +kernel
theorem dX9_giveOne_34 : decode cX9_giveOne 34 = .ok (.aload_n 0, 1) := by decide +kernel
theorem dX9_giveOne_35 : decode cX9_giveOne 35 = .ok (.getfield 48, 3) := by decide +kernel
theorem dX9_giveOne_38 : decode cX9_giveOne 38 = .ok (.iload_n 3, 1) := by decide +kernel
theorem dX9_giveOne_39 : decode cX9_giveOne 39 = .ok (.laload, 1) := by decide +kernel
theorem dX9_giveOne_40 : decode cX9_giveOne 40 = .ok (.aload_n 0, 1) := by decide +kernel
theorem dX9_giveOne_41 : decode cX9_giveOne 41 = .ok (.lload_n 1, 1) := by decide +kernel
theorem dX9_giveOne_42 : decode cX9_giveOne 42 = .ok (.aload_n 0, 1) := by decide +kernel
theorem dX9_giveOne_43 : decode cX9_giveOne 43 = .ok (.getfield 48, 3) := by decide +kernel
theorem dX9_giveOne_46 : decode cX9_giveOne 46 = .ok (.iconst 4, 1) := by decide +kernel
theorem dX9_giveOne_47 : decode cX9_giveOne 47 = .ok (.iload_n 3, 1) := by decide +kernel
theorem dX9_giveOne_48 : decode cX9_giveOne 48 = .ok (.iadd, 1) := by decide +kernel
theorem dX9_giveOne_49 : decode cX9_giveOne 49 = .ok (.laload, 1) := by decide +kernel
theorem dX9_giveOne_50 : decode cX9_giveOne 50 = .ok (.invokevirtual 151, 3) := by decide +kernel
theorem dX9_giveOne_53 : decode cX9_giveOne 53 = .ok (.lneg, 1) := by decide +kernel
theorem dX9_giveOne_54 : decode cX9_giveOne 54 = .ok (.invokevirtual 154, 3) := by decide +kernel
theorem dX9_giveOne_57 : decode cX9_giveOne 57 = .ok (.lastore, 1) := by decide +kernel
theorem dX9_giveOne_58 : decode cX9_giveOne 58 = .ok (.iinc 3 1, 3) := by decide +kernel
theorem dX9_giveOne_61 : decode cX9_giveOne 61 = .ok (.goto (-54), 3) := by decide +kernel
theorem dX9_giveOne_64 : decode cX9_giveOne 64 = .ok (.aload_n 0, 1) := by decide +kernel
theorem dX9_giveOne_65 : decode cX9_giveOne 65 = .ok (.invokevirtual 210, 3) := by decide +kernel
theorem dX9_giveOne_68 : decode cX9_giveOne 68 = .ok (.ireturn, 1) := by decide +kernel
abbrev eX9_put (G : GG) (R : Int32 × AH) : EE := eM G 11 (some .int) false 3 85 0 0 (some (.int R.1)) R.2
theorem wX9_put_27 (G : GG) (hG : GT G) (R : Int32 × AH) (l0 : Nat) (l1 : Int64) (l3 : Int64) (l5 : Int64) (l7 : Int64) (s0 : Int64) (h : AH) (X : fX9_put_27 l0 l1 l3 l5 l7 s0 h = some R) : AW (eX9_put G R) RX9 cX9_put 27 [some (.ref (gB G + l0)), some (.long l1), none, some (.long l3), none, some (.long l5), none, some (.long l7), none, none, none] [.long s0] h 0 0 := by
  unfold fX9_put_27 at X
  refine r_lst9 29 dX9_put_27 rfl rfl ?_
  refine r_lld3 30 dX9_put_29 rfl ?_
  refine r_lconst 31 _ dX9_put_30 rfl kl_0 ?_
  refine r_lif_ne 45 35 dX9_put_31 dX9_put_32 (by decide) rfl X (fun _ X => ?_) (fun _ X => ?_)
  · refine r_ald0 46 dX9_put_45 rfl ?_
    refine r_lld1 47 dX9_put_46 rfl ?_
    refine r_lld9 49 dX9_put_47 rfl ?_
    refine r_ldiv 50 dX9_put_49 rfl X (fun X => ?_)
    refine r_lld3 51 dX9_put_50 rfl ?_
    refine r_lld9 53 dX9_put_51 rfl ?_
    refine r_ldiv 54 dX9_put_53 rfl X (fun X => ?_)
    refine r_lld5 56 dX9_put_54 rfl ?_
    refine r_lld7 58 dX9_put_56 rfl ?_
    refine r_lld9 60 dX9_put_58 rfl ?_
    refine r_ldiv 61 dX9_put_60 rfl X (fun X => ?_)
    obtain ⟨hs, X⟩ := r_cv X
    obtain ⟨x102, h101, hc, X⟩ := bnd_ok X
    refine r_callV4 64 dX9_put_61 rfl lmX9_133 hs (mtX9_newRoot G hG hc) rfl ⟨(Nat.zero_le _), (Nat.zero_le _)⟩ ?_
    exact r_retI dX9_put_64 (Nat.zero_le _) (Nat.zero_le _) X
  · refine r_ald0 36 dX9_put_35 rfl ?_
    refine r_lld1 37 dX9_put_36 rfl ?_
    refine r_lld7 39 dX9_put_37 rfl ?_
    obtain ⟨hs, X⟩ := r_cv X
    obtain ⟨x104, h103, hc, X⟩ := bnd_ok X
    refine r_callV2 42 dX9_put_39 rfl lmX9_113 hs (mtX9_newRatio G hG hc) rfl ⟨(Nat.zero_le _), (Nat.zero_le _)⟩ ?_
    refine r_goto 64 dX9_put_42 (by decide) ?_
    exact r_retI dX9_put_64 (Nat.zero_le _) (Nat.zero_le _) X
theorem wX9_put (G : GG) (hG : GT G) (R : Int32 × AH) (a0 : Nat) (x0 : Int64) (x1 : Int64) (x2 : Int64) (x3 : Int64) (h : AH) (X : fX9_put a0 x0 x1 x2 x3 h = some R) : AW (eX9_put G R) RX9 cX9_put 0 [some (.ref (gB G + a0)), some (.long x0), none, some (.long x1), none, some (.long x2), none, some (.long x3), none, none, none] [] h 0 0 := by
  unfold fX9_put at X
  refine r_lld1 1 dX9_put_0 rfl ?_
  refine r_lld3 2 dX9_put_1 rfl ?_
  obtain ⟨x102, h101, hc, X⟩ := bnd_ok X
  refine r_callS2 5 dX9_put_2 rfl lmX9_87 (mtX9_divisor G hG hc) rfl ⟨(Nat.zero_le _), (Nat.zero_le _)⟩ ?_
  refine r_lld7 7 dX9_put_5 rfl ?_
  obtain ⟨x104, h103, hc, X⟩ := bnd_ok X
  refine r_callS2 10 dX9_put_7 rfl lmX9_87 (mtX9_divisor G hG hc) rfl ⟨(Nat.zero_le _), (Nat.zero_le _)⟩ ?_
  refine r_lst9 12 dX9_put_10 rfl rfl ?_
  refine r_lld7 14 dX9_put_12 rfl ?_
  refine r_lconst 15 _ dX9_put_14 rfl kl_0 ?_
  refine r_lif_ge 25 19 dX9_put_15 dX9_put_16 (by decide) rfl X (fun _ X => ?_) (fun _ X => ?_)
  · refine r_lld9 27 dX9_put_25 rfl ?_
    exact r_cut (wX9_put_27 G hG R _ _ _ _ _ _ _ X) ⟨rfl, ⟨rfl, ⟨rfl, ⟨rfl, ⟨rfl, trivial⟩⟩⟩⟩⟩
  · refine r_lld9 21 dX9_put_19 rfl ?_
    refine r_lneg 22 dX9_put_21 rfl ?_
    refine r_goto 27 dX9_put_22 (by decide) ?_
    exact r_cut (wX9_put_27 G hG R _ _ _ _ _ _ _ X) ⟨rfl, ⟨rfl, ⟨rfl, ⟨rfl, ⟨rfl, trivial⟩⟩⟩⟩⟩
theorem mtX9_put (G : GG) (hG : GT G) {a0 : Nat} {x0 : Int64} {x1 : Int64} {x2 : Int64} {x3 : Int64} {h h' : AH} {v : Int32} (hc : fX9_put a0 x0 x1 x2 x3 h = some (v, h')) : AMet G yX9_put cX9_put 11 (some .int) 3 85 0 0 [.ref (gB G + a0), .long x0, .long x1, .long x2, .long x3] h (some (.int v)) h' :=
  amet_of false [some (.ref (gB G + a0)), some (.long x0), none, some (.long x1), none, some (.long x2), none, some (.long x3), none, none, none] (by decide +kernel) (by decide) (Nat.le_of_ble_eq_true rfl) rfl (Nat.le_of_ble_eq_true rfl) (wX9_put G hG (v, h') _ _ _ _ _ h hc)
abbrev eX9_exactOf (G : GG) (R : Int64 × AH) : EE := eM G 8 (some .long) false 4 115 0 0 (some (.long R.1)) R.2
theorem wX9_exactOf_167 (G : GG) (hG : GT G) (R : Int64 × AH) (l0 : Nat) (l5 : Int32) (l6 : Int64) (s0 : Nat) (s1 : Int32) (s2 : Int64) (s3 : Int64) (s4 : Int64) (s5 : Int64) (s6 : Int64) (s7 : Nat) (s8 : Int32) (s9 : Int32) (h : AH) (X : fX9_exactOf_167 l0 l5 l6 s0 s1 s2 s3 s4 s5 s6 s7 s8 s9 h = some R) : AW (eX9_exactOf G R) RX9 cX9_exactOf 167 [some (.ref (gB G + l0)), none, none, none, none, some (.int l5), some (.long l6), none] [.int s9, .int s8, .ref (gB G + s7), .long s6, .long s5, .long s4, .long s3, .long s2, .int s1, .ref (gB G + s0)] h 0 0 := by
  unfold fX9_exactOf_167 at X
  refine r_iadd 168 dX9_exactOf_167 rfl ?_
  refine r_aL 169 1 dX9_exactOf_168 rfl rfl X (fun x101 X => ?_)
  refine r_lld6 171 dX9_exactOf_169 rfl ?_
  refine r_ild5 173 dX9_exactOf_171 rfl ?_
  obtain ⟨hs, X⟩ := r_cv X
  obtain ⟨_, h102, hc, X⟩ := bnd_ok X
  refine r_callV9v 176 dX9_exactOf_173 rfl lmX9_173 hs (mtX9_exactly G hG hc) rfl ⟨(Nat.zero_le _), (Nat.zero_le _)⟩ ?_
  refine r_ald0 177 dX9_exactOf_176 rfl ?_
  refine r_gI 180 dX9_exactOf_177 rfl lfX9_69 rfl X (fun x103 X => ?_)
  refine r_if_eq 189 183 dX9_exactOf_180 (by decide) rfl X (fun _ X => ?_) (fun _ X => ?_)
  · refine r_ald0 190 dX9_exactOf_189 rfl ?_
    refine r_ald0 191 dX9_exactOf_190 rfl ?_
    refine r_gL 194 dX9_exactOf_191 rfl lfX9_157 rfl X (fun x104 X => ?_)
    refine r_ald0 195 dX9_exactOf_194 rfl ?_
    refine r_gL 198 dX9_exactOf_195 rfl lfX9_160 rfl X (fun x105 X => ?_)
    refine r_ald0 199 dX9_exactOf_198 rfl ?_
    refine r_gL 202 dX9_exactOf_199 rfl lfX9_145 rfl X (fun x106 X => ?_)
    refine r_ald0 203 dX9_exactOf_202 rfl ?_
    refine r_gL 206 dX9_exactOf_203 rfl lfX9_163 rfl X (fun x107 X => ?_)
    obtain ⟨hs, X⟩ := r_cv X
    obtain ⟨x109, h108, hc, X⟩ := bnd_ok X
    refine r_callV4 209 dX9_exactOf_206 rfl lmX9_129 hs (mtX9_put G hG hc) rfl ⟨(Nat.zero_le _), (Nat.zero_le _)⟩ ?_
    refine r_i2l 210 dX9_exactOf_209 rfl ?_
    exact r_retL dX9_exactOf_210 (Nat.zero_le _) (Nat.zero_le _) X
  · refine r_ldc2 186 dX9_exactOf_183 rfl lkX9_177 ?_
    refine r_goto 210 dX9_exactOf_186 (by decide) ?_
    exact r_retL dX9_exactOf_210 (Nat.zero_le _) (Nat.zero_le _) X
theorem wX9_exactOf_121 (G : GG) (hG : GT G) (R : Int64 × AH) (l0 : Nat) (l3 : Int32) (l5 : Int32) (l6 : Int64) (s0 : Nat) (s1 : Int32) (s2 : Int64) (s3 : Int64) (s4 : Nat) (s5 : Int32) (s6 : Int32) (h : AH) (X : fX9_exactOf_121 l0 l3 l5 l6 s0 s1 s2 s3 s4 s5 s6 h = some R) : AW (eX9_exactOf G R) RX9 cX9_exactOf 121 [some (.ref (gB G + l0)), none, none, some (.int l3), none, some (.int l5), some (.long l6), none] [.int s6, .int s5, .ref (gB G + s4), .long s3, .long s2, .int s1, .ref (gB G + s0)] h 0 0 := by
  unfold fX9_exactOf_121 at X
  refine r_iadd 122 dX9_exactOf_121 rfl ?_
  refine r_aL 123 1 dX9_exactOf_122 rfl rfl X (fun x101 X => ?_)
  refine r_ald0 124 dX9_exactOf_123 rfl ?_
  refine r_gR 127 dX9_exactOf_124 rfl lfX9_30 rfl X (fun b102 X => ?_)
  refine r_iconst 128 _ dX9_exactOf_127 rfl ki_4 ?_
  refine r_ild3 129 dX9_exactOf_128 rfl ?_
  refine r_imul 130 dX9_exactOf_129 rfl ?_
  refine r_aL 131 1 dX9_exactOf_130 rfl rfl X (fun x103 X => ?_)
  refine r_ild5 133 dX9_exactOf_131 rfl ?_
  refine r_if_eq 149 136 dX9_exactOf_133 (by decide) rfl X (fun _ X => ?_) (fun _ X => ?_)
  · refine r_lconst 150 _ dX9_exactOf_149 rfl kl_0 ?_
    refine r_ald0 151 dX9_exactOf_150 rfl ?_
    refine r_gR 154 dX9_exactOf_151 rfl lfX9_30 rfl X (fun b104 X => ?_)
    refine r_iconst 155 _ dX9_exactOf_154 rfl ki_4 ?_
    refine r_ild3 156 dX9_exactOf_155 rfl ?_
    refine r_imul 157 dX9_exactOf_156 rfl ?_
    refine r_ild5 159 dX9_exactOf_157 rfl ?_
    refine r_if_eq 166 162 dX9_exactOf_159 (by decide) rfl X (fun _ X => ?_) (fun _ X => ?_)
    · refine r_iconst 167 _ dX9_exactOf_166 rfl ki_1 ?_
      exact r_cut (wX9_exactOf_167 G hG R _ _ _ _ _ _ _ _ _ _ _ _ _ _ X) ⟨rfl, ⟨rfl, ⟨rfl, trivial⟩⟩⟩
    · refine r_iconst 163 _ dX9_exactOf_162 rfl ki_3 ?_
      refine r_goto 167 dX9_exactOf_163 (by decide) ?_
      exact r_cut (wX9_exactOf_167 G hG R _ _ _ _ _ _ _ _ _ _ _ _ _ _ X) ⟨rfl, ⟨rfl, ⟨rfl, trivial⟩⟩⟩
  · refine r_ald0 137 dX9_exactOf_136 rfl ?_
    refine r_gR 140 dX9_exactOf_137 rfl lfX9_30 rfl X (fun b105 X => ?_)
    refine r_iconst 141 _ dX9_exactOf_140 rfl ki_4 ?_
    refine r_ild3 142 dX9_exactOf_141 rfl ?_
    refine r_imul 143 dX9_exactOf_142 rfl ?_
    refine r_iconst 144 _ dX9_exactOf_143 rfl ki_1 ?_
    refine r_iadd 145 dX9_exactOf_144 rfl ?_
    refine r_aL 146 1 dX9_exactOf_145 rfl rfl X (fun x106 X => ?_)
    refine r_goto 150 dX9_exactOf_146 (by decide) ?_
    refine r_ald0 151 dX9_exactOf_150 rfl ?_
    refine r_gR 154 dX9_exactOf_151 rfl lfX9_30 rfl X (fun b107 X => ?_)
    refine r_iconst 155 _ dX9_exactOf_154 rfl ki_4 ?_
    refine r_ild3 156 dX9_exactOf_155 rfl ?_
    refine r_imul 157 dX9_exactOf_156 rfl ?_
    refine r_ild5 159 dX9_exactOf_157 rfl ?_
    refine r_if_eq 166 162 dX9_exactOf_159 (by decide) rfl X (fun _ X => ?_) (fun _ X => ?_)
    · refine r_iconst 167 _ dX9_exactOf_166 rfl ki_1 ?_
      exact r_cut (wX9_exactOf_167 G hG R _ _ _ _ _ _ _ _ _ _ _ _ _ _ X) ⟨rfl, ⟨rfl, ⟨rfl, trivial⟩⟩⟩
    · refine r_iconst 163 _ dX9_exactOf_162 rfl ki_3 ?_
      refine r_goto 167 dX9_exactOf_163 (by decide) ?_
      exact r_cut (wX9_exactOf_167 G hG R _ _ _ _ _ _ _ _ _ _ _ _ _ _ X) ⟨rfl, ⟨rfl, ⟨rfl, trivial⟩⟩⟩
theorem wX9_exactOf_73 (G : GG) (hG : GT G) (R : Int64 × AH) (l0 : Nat) (l1 : Int32) (l2 : Int32) (l3 : Int32) (l4 : Int32) (l5 : Int32) (s0 : Int64) (h : AH) (X : fX9_exactOf_73 l0 l1 l2 l3 l4 l5 s0 h = some R) : AW (eX9_exactOf G R) RX9 cX9_exactOf 73 [some (.ref (gB G + l0)), some (.int l1), some (.int l2), some (.int l3), some (.int l4), some (.int l5), none, none] [.long s0] h 0 0 := by
  unfold fX9_exactOf_73 at X
  refine r_lst6 75 dX9_exactOf_73 rfl rfl ?_
  refine r_ald0 76 dX9_exactOf_75 rfl ?_
  refine r_ild1 77 dX9_exactOf_76 rfl ?_
  refine r_ald0 78 dX9_exactOf_77 rfl ?_
  refine r_gR 81 dX9_exactOf_78 rfl lfX9_30 rfl X (fun b101 X => ?_)
  refine r_iconst 82 _ dX9_exactOf_81 rfl ki_4 ?_
  refine r_ild2 83 dX9_exactOf_82 rfl ?_
  refine r_imul 84 dX9_exactOf_83 rfl ?_
  refine r_aL 85 1 dX9_exactOf_84 rfl rfl X (fun x102 X => ?_)
  refine r_ild4 87 dX9_exactOf_85 rfl ?_
  refine r_if_eq 103 90 dX9_exactOf_87 (by decide) rfl X (fun _ X => ?_) (fun _ X => ?_)
  · refine r_lconst 104 _ dX9_exactOf_103 rfl kl_0 ?_
    refine r_ald0 105 dX9_exactOf_104 rfl ?_
    refine r_gR 108 dX9_exactOf_105 rfl lfX9_30 rfl X (fun b103 X => ?_)
    refine r_iconst 109 _ dX9_exactOf_108 rfl ki_4 ?_
    refine r_ild2 110 dX9_exactOf_109 rfl ?_
    refine r_imul 111 dX9_exactOf_110 rfl ?_
    refine r_ild4 113 dX9_exactOf_111 rfl ?_
    refine r_if_eq 120 116 dX9_exactOf_113 (by decide) rfl X (fun _ X => ?_) (fun _ X => ?_)
    · refine r_iconst 121 _ dX9_exactOf_120 rfl ki_1 ?_
      exact r_cut (wX9_exactOf_121 G hG R _ _ _ _ _ _ _ _ _ _ _ _ X) ⟨rfl, ⟨rfl, ⟨rfl, ⟨rfl, trivial⟩⟩⟩⟩
    · refine r_iconst 117 _ dX9_exactOf_116 rfl ki_3 ?_
      refine r_goto 121 dX9_exactOf_117 (by decide) ?_
      exact r_cut (wX9_exactOf_121 G hG R _ _ _ _ _ _ _ _ _ _ _ _ X) ⟨rfl, ⟨rfl, ⟨rfl, ⟨rfl, trivial⟩⟩⟩⟩
  · refine r_ald0 91 dX9_exactOf_90 rfl ?_
    refine r_gR 94 dX9_exactOf_91 rfl lfX9_30 rfl X (fun b104 X => ?_)
    refine r_iconst 95 _ dX9_exactOf_94 rfl ki_4 ?_
    refine r_ild2 96 dX9_exactOf_95 rfl ?_
    refine r_imul 97 dX9_exactOf_96 rfl ?_
    refine r_iconst 98 _ dX9_exactOf_97 rfl ki_1 ?_
    refine r_iadd 99 dX9_exactOf_98 rfl ?_
    refine r_aL 100 1 dX9_exactOf_99 rfl rfl X (fun x105 X => ?_)
    refine r_goto 104 dX9_exactOf_100 (by decide) ?_
    refine r_ald0 105 dX9_exactOf_104 rfl ?_
    refine r_gR 108 dX9_exactOf_105 rfl lfX9_30 rfl X (fun b106 X => ?_)
    refine r_iconst 109 _ dX9_exactOf_108 rfl ki_4 ?_
    refine r_ild2 110 dX9_exactOf_109 rfl ?_
    refine r_imul 111 dX9_exactOf_110 rfl ?_
    refine r_ild4 113 dX9_exactOf_111 rfl ?_
    refine r_if_eq 120 116 dX9_exactOf_113 (by decide) rfl X (fun _ X => ?_) (fun _ X => ?_)
    · refine r_iconst 121 _ dX9_exactOf_120 rfl ki_1 ?_
      exact r_cut (wX9_exactOf_121 G hG R _ _ _ _ _ _ _ _ _ _ _ _ X) ⟨rfl, ⟨rfl, ⟨rfl, ⟨rfl, trivial⟩⟩⟩⟩
    · refine r_iconst 117 _ dX9_exactOf_116 rfl ki_3 ?_
      refine r_goto 121 dX9_exactOf_117 (by decide) ?_
      exact r_cut (wX9_exactOf_121 G hG R _ _ _ _ _ _ _ _ _ _ _ _ X) ⟨rfl, ⟨rfl, ⟨rfl, ⟨rfl, trivial⟩⟩⟩⟩
theorem wX9_exactOf_32 (G : GG) (hG : GT G) (R : Int64 × AH) (l0 : Nat) (l1 : Int32) (l2 : Int32) (l3 : Int32) (l4 : Int32) (s0 : Int32) (h : AH) (X : fX9_exactOf_32 l0 l1 l2 l3 l4 s0 h = some R) : AW (eX9_exactOf G R) RX9 cX9_exactOf 32 [some (.ref (gB G + l0)), some (.int l1), some (.int l2), some (.int l3), some (.int l4), none, none, none] [.int s0] h 0 0 := by
  unfold fX9_exactOf_32 at X
  refine r_ist5 34 dX9_exactOf_32 rfl rfl ?_
  refine r_ild4 36 dX9_exactOf_34 rfl ?_
  refine r_if_eq 52 39 dX9_exactOf_36 (by decide) rfl X (fun _ X => ?_) (fun _ X => ?_)
  · refine r_ild5 54 dX9_exactOf_52 rfl ?_
    refine r_if_eq 70 57 dX9_exactOf_54 (by decide) rfl X (fun _ X => ?_) (fun _ X => ?_)
    · refine r_ldc2 73 dX9_exactOf_70 rfl lkX9_102 ?_
      exact r_cut (wX9_exactOf_73 G hG R _ _ _ _ _ _ _ _ X) ⟨rfl, ⟨rfl, ⟨rfl, ⟨rfl, ⟨rfl, ⟨rfl, trivial⟩⟩⟩⟩⟩⟩
    · refine r_ald0 58 dX9_exactOf_57 rfl ?_
      refine r_gR 61 dX9_exactOf_58 rfl lfX9_30 rfl X (fun b101 X => ?_)
      refine r_iconst 62 _ dX9_exactOf_61 rfl ki_4 ?_
      refine r_ild3 63 dX9_exactOf_62 rfl ?_
      refine r_imul 64 dX9_exactOf_63 rfl ?_
      refine r_iconst 65 _ dX9_exactOf_64 rfl ki_2 ?_
      refine r_iadd 66 dX9_exactOf_65 rfl ?_
      refine r_aL 67 1 dX9_exactOf_66 rfl rfl X (fun x102 X => ?_)
      refine r_goto 73 dX9_exactOf_67 (by decide) ?_
      exact r_cut (wX9_exactOf_73 G hG R _ _ _ _ _ _ _ _ X) ⟨rfl, ⟨rfl, ⟨rfl, ⟨rfl, ⟨rfl, ⟨rfl, trivial⟩⟩⟩⟩⟩⟩
  · refine r_ald0 40 dX9_exactOf_39 rfl ?_
    refine r_gR 43 dX9_exactOf_40 rfl lfX9_30 rfl X (fun b103 X => ?_)
    refine r_iconst 44 _ dX9_exactOf_43 rfl ki_4 ?_
    refine r_ild2 45 dX9_exactOf_44 rfl ?_
    refine r_imul 46 dX9_exactOf_45 rfl ?_
    refine r_iconst 47 _ dX9_exactOf_46 rfl ki_2 ?_
    refine r_iadd 48 dX9_exactOf_47 rfl ?_
    refine r_aL 49 1 dX9_exactOf_48 rfl rfl X (fun x104 X => ?_)
    refine r_goto 73 dX9_exactOf_49 (by decide) ?_
    exact r_cut (wX9_exactOf_73 G hG R _ _ _ _ _ _ _ _ X) ⟨rfl, ⟨rfl, ⟨rfl, ⟨rfl, ⟨rfl, ⟨rfl, trivial⟩⟩⟩⟩⟩⟩
theorem wX9_exactOf (G : GG) (hG : GT G) (R : Int64 × AH) (a0 : Nat) (x0 : Int32) (x1 : Int32) (x2 : Int32) (h : AH) (X : fX9_exactOf a0 x0 x1 x2 h = some R) : AW (eX9_exactOf G R) RX9 cX9_exactOf 0 [some (.ref (gB G + a0)), some (.int x0), some (.int x1), some (.int x2), none, none, none, none] [] h 0 0 := by
  unfold fX9_exactOf at X
  refine r_ald0 1 dX9_exactOf_0 rfl ?_
  refine r_gR 4 dX9_exactOf_1 rfl lfX9_13 rfl X (fun b101 X => ?_)
  refine r_ild2 5 dX9_exactOf_4 rfl ?_
  refine r_aI 6 0 dX9_exactOf_5 rfl rfl X (fun x102 X => ?_)
  refine r_iconst 7 _ dX9_exactOf_6 rfl ki_1 ?_
  refine r_icmp_ne 14 10 dX9_exactOf_7 (by decide) rfl X (fun _ X => ?_) (fun _ X => ?_)
  · refine r_iconst 15 _ dX9_exactOf_14 rfl ki_0 ?_
    refine r_ist4 17 dX9_exactOf_15 rfl rfl ?_
    refine r_ald0 18 dX9_exactOf_17 rfl ?_
    refine r_gR 21 dX9_exactOf_18 rfl lfX9_13 rfl X (fun b103 X => ?_)
    refine r_ild3 22 dX9_exactOf_21 rfl ?_
    refine r_aI 23 0 dX9_exactOf_22 rfl rfl X (fun x104 X => ?_)
    refine r_iconst 24 _ dX9_exactOf_23 rfl ki_1 ?_
    refine r_icmp_ne 31 27 dX9_exactOf_24 (by decide) rfl X (fun _ X => ?_) (fun _ X => ?_)
    · refine r_iconst 32 _ dX9_exactOf_31 rfl ki_0 ?_
      exact r_cut (wX9_exactOf_32 G hG R _ _ _ _ _ _ _ X) ⟨rfl, ⟨rfl, ⟨rfl, ⟨rfl, ⟨rfl, trivial⟩⟩⟩⟩⟩
    · refine r_iconst 28 _ dX9_exactOf_27 rfl ki_1 ?_
      refine r_goto 32 dX9_exactOf_28 (by decide) ?_
      exact r_cut (wX9_exactOf_32 G hG R _ _ _ _ _ _ _ X) ⟨rfl, ⟨rfl, ⟨rfl, ⟨rfl, ⟨rfl, trivial⟩⟩⟩⟩⟩
  · refine r_iconst 11 _ dX9_exactOf_10 rfl ki_1 ?_
    refine r_goto 15 dX9_exactOf_11 (by decide) ?_
    refine r_ist4 17 dX9_exactOf_15 rfl rfl ?_
    refine r_ald0 18 dX9_exactOf_17 rfl ?_
    refine r_gR 21 dX9_exactOf_18 rfl lfX9_13 rfl X (fun b105 X => ?_)
    refine r_ild3 22 dX9_exactOf_21 rfl ?_
    refine r_aI 23 0 dX9_exactOf_22 rfl rfl X (fun x106 X => ?_)
    refine r_iconst 24 _ dX9_exactOf_23 rfl ki_1 ?_
    refine r_icmp_ne 31 27 dX9_exactOf_24 (by decide) rfl X (fun _ X => ?_) (fun _ X => ?_)
    · refine r_iconst 32 _ dX9_exactOf_31 rfl ki_0 ?_
      exact r_cut (wX9_exactOf_32 G hG R _ _ _ _ _ _ _ X) ⟨rfl, ⟨rfl, ⟨rfl, ⟨rfl, ⟨rfl, trivial⟩⟩⟩⟩⟩
    · refine r_iconst 28 _ dX9_exactOf_27 rfl ki_1 ?_
      refine r_goto 32 dX9_exactOf_28 (by decide) ?_
      exact r_cut (wX9_exactOf_32 G hG R _ _ _ _ _ _ _ X) ⟨rfl, ⟨rfl, ⟨rfl, ⟨rfl, ⟨rfl, trivial⟩⟩⟩⟩⟩
theorem mtX9_exactOf (G : GG) (hG : GT G) {a0 : Nat} {x0 : Int32} {x1 : Int32} {x2 : Int32} {h h' : AH} {v : Int64} (hc : fX9_exactOf a0 x0 x1 x2 h = some (v, h')) : AMet G yX9_exactOf cX9_exactOf 8 (some .long) 4 115 0 0 [.ref (gB G + a0), .int x0, .int x1, .int x2] h (some (.long v)) h' :=
  amet_of false [some (.ref (gB G + a0)), some (.int x0), some (.int x1), some (.int x2), none, none, none, none] (by decide +kernel) (by decide) (Nat.le_of_ble_eq_true rfl) rfl (Nat.le_of_ble_eq_true rfl) (wX9_exactOf G hG (v, h') _ _ _ _ h hc)
abbrev eX9_in (G : GG) (R : Int32 × AH) : EE := eM G 6 (some .boolean) false 0 0 0 0 (some (.int R.1)) R.2
theorem wX9_in (G : GG) (hG : GT G) (R : Int32 × AH) (x0 : Int64) (x1 : Int64) (x2 : Int64) (h : AH) (X : fX9_in x0 x1 x2 h = some R) : AW (eX9_in G R) RX9 cX9_in 0 [some (.long x0), none, some (.long x1), none, some (.long x2), none] [] h 0 0 := by
  unfold fX9_in at X
  refine r_lld0 1 dX9_in_0 rfl ?_
  refine r_lld2 2 dX9_in_1 rfl ?_
  refine r_lif_lt 17 6 dX9_in_2 dX9_in_3 (by decide) rfl X (fun _ X => ?_) (fun _ X => ?_)
  · refine r_iconst 18 _ dX9_in_17 rfl ki_0 ?_
    exact r_ret0 dX9_in_18 (Nat.zero_le _) (Nat.zero_le _) X
  · refine r_lld0 7 dX9_in_6 rfl ?_
    refine r_lld4 9 dX9_in_7 rfl ?_
    refine r_lif_gt 17 13 dX9_in_9 dX9_in_10 (by decide) rfl X (fun _ X => ?_) (fun _ X => ?_)
    · refine r_iconst 18 _ dX9_in_17 rfl ki_0 ?_
      exact r_ret0 dX9_in_18 (Nat.zero_le _) (Nat.zero_le _) X
    · refine r_iconst 14 _ dX9_in_13 rfl ki_1 ?_
      refine r_goto 18 dX9_in_14 (by decide) ?_
      exact r_ret1 dX9_in_18 (Nat.zero_le _) (Nat.zero_le _) X
theorem mtX9_in (G : GG) (hG : GT G) {x0 : Int64} {x1 : Int64} {x2 : Int64} {h h' : AH} {v : Int32} (hc : fX9_in x0 x1 x2 h = some (v, h')) : AMet G yX9_in cX9_in 6 (some .boolean) 0 0 0 0 [.long x0, .long x1, .long x2] h (some (.int v)) h' :=
  amet_of false [some (.long x0), none, some (.long x1), none, some (.long x2), none] (by decide +kernel) (by decide) (Nat.le_of_ble_eq_true rfl) rfl (Nat.le_of_ble_eq_true rfl) (wX9_in G hG (v, h') _ _ _ h hc)
abbrev eX9_isExact (G : GG) (R : Int32 × AH) : EE := eM G 3 (some .boolean) false 0 0 0 0 (some (.int R.1)) R.2
theorem wX9_isExact (G : GG) (hG : GT G) (R : Int32 × AH) (a0 : Nat) (x0 : Int32) (x1 : Int32) (h : AH) (X : fX9_isExact a0 x0 x1 h = some R) : AW (eX9_isExact G R) RX9 cX9_isExact 0 [some (.ref (gB G + a0)), some (.int x0), some (.int x1)] [] h 0 0 := by
  unfold fX9_isExact at X
  refine r_ald0 1 dX9_isExact_0 rfl ?_
  refine r_gR 4 dX9_isExact_1 rfl lfX9_13 rfl X (fun b101 X => ?_)
  refine r_ild1 5 dX9_isExact_4 rfl ?_
  refine r_aI 6 0 dX9_isExact_5 rfl rfl X (fun x102 X => ?_)
  refine r_iconst 7 _ dX9_isExact_6 rfl ki_1 ?_
  refine r_icmp_gt 20 10 dX9_isExact_7 (by decide) rfl X (fun _ X => ?_) (fun _ X => ?_)
  · refine r_iconst 21 _ dX9_isExact_20 rfl ki_0 ?_
    exact r_ret0 dX9_isExact_21 (Nat.zero_le _) (Nat.zero_le _) X
  · refine r_ald0 11 dX9_isExact_10 rfl ?_
    refine r_gR 14 dX9_isExact_11 rfl lfX9_13 rfl X (fun b103 X => ?_)
    refine r_ild2 15 dX9_isExact_14 rfl ?_
    refine r_aI 16 0 dX9_isExact_15 rfl rfl X (fun x104 X => ?_)
    refine r_iconst 17 _ dX9_isExact_16 rfl ki_1 ?_
    refine r_icmp_le 22 20 dX9_isExact_17 (by decide) rfl X (fun _ X => ?_) (fun _ X => ?_)
    · refine r_ald0 23 dX9_isExact_22 rfl ?_
      refine r_gR 26 dX9_isExact_23 rfl lfX9_13 rfl X (fun b105 X => ?_)
      refine r_ild1 27 dX9_isExact_26 rfl ?_
      refine r_aI 28 0 dX9_isExact_27 rfl rfl X (fun x106 X => ?_)
      refine r_if_eq 64 31 dX9_isExact_28 (by decide) rfl X (fun _ X => ?_) (fun _ X => ?_)
      · refine r_iconst 65 _ dX9_isExact_64 rfl ki_1 ?_
        refine r_goto 69 dX9_isExact_65 (by decide) ?_
        exact r_ret1 dX9_isExact_69 (Nat.zero_le _) (Nat.zero_le _) X
      · refine r_ald0 32 dX9_isExact_31 rfl ?_
        refine r_gR 35 dX9_isExact_32 rfl lfX9_13 rfl X (fun b107 X => ?_)
        refine r_ild2 36 dX9_isExact_35 rfl ?_
        refine r_aI 37 0 dX9_isExact_36 rfl rfl X (fun x108 X => ?_)
        refine r_if_eq 64 40 dX9_isExact_37 (by decide) rfl X (fun _ X => ?_) (fun _ X => ?_)
        · refine r_iconst 65 _ dX9_isExact_64 rfl ki_1 ?_
          refine r_goto 69 dX9_isExact_65 (by decide) ?_
          exact r_ret1 dX9_isExact_69 (Nat.zero_le _) (Nat.zero_le _) X
        · refine r_ald0 41 dX9_isExact_40 rfl ?_
          refine r_gR 44 dX9_isExact_41 rfl lfX9_30 rfl X (fun b109 X => ?_)
          refine r_iconst 45 _ dX9_isExact_44 rfl ki_4 ?_
          refine r_ild1 46 dX9_isExact_45 rfl ?_
          refine r_imul 47 dX9_isExact_46 rfl ?_
          refine r_iconst 48 _ dX9_isExact_47 rfl ki_2 ?_
          refine r_iadd 49 dX9_isExact_48 rfl ?_
          refine r_aL 50 1 dX9_isExact_49 rfl rfl X (fun x110 X => ?_)
          refine r_ald0 51 dX9_isExact_50 rfl ?_
          refine r_gR 54 dX9_isExact_51 rfl lfX9_30 rfl X (fun b111 X => ?_)
          refine r_iconst 55 _ dX9_isExact_54 rfl ki_4 ?_
          refine r_ild2 56 dX9_isExact_55 rfl ?_
          refine r_imul 57 dX9_isExact_56 rfl ?_
          refine r_iconst 58 _ dX9_isExact_57 rfl ki_2 ?_
          refine r_iadd 59 dX9_isExact_58 rfl ?_
          refine r_aL 60 1 dX9_isExact_59 rfl rfl X (fun x112 X => ?_)
          refine r_lif_ne 68 64 dX9_isExact_60 dX9_isExact_61 (by decide) rfl X (fun _ X => ?_) (fun _ X => ?_)
          · refine r_iconst 69 _ dX9_isExact_68 rfl ki_0 ?_
            exact r_ret0 dX9_isExact_69 (Nat.zero_le _) (Nat.zero_le _) X
          · refine r_iconst 65 _ dX9_isExact_64 rfl ki_1 ?_
            refine r_goto 69 dX9_isExact_65 (by decide) ?_
            exact r_ret1 dX9_isExact_69 (Nat.zero_le _) (Nat.zero_le _) X
    · refine r_iconst 21 _ dX9_isExact_20 rfl ki_0 ?_
      exact r_ret0 dX9_isExact_21 (Nat.zero_le _) (Nat.zero_le _) X
theorem mtX9_isExact (G : GG) (hG : GT G) {a0 : Nat} {x0 : Int32} {x1 : Int32} {h h' : AH} {v : Int32} (hc : fX9_isExact a0 x0 x1 h = some (v, h')) : AMet G yX9_isExact cX9_isExact 3 (some .boolean) 0 0 0 0 [.ref (gB G + a0), .int x0, .int x1] h (some (.int v)) h' :=
  amet_of false [some (.ref (gB G + a0)), some (.int x0), some (.int x1)] (by decide +kernel) (by decide) (Nat.le_of_ble_eq_true rfl) rfl (Nat.le_of_ble_eq_true rfl) (wX9_isExact G hG (v, h') _ _ _ h hc)
abbrev eX9_isNought (G : GG) (R : Int32 × AH) : EE := eM G 2 (some .boolean) false 0 0 0 0 (some (.int R.1)) R.2
theorem wX9_isNought (G : GG) (hG : GT G) (R : Int32 × AH) (a0 : Nat) (x0 : Int32) (h : AH) (X : fX9_isNought a0 x0 h = some R) : AW (eX9_isNought G R) RX9 cX9_isNought 0 [some (.ref (gB G + a0)), some (.int x0)] [] h 0 0 := by
  unfold fX9_isNought at X
  refine r_ald0 1 dX9_isNought_0 rfl ?_
  refine r_gR 4 dX9_isNought_1 rfl lfX9_13 rfl X (fun b101 X => ?_)
  refine r_ild1 5 dX9_isNought_4 rfl ?_
  refine r_aI 6 0 dX9_isNought_5 rfl rfl X (fun x102 X => ?_)
  refine r_if_ne 26 9 dX9_isNought_6 (by decide) rfl X (fun _ X => ?_) (fun _ X => ?_)
  · refine r_iconst 27 _ dX9_isNought_26 rfl ki_0 ?_
    exact r_ret0 dX9_isNought_27 (Nat.zero_le _) (Nat.zero_le _) X
  · refine r_ald0 10 dX9_isNought_9 rfl ?_
    refine r_gR 13 dX9_isNought_10 rfl lfX9_30 rfl X (fun b103 X => ?_)
    refine r_iconst 14 _ dX9_isNought_13 rfl ki_4 ?_
    refine r_ild1 15 dX9_isNought_14 rfl ?_
    refine r_imul 16 dX9_isNought_15 rfl ?_
    refine r_aL 17 1 dX9_isNought_16 rfl rfl X (fun x104 X => ?_)
    refine r_lconst 18 _ dX9_isNought_17 rfl kl_0 ?_
    refine r_lif_ne 26 22 dX9_isNought_18 dX9_isNought_19 (by decide) rfl X (fun _ X => ?_) (fun _ X => ?_)
    · refine r_iconst 27 _ dX9_isNought_26 rfl ki_0 ?_
      exact r_ret0 dX9_isNought_27 (Nat.zero_le _) (Nat.zero_le _) X
    · refine r_iconst 23 _ dX9_isNought_22 rfl ki_1 ?_
      refine r_goto 27 dX9_isNought_23 (by decide) ?_
      exact r_ret1 dX9_isNought_27 (Nat.zero_le _) (Nat.zero_le _) X
theorem mtX9_isNought (G : GG) (hG : GT G) {a0 : Nat} {x0 : Int32} {h h' : AH} {v : Int32} (hc : fX9_isNought a0 x0 h = some (v, h')) : AMet G yX9_isNought cX9_isNought 2 (some .boolean) 0 0 0 0 [.ref (gB G + a0), .int x0] h (some (.int v)) h' :=
  amet_of false [some (.ref (gB G + a0)), some (.int x0)] (by decide +kernel) (by decide) (Nat.le_of_ble_eq_true rfl) rfl (Nat.le_of_ble_eq_true rfl) (wX9_isNought G hG (v, h') _ _ h hc)
abbrev eX9_agree (G : GG) (R : Int32 × AH) : EE := eM G 3 (some .boolean) false 1 25 0 0 (some (.int R.1)) R.2
theorem wX9_agree_76 (G : GG) (hG : GT G) (R : Int32 × AH) {K76 : Nat → Int32 → Int32 → AH → Fn Int32} (hK76 : ∀ (l0 : Nat) (l1 : Int32) (l2 : Int32) (h : AH), K76 l0 l1 l2 h = some R → AW (eX9_agree G R) RX9 cX9_agree 76 [some (.ref (gB G + l0)), some (.int l1), some (.int l2)] [] h 0 0) (l0 : Nat) (l1 : Int32) (l2 : Int32) (h : AH) (X : fX9_agree_76 K76 l0 l1 l2 h = some R) : AW (eX9_agree G R) RX9 cX9_agree 76 [some (.ref (gB G + l0)), some (.int l1), some (.int l2)] [] h 0 0 := by
  unfold fX9_agree_76 at X
  refine r_ild2 77 dX9_agree_76 rfl ?_
  refine r_ald0 78 dX9_agree_77 rfl ?_
  refine r_gI 81 dX9_agree_78 rfl lfX9_214 rfl X (fun x101 X => ?_)
  refine r_icmp_ge 134 84 dX9_agree_81 (by decide) rfl X (fun _ X => ?_) (fun _ X => ?_)
  · refine r_ild1 135 dX9_agree_134 rfl ?_
    exact r_retZ dX9_agree_135 (Nat.zero_le _) (Nat.zero_le _) X
  · refine r_ild1 85 dX9_agree_84 rfl ?_
    refine r_if_eq 134 88 dX9_agree_85 (by decide) rfl X (fun _ X => ?_) (fun _ X => ?_)
    · refine r_ild1 135 dX9_agree_134 rfl ?_
      exact r_retZ dX9_agree_135 (Nat.zero_le _) (Nat.zero_le _) X
    · refine r_ald0 89 dX9_agree_88 rfl ?_
      refine r_gR 92 dX9_agree_89 rfl lfX9_57 rfl X (fun b102 X => ?_)
      refine r_ild2 93 dX9_agree_92 rfl ?_
      refine r_aL 94 1 dX9_agree_93 rfl rfl X (fun x103 X => ?_)
      refine r_ald0 95 dX9_agree_94 rfl ?_
      refine r_gR 98 dX9_agree_95 rfl lfX9_60 rfl X (fun b104 X => ?_)
      refine r_ild2 99 dX9_agree_98 rfl ?_
      refine r_aL 100 1 dX9_agree_99 rfl rfl X (fun x105 X => ?_)
      obtain ⟨x107, h106, hc, X⟩ := bnd_ok X
      refine r_callS2 103 dX9_agree_100 rfl lmX9_91 (mtX9_floor G hG hc) rfl ⟨(Nat.zero_le _), (Nat.zero_le _)⟩ ?_
      refine r_ald0 104 dX9_agree_103 rfl ?_
      refine r_gR 107 dX9_agree_104 rfl lfX9_57 rfl X (fun b108 X => ?_)
      refine r_iconst 108 _ dX9_agree_107 rfl ki_0 ?_
      refine r_aL 109 1 dX9_agree_108 rfl rfl X (fun x109 X => ?_)
      refine r_ald0 110 dX9_agree_109 rfl ?_
      refine r_gR 113 dX9_agree_110 rfl lfX9_60 rfl X (fun b110 X => ?_)
      refine r_iconst 114 _ dX9_agree_113 rfl ki_0 ?_
      refine r_aL 115 1 dX9_agree_114 rfl rfl X (fun x111 X => ?_)
      obtain ⟨x113, h112, hc, X⟩ := bnd_ok X
      refine r_callS2 118 dX9_agree_115 rfl lmX9_91 (mtX9_floor G hG hc) rfl ⟨(Nat.zero_le _), (Nat.zero_le _)⟩ ?_
      refine r_lif_ne 126 122 dX9_agree_118 dX9_agree_119 (by decide) rfl X (fun _ X => ?_) (fun _ X => ?_)
      · refine r_iconst 127 _ dX9_agree_126 rfl ki_0 ?_
        refine r_ist1 128 dX9_agree_127 rfl rfl ?_
        refine r_iinc2w 131 dX9_agree_128 rfl rfl ki_1 X (fun x114 X => ?_)
        refine r_goto 76 dX9_agree_131 (by decide) ?_
        exact r_cut (hK76 _ _ _ _ X) ⟨rfl, ⟨rfl, ⟨rfl, trivial⟩⟩⟩
      · refine r_iconst 123 _ dX9_agree_122 rfl ki_1 ?_
        refine r_goto 127 dX9_agree_123 (by decide) ?_
        refine r_ist1 128 dX9_agree_127 rfl rfl ?_
        refine r_iinc2w 131 dX9_agree_128 rfl rfl ki_1 X (fun x115 X => ?_)
        refine r_goto 76 dX9_agree_131 (by decide) ?_
        exact r_cut (hK76 _ _ _ _ X) ⟨rfl, ⟨rfl, ⟨rfl, trivial⟩⟩⟩
theorem wX9_agree_76L (G : GG) (hG : GT G) (R : Int32 × AH) : ∀ (m : Nat) (l0 : Nat) (l1 : Int32) (l2 : Int32) (h : AH), fX9_agree_76L m l0 l1 l2 h = some R → AW (eX9_agree G R) RX9 cX9_agree 76 [some (.ref (gB G + l0)), some (.int l1), some (.int l2)] [] h 0 0 := by
  intro m
  induction m with
  | zero => intro l0 l1 l2 h X; exact nomatch (show (none : Fn Int32) = some R from X)
  | succ m ih => intro l0 l1 l2 h X; exact wX9_agree_76 G hG R ih l0 l1 l2 h X
theorem wX9_agree_43 (G : GG) (hG : GT G) (R : Int32 × AH) {K4 : Nat → Int32 → Int32 → AH → Fn Int32} (hK4 : ∀ (l0 : Nat) (l1 : Int32) (l2 : Int32) (h : AH), K4 l0 l1 l2 h = some R → AW (eX9_agree G R) RX9 cX9_agree 4 [some (.ref (gB G + l0)), some (.int l1), some (.int l2)] [] h 0 0) (l0 : Nat) (l2 : Int32) (s0 : Int32) (h : AH) (X : fX9_agree_43 K4 l0 l2 s0 h = some R) : AW (eX9_agree G R) RX9 cX9_agree 43 [some (.ref (gB G + l0)), none, some (.int l2)] [.int s0] h 0 0 := by
  unfold fX9_agree_43 at X
  refine r_ald0 44 dX9_agree_43 rfl ?_
  refine r_gR 47 dX9_agree_44 rfl lfX9_60 rfl X (fun b101 X => ?_)
  refine r_iconst 48 _ dX9_agree_47 rfl ki_0 ?_
  refine r_aL 49 1 dX9_agree_48 rfl rfl X (fun x102 X => ?_)
  refine r_lconst 50 _ dX9_agree_49 rfl kl_0 ?_
  refine r_lif_ge 58 54 dX9_agree_50 dX9_agree_51 (by decide) rfl X (fun _ X => ?_) (fun _ X => ?_)
  · refine r_iconst 59 _ dX9_agree_58 rfl ki_0 ?_
    refine r_icmp_ne 66 62 dX9_agree_59 (by decide) rfl X (fun _ X => ?_) (fun _ X => ?_)
    · refine r_iconst 67 _ dX9_agree_66 rfl ki_0 ?_
      refine r_ist1 68 dX9_agree_67 rfl rfl ?_
      refine r_iinc2w 71 dX9_agree_68 rfl rfl ki_1 X (fun x103 X => ?_)
      refine r_goto 4 dX9_agree_71 (by decide) ?_
      exact r_cut (hK4 _ _ _ _ X) ⟨rfl, ⟨rfl, ⟨rfl, trivial⟩⟩⟩
    · refine r_iconst 63 _ dX9_agree_62 rfl ki_1 ?_
      refine r_goto 67 dX9_agree_63 (by decide) ?_
      refine r_ist1 68 dX9_agree_67 rfl rfl ?_
      refine r_iinc2w 71 dX9_agree_68 rfl rfl ki_1 X (fun x104 X => ?_)
      refine r_goto 4 dX9_agree_71 (by decide) ?_
      exact r_cut (hK4 _ _ _ _ X) ⟨rfl, ⟨rfl, ⟨rfl, trivial⟩⟩⟩
  · refine r_iconst 55 _ dX9_agree_54 rfl ki_1 ?_
    refine r_goto 59 dX9_agree_55 (by decide) ?_
    refine r_icmp_ne 66 62 dX9_agree_59 (by decide) rfl X (fun _ X => ?_) (fun _ X => ?_)
    · refine r_iconst 67 _ dX9_agree_66 rfl ki_0 ?_
      refine r_ist1 68 dX9_agree_67 rfl rfl ?_
      refine r_iinc2w 71 dX9_agree_68 rfl rfl ki_1 X (fun x105 X => ?_)
      refine r_goto 4 dX9_agree_71 (by decide) ?_
      exact r_cut (hK4 _ _ _ _ X) ⟨rfl, ⟨rfl, ⟨rfl, trivial⟩⟩⟩
    · refine r_iconst 63 _ dX9_agree_62 rfl ki_1 ?_
      refine r_goto 67 dX9_agree_63 (by decide) ?_
      refine r_ist1 68 dX9_agree_67 rfl rfl ?_
      refine r_iinc2w 71 dX9_agree_68 rfl rfl ki_1 X (fun x106 X => ?_)
      refine r_goto 4 dX9_agree_71 (by decide) ?_
      exact r_cut (hK4 _ _ _ _ X) ⟨rfl, ⟨rfl, ⟨rfl, trivial⟩⟩⟩
theorem wX9_agree_4 (G : GG) (hG : GT G) (R : Int32 × AH) {K4 : Nat → Int32 → Int32 → AH → Fn Int32} (hK4 : ∀ (l0 : Nat) (l1 : Int32) (l2 : Int32) (h : AH), K4 l0 l1 l2 h = some R → AW (eX9_agree G R) RX9 cX9_agree 4 [some (.ref (gB G + l0)), some (.int l1), some (.int l2)] [] h 0 0) (l0 : Nat) (l1 : Int32) (l2 : Int32) (h : AH) (X : fX9_agree_4 K4 l0 l1 l2 h = some R) : AW (eX9_agree G R) RX9 cX9_agree 4 [some (.ref (gB G + l0)), some (.int l1), some (.int l2)] [] h 0 0 := by
  unfold fX9_agree_4 at X
  refine r_ild2 5 dX9_agree_4 rfl ?_
  refine r_ald0 6 dX9_agree_5 rfl ?_
  refine r_gI 9 dX9_agree_6 rfl lfX9_214 rfl X (fun x101 X => ?_)
  refine r_icmp_ge 74 12 dX9_agree_9 (by decide) rfl X (fun _ X => ?_) (fun _ X => ?_)
  · refine r_iconst 75 _ dX9_agree_74 rfl ki_1 ?_
    refine r_ist2 76 dX9_agree_75 rfl rfl ?_
    exact r_cut (wX9_agree_76L G hG R 1000 _ _ _ _ X) ⟨rfl, ⟨rfl, ⟨rfl, trivial⟩⟩⟩
  · refine r_ild1 13 dX9_agree_12 rfl ?_
    refine r_if_eq 66 16 dX9_agree_13 (by decide) rfl X (fun _ X => ?_) (fun _ X => ?_)
    · refine r_iconst 67 _ dX9_agree_66 rfl ki_0 ?_
      refine r_ist1 68 dX9_agree_67 rfl rfl ?_
      refine r_iinc2w 71 dX9_agree_68 rfl rfl ki_1 X (fun x102 X => ?_)
      refine r_goto 4 dX9_agree_71 (by decide) ?_
      exact r_cut (hK4 _ _ _ _ X) ⟨rfl, ⟨rfl, ⟨rfl, trivial⟩⟩⟩
    · refine r_ald0 17 dX9_agree_16 rfl ?_
      refine r_gR 20 dX9_agree_17 rfl lfX9_60 rfl X (fun b103 X => ?_)
      refine r_ild2 21 dX9_agree_20 rfl ?_
      refine r_aL 22 1 dX9_agree_21 rfl rfl X (fun x104 X => ?_)
      refine r_lconst 23 _ dX9_agree_22 rfl kl_0 ?_
      refine r_lif_eq 66 27 dX9_agree_23 dX9_agree_24 (by decide) rfl X (fun _ X => ?_) (fun _ X => ?_)
      · refine r_iconst 67 _ dX9_agree_66 rfl ki_0 ?_
        refine r_ist1 68 dX9_agree_67 rfl rfl ?_
        refine r_iinc2w 71 dX9_agree_68 rfl rfl ki_1 X (fun x105 X => ?_)
        refine r_goto 4 dX9_agree_71 (by decide) ?_
        exact r_cut (hK4 _ _ _ _ X) ⟨rfl, ⟨rfl, ⟨rfl, trivial⟩⟩⟩
      · refine r_ald0 28 dX9_agree_27 rfl ?_
        refine r_gR 31 dX9_agree_28 rfl lfX9_60 rfl X (fun b106 X => ?_)
        refine r_ild2 32 dX9_agree_31 rfl ?_
        refine r_aL 33 1 dX9_agree_32 rfl rfl X (fun x107 X => ?_)
        refine r_lconst 34 _ dX9_agree_33 rfl kl_0 ?_
        refine r_lif_ge 42 38 dX9_agree_34 dX9_agree_35 (by decide) rfl X (fun _ X => ?_) (fun _ X => ?_)
        · refine r_iconst 43 _ dX9_agree_42 rfl ki_0 ?_
          exact r_cut (wX9_agree_43 G hG R hK4 _ _ _ _ X) ⟨rfl, ⟨rfl, trivial⟩⟩
        · refine r_iconst 39 _ dX9_agree_38 rfl ki_1 ?_
          refine r_goto 43 dX9_agree_39 (by decide) ?_
          exact r_cut (wX9_agree_43 G hG R hK4 _ _ _ _ X) ⟨rfl, ⟨rfl, trivial⟩⟩
theorem wX9_agree_4L (G : GG) (hG : GT G) (R : Int32 × AH) : ∀ (m : Nat) (l0 : Nat) (l1 : Int32) (l2 : Int32) (h : AH), fX9_agree_4L m l0 l1 l2 h = some R → AW (eX9_agree G R) RX9 cX9_agree 4 [some (.ref (gB G + l0)), some (.int l1), some (.int l2)] [] h 0 0 := by
  intro m
  induction m with
  | zero => intro l0 l1 l2 h X; exact nomatch (show (none : Fn Int32) = some R from X)
  | succ m ih => intro l0 l1 l2 h X; exact wX9_agree_4 G hG R ih l0 l1 l2 h X
theorem wX9_agree (G : GG) (hG : GT G) (R : Int32 × AH) (a0 : Nat) (h : AH) (X : fX9_agree a0 h = some R) : AW (eX9_agree G R) RX9 cX9_agree 0 [some (.ref (gB G + a0)), none, none] [] h 0 0 := by
  unfold fX9_agree at X
  refine r_iconst 1 _ dX9_agree_0 rfl ki_1 ?_
  refine r_ist1 2 dX9_agree_1 rfl rfl ?_
  refine r_iconst 3 _ dX9_agree_2 rfl ki_0 ?_
  refine r_ist2 4 dX9_agree_3 rfl rfl ?_
  exact r_cut (wX9_agree_4L G hG R 1000 _ _ _ _ X) ⟨rfl, ⟨rfl, ⟨rfl, trivial⟩⟩⟩
theorem mtX9_agree (G : GG) (hG : GT G) {a0 : Nat} {h h' : AH} {v : Int32} (hc : fX9_agree a0 h = some (v, h')) : AMet G yX9_agree cX9_agree 3 (some .boolean) 1 25 0 0 [.ref (gB G + a0)] h (some (.int v)) h' :=
  amet_of false [some (.ref (gB G + a0)), none, none] (by decide +kernel) (by decide) (Nat.le_of_ble_eq_true rfl) rfl (Nat.le_of_ble_eq_true rfl) (wX9_agree G hG (v, h') _ h hc)
abbrev eX9_corner (G : GG) (R : Unit × AH) : EE := eM G 5 none false 0 0 0 0 none R.2
theorem wX9_corner (G : GG) (hG : GT G) (R : Unit × AH) (a0 : Nat) (x0 : Int64) (x1 : Int64) (h : AH) (X : fX9_corner a0 x0 x1 h = some R) : AW (eX9_corner G R) RX9 cX9_corner 0 [some (.ref (gB G + a0)), some (.long x0), none, some (.long x1), none] [] h 0 0 := by
  unfold fX9_corner at X
  refine r_ald0 1 dX9_corner_0 rfl ?_
  refine r_gR 4 dX9_corner_1 rfl lfX9_57 rfl X (fun b101 X => ?_)
  refine r_ald0 5 dX9_corner_4 rfl ?_
  refine r_gI 8 dX9_corner_5 rfl lfX9_214 rfl X (fun x102 X => ?_)
  refine r_lld1 9 dX9_corner_8 rfl ?_
  refine r_zL 10 1 dX9_corner_9 rfl rfl X (fun h103 X => ?_)
  refine r_ald0 11 dX9_corner_10 rfl ?_
  refine r_gR 14 dX9_corner_11 rfl lfX9_60 rfl X (fun b104 X => ?_)
  refine r_ald0 15 dX9_corner_14 rfl ?_
  refine r_gI 18 dX9_corner_15 rfl lfX9_214 rfl X (fun x105 X => ?_)
  refine r_lld3 19 dX9_corner_18 rfl ?_
  refine r_zL 20 1 dX9_corner_19 rfl rfl X (fun h106 X => ?_)
  refine r_ald0 21 dX9_corner_20 rfl ?_
  refine r_dup 22 dX9_corner_21 rfl rfl ?_
  refine r_gI 25 dX9_corner_22 rfl lfX9_214 rfl X (fun x107 X => ?_)
  refine r_iconst 26 _ dX9_corner_25 rfl ki_1 ?_
  refine r_iadd 27 dX9_corner_26 rfl ?_
  refine r_pI 30 dX9_corner_27 rfl lpX9_214 rfl X (fun h108 X => ?_)
  exact r_retV dX9_corner_30 (Nat.zero_le _) (Nat.zero_le _) X
theorem mtX9_corner (G : GG) (hG : GT G) {a0 : Nat} {x0 : Int64} {x1 : Int64} {h h' : AH} {v : Unit} (hc : fX9_corner a0 x0 x1 h = some (v, h')) : AMet G yX9_corner cX9_corner 5 none 0 0 0 0 [.ref (gB G + a0), .long x0, .long x1] h none h' :=
  amet_of false [some (.ref (gB G + a0)), some (.long x0), none, some (.long x1), none] (by decide +kernel) (by decide) (Nat.le_of_ble_eq_true rfl) rfl (Nat.le_of_ble_eq_true rfl) (wX9_corner G hG (v, h') _ _ _ h hc)
abbrev eX9_findCorners (G : GG) (R : Unit × AH) : EE := eM G 3 none false 2 47 0 0 none R.2
theorem wX9_findCorners_38 (G : GG) (hG : GT G) (R : Unit × AH) (l0 : Nat) (l1 : Int32) (l2 : Int32) (h : AH) (X : fX9_findCorners_38 l0 l1 l2 h = some R) : AW (eX9_findCorners G R) RX9 cX9_findCorners 38 [some (.ref (gB G + l0)), some (.int l1), some (.int l2)] [] h 0 0 := by
  unfold fX9_findCorners_38 at X
  refine r_ild1 39 dX9_findCorners_38 rfl ?_
  refine r_if_eq 100 42 dX9_findCorners_39 (by decide) rfl X (fun _ X => ?_) (fun _ X => ?_)
  · refine r_ild2 101 dX9_findCorners_100 rfl ?_
    refine r_if_eq 160 104 dX9_findCorners_101 (by decide) rfl X (fun _ X => ?_) (fun _ X => ?_)
    · refine r_ald0 161 dX9_findCorners_160 rfl ?_
      refine r_ald0 162 dX9_findCorners_161 rfl ?_
      refine r_ald0 163 dX9_findCorners_162 rfl ?_
      refine r_ald0 164 dX9_findCorners_163 rfl ?_
      refine r_ald0 165 dX9_findCorners_164 rfl ?_
      refine r_gR 168 dX9_findCorners_165 rfl lfX9_48 rfl X (fun b101 X => ?_)
      refine r_iconst 169 _ dX9_findCorners_168 rfl ki_0 ?_
      refine r_aL 170 1 dX9_findCorners_169 rfl rfl X (fun x102 X => ?_)
      refine r_ald0 171 dX9_findCorners_170 rfl ?_
      refine r_gR 174 dX9_findCorners_171 rfl lfX9_48 rfl X (fun b103 X => ?_)
      refine r_iconst 175 _ dX9_findCorners_174 rfl ki_1 ?_
      refine r_aL 176 1 dX9_findCorners_175 rfl rfl X (fun x104 X => ?_)
      obtain ⟨hs, X⟩ := r_cv X
      obtain ⟨x106, h105, hc, X⟩ := bnd_ok X
      refine r_callV2 179 dX9_findCorners_176 rfl lmX9_154 hs (mtX9_add G hG hc) rfl ⟨(Nat.zero_le _), (Nat.zero_le _)⟩ ?_
      refine r_ald0 180 dX9_findCorners_179 rfl ?_
      refine r_gR 183 dX9_findCorners_180 rfl lfX9_48 rfl X (fun b107 X => ?_)
      refine r_iconst 184 _ dX9_findCorners_183 rfl ki_2 ?_
      refine r_aL 185 1 dX9_findCorners_184 rfl rfl X (fun x108 X => ?_)
      obtain ⟨hs, X⟩ := r_cv X
      obtain ⟨x110, h109, hc, X⟩ := bnd_ok X
      refine r_callV2 188 dX9_findCorners_185 rfl lmX9_154 hs (mtX9_add G hG hc) rfl ⟨(Nat.zero_le _), (Nat.zero_le _)⟩ ?_
      refine r_ald0 189 dX9_findCorners_188 rfl ?_
      refine r_gR 192 dX9_findCorners_189 rfl lfX9_48 rfl X (fun b111 X => ?_)
      refine r_iconst 193 _ dX9_findCorners_192 rfl ki_3 ?_
      refine r_aL 194 1 dX9_findCorners_193 rfl rfl X (fun x112 X => ?_)
      obtain ⟨hs, X⟩ := r_cv X
      obtain ⟨x114, h113, hc, X⟩ := bnd_ok X
      refine r_callV2 197 dX9_findCorners_194 rfl lmX9_154 hs (mtX9_add G hG hc) rfl ⟨(Nat.zero_le _), (Nat.zero_le _)⟩ ?_
      refine r_ald0 198 dX9_findCorners_197 rfl ?_
      refine r_ald0 199 dX9_findCorners_198 rfl ?_
      refine r_ald0 200 dX9_findCorners_199 rfl ?_
      refine r_ald0 201 dX9_findCorners_200 rfl ?_
      refine r_gR 204 dX9_findCorners_201 rfl lfX9_48 rfl X (fun b115 X => ?_)
      refine r_iconst 205 _ dX9_findCorners_204 rfl ki_4 ?_
      refine r_aL 206 1 dX9_findCorners_205 rfl rfl X (fun x116 X => ?_)
      refine r_ald0 207 dX9_findCorners_206 rfl ?_
      refine r_gR 210 dX9_findCorners_207 rfl lfX9_48 rfl X (fun b117 X => ?_)
      refine r_iconst 211 _ dX9_findCorners_210 rfl ki_5 ?_
      refine r_aL 212 1 dX9_findCorners_211 rfl rfl X (fun x118 X => ?_)
      obtain ⟨hs, X⟩ := r_cv X
      obtain ⟨x120, h119, hc, X⟩ := bnd_ok X
      refine r_callV2 215 dX9_findCorners_212 rfl lmX9_154 hs (mtX9_add G hG hc) rfl ⟨(Nat.zero_le _), (Nat.zero_le _)⟩ ?_
      refine r_ald0 216 dX9_findCorners_215 rfl ?_
      refine r_gR 219 dX9_findCorners_216 rfl lfX9_48 rfl X (fun b121 X => ?_)
      refine r_bipush 221 _ dX9_findCorners_219 rfl kb_6 ?_
      refine r_aL 222 1 dX9_findCorners_221 rfl rfl X (fun x122 X => ?_)
      obtain ⟨hs, X⟩ := r_cv X
      obtain ⟨x124, h123, hc, X⟩ := bnd_ok X
      refine r_callV2 225 dX9_findCorners_222 rfl lmX9_154 hs (mtX9_add G hG hc) rfl ⟨(Nat.zero_le _), (Nat.zero_le _)⟩ ?_
      refine r_ald0 226 dX9_findCorners_225 rfl ?_
      refine r_gR 229 dX9_findCorners_226 rfl lfX9_48 rfl X (fun b125 X => ?_)
      refine r_bipush 231 _ dX9_findCorners_229 rfl kb_7 ?_
      refine r_aL 232 1 dX9_findCorners_231 rfl rfl X (fun x126 X => ?_)
      obtain ⟨hs, X⟩ := r_cv X
      obtain ⟨x128, h127, hc, X⟩ := bnd_ok X
      refine r_callV2 235 dX9_findCorners_232 rfl lmX9_154 hs (mtX9_add G hG hc) rfl ⟨(Nat.zero_le _), (Nat.zero_le _)⟩ ?_
      obtain ⟨hs, X⟩ := r_cv X
      obtain ⟨_, h129, hc, X⟩ := bnd_ok X
      refine r_callV2v 238 dX9_findCorners_235 rfl lmX9_217 hs (mtX9_corner G hG hc) rfl ⟨(Nat.zero_le _), (Nat.zero_le _)⟩ ?_
      refine r_ald0 239 dX9_findCorners_238 rfl ?_
      refine r_ald0 240 dX9_findCorners_239 rfl ?_
      refine r_ald0 241 dX9_findCorners_240 rfl ?_
      refine r_gR 244 dX9_findCorners_241 rfl lfX9_48 rfl X (fun b130 X => ?_)
      refine r_iconst 245 _ dX9_findCorners_244 rfl ki_0 ?_
      refine r_aL 246 1 dX9_findCorners_245 rfl rfl X (fun x131 X => ?_)
      refine r_ald0 247 dX9_findCorners_246 rfl ?_
      refine r_gR 250 dX9_findCorners_247 rfl lfX9_48 rfl X (fun b132 X => ?_)
      refine r_iconst 251 _ dX9_findCorners_250 rfl ki_1 ?_
      refine r_aL 252 1 dX9_findCorners_251 rfl rfl X (fun x133 X => ?_)
      obtain ⟨hs, X⟩ := r_cv X
      obtain ⟨x135, h134, hc, X⟩ := bnd_ok X
      refine r_callV2 255 dX9_findCorners_252 rfl lmX9_154 hs (mtX9_add G hG hc) rfl ⟨(Nat.zero_le _), (Nat.zero_le _)⟩ ?_
      refine r_ald0 256 dX9_findCorners_255 rfl ?_
      refine r_ald0 257 dX9_findCorners_256 rfl ?_
      refine r_gR 260 dX9_findCorners_257 rfl lfX9_48 rfl X (fun b136 X => ?_)
      refine r_iconst 261 _ dX9_findCorners_260 rfl ki_4 ?_
      refine r_aL 262 1 dX9_findCorners_261 rfl rfl X (fun x137 X => ?_)
      refine r_ald0 263 dX9_findCorners_262 rfl ?_
      refine r_gR 266 dX9_findCorners_263 rfl lfX9_48 rfl X (fun b138 X => ?_)
      refine r_iconst 267 _ dX9_findCorners_266 rfl ki_5 ?_
      refine r_aL 268 1 dX9_findCorners_267 rfl rfl X (fun x139 X => ?_)
      obtain ⟨hs, X⟩ := r_cv X
      obtain ⟨x141, h140, hc, X⟩ := bnd_ok X
      refine r_callV2 271 dX9_findCorners_268 rfl lmX9_154 hs (mtX9_add G hG hc) rfl ⟨(Nat.zero_le _), (Nat.zero_le _)⟩ ?_
      obtain ⟨hs, X⟩ := r_cv X
      obtain ⟨_, h142, hc, X⟩ := bnd_ok X
      refine r_callV2v 274 dX9_findCorners_271 rfl lmX9_217 hs (mtX9_corner G hG hc) rfl ⟨(Nat.zero_le _), (Nat.zero_le _)⟩ ?_
      refine r_ald0 275 dX9_findCorners_274 rfl ?_
      refine r_ald0 276 dX9_findCorners_275 rfl ?_
      refine r_ald0 277 dX9_findCorners_276 rfl ?_
      refine r_gR 280 dX9_findCorners_277 rfl lfX9_48 rfl X (fun b143 X => ?_)
      refine r_iconst 281 _ dX9_findCorners_280 rfl ki_0 ?_
      refine r_aL 282 1 dX9_findCorners_281 rfl rfl X (fun x144 X => ?_)
      refine r_ald0 283 dX9_findCorners_282 rfl ?_
      refine r_gR 286 dX9_findCorners_283 rfl lfX9_48 rfl X (fun b145 X => ?_)
      refine r_iconst 287 _ dX9_findCorners_286 rfl ki_2 ?_
      refine r_aL 288 1 dX9_findCorners_287 rfl rfl X (fun x146 X => ?_)
      obtain ⟨hs, X⟩ := r_cv X
      obtain ⟨x148, h147, hc, X⟩ := bnd_ok X
      refine r_callV2 291 dX9_findCorners_288 rfl lmX9_154 hs (mtX9_add G hG hc) rfl ⟨(Nat.zero_le _), (Nat.zero_le _)⟩ ?_
      refine r_ald0 292 dX9_findCorners_291 rfl ?_
      refine r_ald0 293 dX9_findCorners_292 rfl ?_
      refine r_gR 296 dX9_findCorners_293 rfl lfX9_48 rfl X (fun b149 X => ?_)
      refine r_iconst 297 _ dX9_findCorners_296 rfl ki_4 ?_
      refine r_aL 298 1 dX9_findCorners_297 rfl rfl X (fun x150 X => ?_)
      refine r_ald0 299 dX9_findCorners_298 rfl ?_
      refine r_gR 302 dX9_findCorners_299 rfl lfX9_48 rfl X (fun b151 X => ?_)
      refine r_bipush 304 _ dX9_findCorners_302 rfl kb_6 ?_
      refine r_aL 305 1 dX9_findCorners_304 rfl rfl X (fun x152 X => ?_)
      obtain ⟨hs, X⟩ := r_cv X
      obtain ⟨x154, h153, hc, X⟩ := bnd_ok X
      refine r_callV2 308 dX9_findCorners_305 rfl lmX9_154 hs (mtX9_add G hG hc) rfl ⟨(Nat.zero_le _), (Nat.zero_le _)⟩ ?_
      obtain ⟨hs, X⟩ := r_cv X
      obtain ⟨_, h155, hc, X⟩ := bnd_ok X
      refine r_callV2v 311 dX9_findCorners_308 rfl lmX9_217 hs (mtX9_corner G hG hc) rfl ⟨(Nat.zero_le _), (Nat.zero_le _)⟩ ?_
      refine r_ald0 312 dX9_findCorners_311 rfl ?_
      refine r_ald0 313 dX9_findCorners_312 rfl ?_
      refine r_gR 316 dX9_findCorners_313 rfl lfX9_48 rfl X (fun b156 X => ?_)
      refine r_iconst 317 _ dX9_findCorners_316 rfl ki_0 ?_
      refine r_aL 318 1 dX9_findCorners_317 rfl rfl X (fun x157 X => ?_)
      refine r_ald0 319 dX9_findCorners_318 rfl ?_
      refine r_gR 322 dX9_findCorners_319 rfl lfX9_48 rfl X (fun b158 X => ?_)
      refine r_iconst 323 _ dX9_findCorners_322 rfl ki_4 ?_
      refine r_aL 324 1 dX9_findCorners_323 rfl rfl X (fun x159 X => ?_)
      obtain ⟨hs, X⟩ := r_cv X
      obtain ⟨_, h160, hc, X⟩ := bnd_ok X
      refine r_callV2v 327 dX9_findCorners_324 rfl lmX9_217 hs (mtX9_corner G hG hc) rfl ⟨(Nat.zero_le _), (Nat.zero_le _)⟩ ?_
      exact r_retV dX9_findCorners_327 (Nat.zero_le _) (Nat.zero_le _) X
    · refine r_ald0 105 dX9_findCorners_104 rfl ?_
      refine r_ald0 106 dX9_findCorners_105 rfl ?_
      refine r_ald0 107 dX9_findCorners_106 rfl ?_
      refine r_gR 110 dX9_findCorners_107 rfl lfX9_48 rfl X (fun b161 X => ?_)
      refine r_iconst 111 _ dX9_findCorners_110 rfl ki_1 ?_
      refine r_aL 112 1 dX9_findCorners_111 rfl rfl X (fun x162 X => ?_)
      refine r_ald0 113 dX9_findCorners_112 rfl ?_
      refine r_gR 116 dX9_findCorners_113 rfl lfX9_48 rfl X (fun b163 X => ?_)
      refine r_iconst 117 _ dX9_findCorners_116 rfl ki_3 ?_
      refine r_aL 118 1 dX9_findCorners_117 rfl rfl X (fun x164 X => ?_)
      obtain ⟨hs, X⟩ := r_cv X
      obtain ⟨x166, h165, hc, X⟩ := bnd_ok X
      refine r_callV2 121 dX9_findCorners_118 rfl lmX9_154 hs (mtX9_add G hG hc) rfl ⟨(Nat.zero_le _), (Nat.zero_le _)⟩ ?_
      refine r_ald0 122 dX9_findCorners_121 rfl ?_
      refine r_ald0 123 dX9_findCorners_122 rfl ?_
      refine r_gR 126 dX9_findCorners_123 rfl lfX9_48 rfl X (fun b167 X => ?_)
      refine r_iconst 127 _ dX9_findCorners_126 rfl ki_5 ?_
      refine r_aL 128 1 dX9_findCorners_127 rfl rfl X (fun x168 X => ?_)
      refine r_ald0 129 dX9_findCorners_128 rfl ?_
      refine r_gR 132 dX9_findCorners_129 rfl lfX9_48 rfl X (fun b169 X => ?_)
      refine r_bipush 134 _ dX9_findCorners_132 rfl kb_7 ?_
      refine r_aL 135 1 dX9_findCorners_134 rfl rfl X (fun x170 X => ?_)
      obtain ⟨hs, X⟩ := r_cv X
      obtain ⟨x172, h171, hc, X⟩ := bnd_ok X
      refine r_callV2 138 dX9_findCorners_135 rfl lmX9_154 hs (mtX9_add G hG hc) rfl ⟨(Nat.zero_le _), (Nat.zero_le _)⟩ ?_
      obtain ⟨hs, X⟩ := r_cv X
      obtain ⟨_, h173, hc, X⟩ := bnd_ok X
      refine r_callV2v 141 dX9_findCorners_138 rfl lmX9_217 hs (mtX9_corner G hG hc) rfl ⟨(Nat.zero_le _), (Nat.zero_le _)⟩ ?_
      refine r_ald0 142 dX9_findCorners_141 rfl ?_
      refine r_ald0 143 dX9_findCorners_142 rfl ?_
      refine r_gR 146 dX9_findCorners_143 rfl lfX9_48 rfl X (fun b174 X => ?_)
      refine r_iconst 147 _ dX9_findCorners_146 rfl ki_1 ?_
      refine r_aL 148 1 dX9_findCorners_147 rfl rfl X (fun x175 X => ?_)
      refine r_ald0 149 dX9_findCorners_148 rfl ?_
      refine r_gR 152 dX9_findCorners_149 rfl lfX9_48 rfl X (fun b176 X => ?_)
      refine r_iconst 153 _ dX9_findCorners_152 rfl ki_5 ?_
      refine r_aL 154 1 dX9_findCorners_153 rfl rfl X (fun x177 X => ?_)
      obtain ⟨hs, X⟩ := r_cv X
      obtain ⟨_, h178, hc, X⟩ := bnd_ok X
      refine r_callV2v 157 dX9_findCorners_154 rfl lmX9_217 hs (mtX9_corner G hG hc) rfl ⟨(Nat.zero_le _), (Nat.zero_le _)⟩ ?_
      refine r_goto 327 dX9_findCorners_157 (by decide) ?_
      exact r_retV dX9_findCorners_327 (Nat.zero_le _) (Nat.zero_le _) X
  · refine r_ald0 43 dX9_findCorners_42 rfl ?_
    refine r_ald0 44 dX9_findCorners_43 rfl ?_
    refine r_ald0 45 dX9_findCorners_44 rfl ?_
    refine r_gR 48 dX9_findCorners_45 rfl lfX9_48 rfl X (fun b179 X => ?_)
    refine r_iconst 49 _ dX9_findCorners_48 rfl ki_2 ?_
    refine r_aL 50 1 dX9_findCorners_49 rfl rfl X (fun x180 X => ?_)
    refine r_ald0 51 dX9_findCorners_50 rfl ?_
    refine r_gR 54 dX9_findCorners_51 rfl lfX9_48 rfl X (fun b181 X => ?_)
    refine r_iconst 55 _ dX9_findCorners_54 rfl ki_3 ?_
    refine r_aL 56 1 dX9_findCorners_55 rfl rfl X (fun x182 X => ?_)
    obtain ⟨hs, X⟩ := r_cv X
    obtain ⟨x184, h183, hc, X⟩ := bnd_ok X
    refine r_callV2 59 dX9_findCorners_56 rfl lmX9_154 hs (mtX9_add G hG hc) rfl ⟨(Nat.zero_le _), (Nat.zero_le _)⟩ ?_
    refine r_ald0 60 dX9_findCorners_59 rfl ?_
    refine r_ald0 61 dX9_findCorners_60 rfl ?_
    refine r_gR 64 dX9_findCorners_61 rfl lfX9_48 rfl X (fun b185 X => ?_)
    refine r_bipush 66 _ dX9_findCorners_64 rfl kb_6 ?_
    refine r_aL 67 1 dX9_findCorners_66 rfl rfl X (fun x186 X => ?_)
    refine r_ald0 68 dX9_findCorners_67 rfl ?_
    refine r_gR 71 dX9_findCorners_68 rfl lfX9_48 rfl X (fun b187 X => ?_)
    refine r_bipush 73 _ dX9_findCorners_71 rfl kb_7 ?_
    refine r_aL 74 1 dX9_findCorners_73 rfl rfl X (fun x188 X => ?_)
    obtain ⟨hs, X⟩ := r_cv X
    obtain ⟨x190, h189, hc, X⟩ := bnd_ok X
    refine r_callV2 77 dX9_findCorners_74 rfl lmX9_154 hs (mtX9_add G hG hc) rfl ⟨(Nat.zero_le _), (Nat.zero_le _)⟩ ?_
    obtain ⟨hs, X⟩ := r_cv X
    obtain ⟨_, h191, hc, X⟩ := bnd_ok X
    refine r_callV2v 80 dX9_findCorners_77 rfl lmX9_217 hs (mtX9_corner G hG hc) rfl ⟨(Nat.zero_le _), (Nat.zero_le _)⟩ ?_
    refine r_ald0 81 dX9_findCorners_80 rfl ?_
    refine r_ald0 82 dX9_findCorners_81 rfl ?_
    refine r_gR 85 dX9_findCorners_82 rfl lfX9_48 rfl X (fun b192 X => ?_)
    refine r_iconst 86 _ dX9_findCorners_85 rfl ki_2 ?_
    refine r_aL 87 1 dX9_findCorners_86 rfl rfl X (fun x193 X => ?_)
    refine r_ald0 88 dX9_findCorners_87 rfl ?_
    refine r_gR 91 dX9_findCorners_88 rfl lfX9_48 rfl X (fun b194 X => ?_)
    refine r_bipush 93 _ dX9_findCorners_91 rfl kb_6 ?_
    refine r_aL 94 1 dX9_findCorners_93 rfl rfl X (fun x195 X => ?_)
    obtain ⟨hs, X⟩ := r_cv X
    obtain ⟨_, h196, hc, X⟩ := bnd_ok X
    refine r_callV2v 97 dX9_findCorners_94 rfl lmX9_217 hs (mtX9_corner G hG hc) rfl ⟨(Nat.zero_le _), (Nat.zero_le _)⟩ ?_
    refine r_goto 327 dX9_findCorners_97 (by decide) ?_
    exact r_retV dX9_findCorners_327 (Nat.zero_le _) (Nat.zero_le _) X
theorem wX9_findCorners (G : GG) (hG : GT G) (R : Unit × AH) (a0 : Nat) (x0 : Int32) (x1 : Int32) (h : AH) (X : fX9_findCorners a0 x0 x1 h = some R) : AW (eX9_findCorners G R) RX9 cX9_findCorners 0 [some (.ref (gB G + a0)), some (.int x0), some (.int x1)] [] h 0 0 := by
  unfold fX9_findCorners at X
  refine r_ald0 1 dX9_findCorners_0 rfl ?_
  refine r_iconst 2 _ dX9_findCorners_1 rfl ki_0 ?_
  refine r_pI 5 dX9_findCorners_2 rfl lpX9_214 rfl X (fun h101 X => ?_)
  refine r_ald0 6 dX9_findCorners_5 rfl ?_
  refine r_iconst 7 _ dX9_findCorners_6 rfl ki_0 ?_
  refine r_pZ 10 dX9_findCorners_7 rfl lpX9_69 rfl X (fun h102 X => ?_)
  refine r_ild1 11 dX9_findCorners_10 rfl ?_
  refine r_if_eq 38 14 dX9_findCorners_11 (by decide) rfl X (fun _ X => ?_) (fun _ X => ?_)
  · exact r_cut (wX9_findCorners_38 G hG R _ _ _ _ X) ⟨rfl, ⟨rfl, ⟨rfl, trivial⟩⟩⟩
  · refine r_ild2 15 dX9_findCorners_14 rfl ?_
    refine r_if_eq 38 18 dX9_findCorners_15 (by decide) rfl X (fun _ X => ?_) (fun _ X => ?_)
    · exact r_cut (wX9_findCorners_38 G hG R _ _ _ _ X) ⟨rfl, ⟨rfl, ⟨rfl, trivial⟩⟩⟩
    · refine r_ald0 19 dX9_findCorners_18 rfl ?_
      refine r_ald0 20 dX9_findCorners_19 rfl ?_
      refine r_gR 23 dX9_findCorners_20 rfl lfX9_48 rfl X (fun b103 X => ?_)
      refine r_iconst 24 _ dX9_findCorners_23 rfl ki_3 ?_
      refine r_aL 25 1 dX9_findCorners_24 rfl rfl X (fun x104 X => ?_)
      refine r_ald0 26 dX9_findCorners_25 rfl ?_
      refine r_gR 29 dX9_findCorners_26 rfl lfX9_48 rfl X (fun b105 X => ?_)
      refine r_bipush 31 _ dX9_findCorners_29 rfl kb_7 ?_
      refine r_aL 32 1 dX9_findCorners_31 rfl rfl X (fun x106 X => ?_)
      obtain ⟨hs, X⟩ := r_cv X
      obtain ⟨_, h107, hc, X⟩ := bnd_ok X
      refine r_callV2v 35 dX9_findCorners_32 rfl lmX9_217 hs (mtX9_corner G hG hc) rfl ⟨(Nat.zero_le _), (Nat.zero_le _)⟩ ?_
      refine r_goto 327 dX9_findCorners_35 (by decide) ?_
      exact r_retV dX9_findCorners_327 (Nat.zero_le _) (Nat.zero_le _) X
theorem mtX9_findCorners (G : GG) (hG : GT G) {a0 : Nat} {x0 : Int32} {x1 : Int32} {h h' : AH} {v : Unit} (hc : fX9_findCorners a0 x0 x1 h = some (v, h')) : AMet G yX9_findCorners cX9_findCorners 3 none 2 47 0 0 [.ref (gB G + a0), .int x0, .int x1] h none h' :=
  amet_of false [some (.ref (gB G + a0)), some (.int x0), some (.int x1)] (by decide +kernel) (by decide) (Nat.le_of_ble_eq_true rfl) rfl (Nat.le_of_ble_eq_true rfl) (wX9_findCorners G hG (v, h') _ _ _ h hc)
abbrev eX9_become (G : GG) (R : Int32 × AH) : EE := eM G 4 (some .boolean) false 2 50 0 0 (some (.int R.1)) R.2
theorem wX9_become_38 (G : GG) (hG : GT G) (R : Int32 × AH) {K38 : Nat → Int64 → Int32 → AH → Fn Int32} (hK38 : ∀ (l0 : Nat) (l1 : Int64) (l3 : Int32) (h : AH), K38 l0 l1 l3 h = some R → AW (eX9_become G R) RX9 cX9_become 38 [some (.ref (gB G + l0)), some (.long l1), none, some (.int l3)] [] h 0 0) (l0 : Nat) (l1 : Int64) (l3 : Int32) (h : AH) (X : fX9_become_38 K38 l0 l1 l3 h = some R) : AW (eX9_become G R) RX9 cX9_become 38 [some (.ref (gB G + l0)), some (.long l1), none, some (.int l3)] [] h 0 0 := by
  unfold fX9_become_38 at X
  refine r_ild3 39 dX9_become_38 rfl ?_
  refine r_bipush 41 _ dX9_become_39 rfl kb_8 ?_
  refine r_icmp_ge 74 44 dX9_become_41 (by decide) rfl X (fun _ X => ?_) (fun _ X => ?_)
  · refine r_iconst 75 _ dX9_become_74 rfl ki_1 ?_
    exact r_ret1 dX9_become_75 (Nat.zero_le _) (Nat.zero_le _) X
  · refine r_ald0 45 dX9_become_44 rfl ?_
    refine r_gR 48 dX9_become_45 rfl lfX9_48 rfl X (fun b101 X => ?_)
    refine r_ild3 49 dX9_become_48 rfl ?_
    refine r_lld1 50 dX9_become_49 rfl ?_
    refine r_lconst 51 _ dX9_become_50 rfl kl_0 ?_
    refine r_lif_ne 59 55 dX9_become_51 dX9_become_52 (by decide) rfl X (fun _ X => ?_) (fun _ X => ?_)
    · refine r_ald0 60 dX9_become_59 rfl ?_
      refine r_gR 63 dX9_become_60 rfl lfX9_51 rfl X (fun b102 X => ?_)
      refine r_ild3 64 dX9_become_63 rfl ?_
      refine r_aL 65 1 dX9_become_64 rfl rfl X (fun x103 X => ?_)
      refine r_lld1 66 dX9_become_65 rfl ?_
      refine r_ldiv 67 dX9_become_66 rfl X (fun X => ?_)
      refine r_zL 68 1 dX9_become_67 rfl rfl X (fun h104 X => ?_)
      refine r_iinc3w 71 dX9_become_68 rfl rfl ki_1 X (fun x105 X => ?_)
      refine r_goto 38 dX9_become_71 (by decide) ?_
      exact r_cut (hK38 _ _ _ _ X) ⟨rfl, ⟨rfl, ⟨rfl, trivial⟩⟩⟩
    · refine r_lconst 56 _ dX9_become_55 rfl kl_0 ?_
      refine r_goto 67 dX9_become_56 (by decide) ?_
      refine r_zL 68 1 dX9_become_67 rfl rfl X (fun h106 X => ?_)
      refine r_iinc3w 71 dX9_become_68 rfl rfl ki_1 X (fun x107 X => ?_)
      refine r_goto 38 dX9_become_71 (by decide) ?_
      exact r_cut (hK38 _ _ _ _ X) ⟨rfl, ⟨rfl, ⟨rfl, trivial⟩⟩⟩
theorem wX9_become_38L (G : GG) (hG : GT G) (R : Int32 × AH) : ∀ (m : Nat) (l0 : Nat) (l1 : Int64) (l3 : Int32) (h : AH), fX9_become_38L m l0 l1 l3 h = some R → AW (eX9_become G R) RX9 cX9_become 38 [some (.ref (gB G + l0)), some (.long l1), none, some (.int l3)] [] h 0 0 := by
  intro m
  induction m with
  | zero => intro l0 l1 l3 h X; exact nomatch (show (none : Fn Int32) = some R from X)
  | succ m ih => intro l0 l1 l3 h X; exact wX9_become_38 G hG R ih l0 l1 l3 h X
theorem wX9_become_13 (G : GG) (hG : GT G) (R : Int32 × AH) {K13 : Nat → Int64 → Int32 → AH → Fn Int32} (hK13 : ∀ (l0 : Nat) (l1 : Int64) (l3 : Int32) (h : AH), K13 l0 l1 l3 h = some R → AW (eX9_become G R) RX9 cX9_become 13 [some (.ref (gB G + l0)), some (.long l1), none, some (.int l3)] [] h 0 0) (l0 : Nat) (l1 : Int64) (l3 : Int32) (h : AH) (X : fX9_become_13 K13 l0 l1 l3 h = some R) : AW (eX9_become G R) RX9 cX9_become 13 [some (.ref (gB G + l0)), some (.long l1), none, some (.int l3)] [] h 0 0 := by
  unfold fX9_become_13 at X
  refine r_ild3 14 dX9_become_13 rfl ?_
  refine r_bipush 16 _ dX9_become_14 rfl kb_8 ?_
  refine r_icmp_ge 36 19 dX9_become_16 (by decide) rfl X (fun _ X => ?_) (fun _ X => ?_)
  · refine r_iconst 37 _ dX9_become_36 rfl ki_0 ?_
    refine r_ist3 38 dX9_become_37 rfl rfl ?_
    exact r_cut (wX9_become_38L G hG R 1000 _ _ _ _ X) ⟨rfl, ⟨rfl, ⟨rfl, trivial⟩⟩⟩
  · refine r_lld1 20 dX9_become_19 rfl ?_
    refine r_ald0 21 dX9_become_20 rfl ?_
    refine r_gR 24 dX9_become_21 rfl lfX9_51 rfl X (fun b101 X => ?_)
    refine r_ild3 25 dX9_become_24 rfl ?_
    refine r_aL 26 1 dX9_become_25 rfl rfl X (fun x102 X => ?_)
    obtain ⟨x104, h103, hc, X⟩ := bnd_ok X
    refine r_callS2 29 dX9_become_26 rfl lmX9_87 (mtX9_divisor G hG hc) rfl ⟨(Nat.zero_le _), (Nat.zero_le _)⟩ ?_
    refine r_lst1 30 dX9_become_29 rfl rfl ?_
    refine r_iinc3w 33 dX9_become_30 rfl rfl ki_1 X (fun x105 X => ?_)
    refine r_goto 13 dX9_become_33 (by decide) ?_
    exact r_cut (hK13 _ _ _ _ X) ⟨rfl, ⟨rfl, ⟨rfl, trivial⟩⟩⟩
theorem wX9_become_13L (G : GG) (hG : GT G) (R : Int32 × AH) : ∀ (m : Nat) (l0 : Nat) (l1 : Int64) (l3 : Int32) (h : AH), fX9_become_13L m l0 l1 l3 h = some R → AW (eX9_become G R) RX9 cX9_become 13 [some (.ref (gB G + l0)), some (.long l1), none, some (.int l3)] [] h 0 0 := by
  intro m
  induction m with
  | zero => intro l0 l1 l3 h X; exact nomatch (show (none : Fn Int32) = some R from X)
  | succ m ih => intro l0 l1 l3 h X; exact wX9_become_13 G hG R ih l0 l1 l3 h X
theorem wX9_become (G : GG) (hG : GT G) (R : Int32 × AH) (a0 : Nat) (h : AH) (X : fX9_become a0 h = some R) : AW (eX9_become G R) RX9 cX9_become 0 [some (.ref (gB G + a0)), none, none, none] [] h 0 0 := by
  unfold fX9_become at X
  refine r_ald0 1 dX9_become_0 rfl ?_
  refine r_gI 4 dX9_become_1 rfl lfX9_69 rfl X (fun x101 X => ?_)
  refine r_if_eq 9 7 dX9_become_4 (by decide) rfl X (fun _ X => ?_) (fun _ X => ?_)
  · refine r_lconst 10 _ dX9_become_9 rfl kl_0 ?_
    refine r_lst1 11 dX9_become_10 rfl rfl ?_
    refine r_iconst 12 _ dX9_become_11 rfl ki_0 ?_
    refine r_ist3 13 dX9_become_12 rfl rfl ?_
    exact r_cut (wX9_become_13L G hG R 1000 _ _ _ _ X) ⟨rfl, ⟨rfl, ⟨rfl, trivial⟩⟩⟩
  · refine r_iconst 8 _ dX9_become_7 rfl ki_0 ?_
    exact r_ret0 dX9_become_8 (Nat.zero_le _) (Nat.zero_le _) X
theorem mtX9_become (G : GG) (hG : GT G) {a0 : Nat} {h h' : AH} {v : Int32} (hc : fX9_become a0 h = some (v, h')) : AMet G yX9_become cX9_become 4 (some .boolean) 2 50 0 0 [.ref (gB G + a0)] h (some (.int v)) h' :=
  amet_of false [some (.ref (gB G + a0)), none, none, none] (by decide +kernel) (by decide) (Nat.le_of_ble_eq_true rfl) rfl (Nat.le_of_ble_eq_true rfl) (wX9_become G hG (v, h') _ h hc)
abbrev eX9_giveOne (G : GG) (R : Int32 × AH) : EE := eM G 4 (some .boolean) false 3 73 0 0 (some (.int R.1)) R.2
theorem wX9_giveOne_7 (G : GG) (hG : GT G) (R : Int32 × AH) {K7 : Nat → Int64 → Int32 → AH → Fn Int32} (hK7 : ∀ (l0 : Nat) (l1 : Int64) (l3 : Int32) (h : AH), K7 l0 l1 l3 h = some R → AW (eX9_giveOne G R) RX9 cX9_giveOne 7 [some (.ref (gB G + l0)), some (.long l1), none, some (.int l3)] [] h 0 0) (l0 : Nat) (l1 : Int64) (l3 : Int32) (h : AH) (X : fX9_giveOne_7 K7 l0 l1 l3 h = some R) : AW (eX9_giveOne G R) RX9 cX9_giveOne 7 [some (.ref (gB G + l0)), some (.long l1), none, some (.int l3)] [] h 0 0 := by
  unfold fX9_giveOne_7 at X
  refine r_ild3 8 dX9_giveOne_7 rfl ?_
  refine r_iconst 9 _ dX9_giveOne_8 rfl ki_4 ?_
  refine r_icmp_ge 64 12 dX9_giveOne_9 (by decide) rfl X (fun _ X => ?_) (fun _ X => ?_)
  · refine r_ald0 65 dX9_giveOne_64 rfl ?_
    obtain ⟨hs, X⟩ := r_cv X
    obtain ⟨x102, h101, hc, X⟩ := bnd_ok X
    refine r_callV0 68 dX9_giveOne_65 rfl lmX9_210 hs (mtX9_become G hG hc) rfl ⟨(Nat.zero_le _), (Nat.zero_le _)⟩ ?_
    exact r_retZ dX9_giveOne_68 (Nat.zero_le _) (Nat.zero_le _) X
  · refine r_ald0 13 dX9_giveOne_12 rfl ?_
    refine r_gR 16 dX9_giveOne_13 rfl lfX9_51 rfl X (fun b103 X => ?_)
    refine r_ild3 17 dX9_giveOne_16 rfl ?_
    refine r_ald0 18 dX9_giveOne_17 rfl ?_
    refine r_gR 21 dX9_giveOne_18 rfl lfX9_48 rfl X (fun b104 X => ?_)
    refine r_iconst 22 _ dX9_giveOne_21 rfl ki_4 ?_
    refine r_ild3 23 dX9_giveOne_22 rfl ?_
    refine r_iadd 24 dX9_giveOne_23 rfl ?_
    refine r_aL 25 1 dX9_giveOne_24 rfl rfl X (fun x105 X => ?_)
    refine r_zL 26 1 dX9_giveOne_25 rfl rfl X (fun h106 X => ?_)
    refine r_ald0 27 dX9_giveOne_26 rfl ?_
    refine r_gR 30 dX9_giveOne_27 rfl lfX9_51 rfl X (fun b107 X => ?_)
    refine r_iconst 31 _ dX9_giveOne_30 rfl ki_4 ?_
    refine r_ild3 32 dX9_giveOne_31 rfl ?_
    refine r_iadd 33 dX9_giveOne_32 rfl ?_
    refine r_ald0 34 dX9_giveOne_33 rfl ?_
    refine r_ald0 35 dX9_giveOne_34 rfl ?_
    refine r_gR 38 dX9_giveOne_35 rfl lfX9_48 rfl X (fun b108 X => ?_)
    refine r_ild3 39 dX9_giveOne_38 rfl ?_
    refine r_aL 40 1 dX9_giveOne_39 rfl rfl X (fun x109 X => ?_)
    refine r_ald0 41 dX9_giveOne_40 rfl ?_
    refine r_lld1 42 dX9_giveOne_41 rfl ?_
    refine r_ald0 43 dX9_giveOne_42 rfl ?_
    refine r_gR 46 dX9_giveOne_43 rfl lfX9_48 rfl X (fun b110 X => ?_)
    refine r_iconst 47 _ dX9_giveOne_46 rfl ki_4 ?_
    refine r_ild3 48 dX9_giveOne_47 rfl ?_
    refine r_iadd 49 dX9_giveOne_48 rfl ?_
    refine r_aL 50 1 dX9_giveOne_49 rfl rfl X (fun x111 X => ?_)
    obtain ⟨hs, X⟩ := r_cv X
    obtain ⟨x113, h112, hc, X⟩ := bnd_ok X
    refine r_callV2 53 dX9_giveOne_50 rfl lmX9_151 hs (mtX9_mul G hG hc) rfl ⟨(Nat.zero_le _), (Nat.zero_le _)⟩ ?_
    refine r_lneg 54 dX9_giveOne_53 rfl ?_
    obtain ⟨hs, X⟩ := r_cv X
    obtain ⟨x115, h114, hc, X⟩ := bnd_ok X
    refine r_callV2 57 dX9_giveOne_54 rfl lmX9_154 hs (mtX9_add G hG hc) rfl ⟨(Nat.zero_le _), (Nat.zero_le _)⟩ ?_
    refine r_zL 58 1 dX9_giveOne_57 rfl rfl X (fun h116 X => ?_)
    refine r_iinc3w 61 dX9_giveOne_58 rfl rfl ki_1 X (fun x117 X => ?_)
    refine r_goto 7 dX9_giveOne_61 (by decide) ?_
    exact r_cut (hK7 _ _ _ _ X) ⟨rfl, ⟨rfl, ⟨rfl, trivial⟩⟩⟩
theorem wX9_giveOne_7L (G : GG) (hG : GT G) (R : Int32 × AH) : ∀ (m : Nat) (l0 : Nat) (l1 : Int64) (l3 : Int32) (h : AH), fX9_giveOne_7L m l0 l1 l3 h = some R → AW (eX9_giveOne G R) RX9 cX9_giveOne 7 [some (.ref (gB G + l0)), some (.long l1), none, some (.int l3)] [] h 0 0 := by
  intro m
  induction m with
  | zero => intro l0 l1 l3 h X; exact nomatch (show (none : Fn Int32) = some R from X)
  | succ m ih => intro l0 l1 l3 h X; exact wX9_giveOne_7 G hG R ih l0 l1 l3 h X
theorem wX9_giveOne (G : GG) (hG : GT G) (R : Int32 × AH) (a0 : Nat) (x0 : Int64) (h : AH) (X : fX9_giveOne a0 x0 h = some R) : AW (eX9_giveOne G R) RX9 cX9_giveOne 0 [some (.ref (gB G + a0)), some (.long x0), none, none] [] h 0 0 := by
  unfold fX9_giveOne at X
  refine r_ald0 1 dX9_giveOne_0 rfl ?_
  refine r_iconst 2 _ dX9_giveOne_1 rfl ki_0 ?_
  refine r_pZ 5 dX9_giveOne_2 rfl lpX9_69 rfl X (fun h101 X => ?_)
  refine r_iconst 6 _ dX9_giveOne_5 rfl ki_0 ?_
  refine r_ist3 7 dX9_giveOne_6 rfl rfl ?_
  exact r_cut (wX9_giveOne_7L G hG R 1000 _ _ _ _ X) ⟨rfl, ⟨rfl, ⟨rfl, trivial⟩⟩⟩
theorem mtX9_giveOne (G : GG) (hG : GT G) {a0 : Nat} {x0 : Int64} {h h' : AH} {v : Int32} (hc : fX9_giveOne a0 x0 h = some (v, h')) : AMet G yX9_giveOne cX9_giveOne 4 (some .boolean) 3 73 0 0 [.ref (gB G + a0), .long x0] h (some (.int v)) h' :=
  amet_of false [some (.ref (gB G + a0)), some (.long x0), none, none] (by decide +kernel) (by decide) (Nat.le_of_ble_eq_true rfl) rfl (Nat.le_of_ble_eq_true rfl) (wX9_giveOne G hG (v, h') _ _ h hc)
abbrev eX9_outX (G : GG) (R : Unit × AH) : EE := eM G 2 none false 3 73 0 0 none R.2
theorem wX9_outX_65 (G : GG) (hG : GT G) (R : Unit × AH) (l0 : Nat) (h : AH) (X : fX9_outX_65 l0 h = some R) : AW (eX9_outX G R) RX9 cX9_outX 65 [some (.ref (gB G + l0)), none] [] h 0 0 := by
  unfold fX9_outX_65 at X
  refine r_ald0 66 dX9_outX_65 rfl ?_
  obtain ⟨hs, X⟩ := r_cv X
  obtain ⟨x102, h101, hc, X⟩ := bnd_ok X
  refine r_callV0 69 dX9_outX_66 rfl lmX9_210 hs (mtX9_become G hG hc) rfl ⟨(Nat.zero_le _), (Nat.zero_le _)⟩ ?_
  refine r_ist1 70 dX9_outX_69 rfl rfl ?_
  exact r_retV dX9_outX_70 (Nat.zero_le _) (Nat.zero_le _) X
theorem wX9_outX_7 (G : GG) (hG : GT G) (R : Unit × AH) {K7 : Nat → Int32 → AH → Fn Unit} (hK7 : ∀ (l0 : Nat) (l1 : Int32) (h : AH), K7 l0 l1 h = some R → AW (eX9_outX G R) RX9 cX9_outX 7 [some (.ref (gB G + l0)), some (.int l1)] [] h 0 0) (l0 : Nat) (l1 : Int32) (h : AH) (X : fX9_outX_7 K7 l0 l1 h = some R) : AW (eX9_outX G R) RX9 cX9_outX 7 [some (.ref (gB G + l0)), some (.int l1)] [] h 0 0 := by
  unfold fX9_outX_7 at X
  refine r_ild1 8 dX9_outX_7 rfl ?_
  refine r_bipush 10 _ dX9_outX_8 rfl kb_8 ?_
  refine r_icmp_ge 65 13 dX9_outX_10 (by decide) rfl X (fun _ X => ?_) (fun _ X => ?_)
  · exact r_cut (wX9_outX_65 G hG R _ _ X) ⟨rfl, trivial⟩
  · refine r_ald0 14 dX9_outX_13 rfl ?_
    refine r_gR 17 dX9_outX_14 rfl lfX9_51 rfl X (fun b101 X => ?_)
    refine r_ild1 18 dX9_outX_17 rfl ?_
    refine r_iconst 19 _ dX9_outX_18 rfl ki_2 ?_
    refine r_iadd 20 dX9_outX_19 rfl ?_
    refine r_ald0 21 dX9_outX_20 rfl ?_
    refine r_gR 24 dX9_outX_21 rfl lfX9_48 rfl X (fun b102 X => ?_)
    refine r_ild1 25 dX9_outX_24 rfl ?_
    refine r_aL 26 1 dX9_outX_25 rfl rfl X (fun x103 X => ?_)
    refine r_zL 27 1 dX9_outX_26 rfl rfl X (fun h104 X => ?_)
    refine r_ald0 28 dX9_outX_27 rfl ?_
    refine r_gR 31 dX9_outX_28 rfl lfX9_51 rfl X (fun b105 X => ?_)
    refine r_ild1 32 dX9_outX_31 rfl ?_
    refine r_iconst 33 _ dX9_outX_32 rfl ki_3 ?_
    refine r_iadd 34 dX9_outX_33 rfl ?_
    refine r_ald0 35 dX9_outX_34 rfl ?_
    refine r_gR 38 dX9_outX_35 rfl lfX9_48 rfl X (fun b106 X => ?_)
    refine r_ild1 39 dX9_outX_38 rfl ?_
    refine r_iconst 40 _ dX9_outX_39 rfl ki_1 ?_
    refine r_iadd 41 dX9_outX_40 rfl ?_
    refine r_aL 42 1 dX9_outX_41 rfl rfl X (fun x107 X => ?_)
    refine r_zL 43 1 dX9_outX_42 rfl rfl X (fun h108 X => ?_)
    refine r_ald0 44 dX9_outX_43 rfl ?_
    refine r_gR 47 dX9_outX_44 rfl lfX9_51 rfl X (fun b109 X => ?_)
    refine r_ild1 48 dX9_outX_47 rfl ?_
    refine r_lconst 49 _ dX9_outX_48 rfl kl_0 ?_
    refine r_zL 50 1 dX9_outX_49 rfl rfl X (fun h110 X => ?_)
    refine r_ald0 51 dX9_outX_50 rfl ?_
    refine r_gR 54 dX9_outX_51 rfl lfX9_51 rfl X (fun b111 X => ?_)
    refine r_ild1 55 dX9_outX_54 rfl ?_
    refine r_iconst 56 _ dX9_outX_55 rfl ki_1 ?_
    refine r_iadd 57 dX9_outX_56 rfl ?_
    refine r_lconst 58 _ dX9_outX_57 rfl kl_0 ?_
    refine r_zL 59 1 dX9_outX_58 rfl rfl X (fun h112 X => ?_)
    refine r_iinc1w 62 dX9_outX_59 rfl rfl ki_4 X (fun x113 X => ?_)
    refine r_goto 7 dX9_outX_62 (by decide) ?_
    exact r_cut (hK7 _ _ _ X) ⟨rfl, ⟨rfl, trivial⟩⟩
theorem wX9_outX_7L (G : GG) (hG : GT G) (R : Unit × AH) : ∀ (m : Nat) (l0 : Nat) (l1 : Int32) (h : AH), fX9_outX_7L m l0 l1 h = some R → AW (eX9_outX G R) RX9 cX9_outX 7 [some (.ref (gB G + l0)), some (.int l1)] [] h 0 0 := by
  intro m
  induction m with
  | zero => intro l0 l1 h X; exact nomatch (show (none : Fn Unit) = some R from X)
  | succ m ih => intro l0 l1 h X; exact wX9_outX_7 G hG R ih l0 l1 h X
theorem wX9_outX (G : GG) (hG : GT G) (R : Unit × AH) (a0 : Nat) (h : AH) (X : fX9_outX a0 h = some R) : AW (eX9_outX G R) RX9 cX9_outX 0 [some (.ref (gB G + a0)), none] [] h 0 0 := by
  unfold fX9_outX at X
  refine r_ald0 1 dX9_outX_0 rfl ?_
  refine r_iconst 2 _ dX9_outX_1 rfl ki_0 ?_
  refine r_pZ 5 dX9_outX_2 rfl lpX9_69 rfl X (fun h101 X => ?_)
  refine r_iconst 6 _ dX9_outX_5 rfl ki_0 ?_
  refine r_ist1 7 dX9_outX_6 rfl rfl ?_
  exact r_cut (wX9_outX_7L G hG R 1000 _ _ _ X) ⟨rfl, ⟨rfl, trivial⟩⟩
theorem mtX9_outX (G : GG) (hG : GT G) {a0 : Nat} {h h' : AH} {v : Unit} (hc : fX9_outX a0 h = some (v, h')) : AMet G yX9_outX cX9_outX 2 none 3 73 0 0 [.ref (gB G + a0)] h none h' :=
  amet_of false [some (.ref (gB G + a0)), none] (by decide +kernel) (by decide) (Nat.le_of_ble_eq_true rfl) rfl (Nat.le_of_ble_eq_true rfl) (wX9_outX G hG (v, h') _ h hc)
abbrev eX9_outY (G : GG) (R : Unit × AH) : EE := eM G 2 none false 3 73 0 0 none R.2
theorem wX9_outY_65 (G : GG) (hG : GT G) (R : Unit × AH) (l0 : Nat) (h : AH) (X : fX9_outY_65 l0 h = some R) : AW (eX9_outY G R) RX9 cX9_outY 65 [some (.ref (gB G + l0)), none] [] h 0 0 := by
  unfold fX9_outY_65 at X
  refine r_ald0 66 dX9_outY_65 rfl ?_
  obtain ⟨hs, X⟩ := r_cv X
  obtain ⟨x102, h101, hc, X⟩ := bnd_ok X
  refine r_callV0 69 dX9_outY_66 rfl lmX9_210 hs (mtX9_become G hG hc) rfl ⟨(Nat.zero_le _), (Nat.zero_le _)⟩ ?_
  refine r_ist1 70 dX9_outY_69 rfl rfl ?_
  exact r_retV dX9_outY_70 (Nat.zero_le _) (Nat.zero_le _) X
theorem wX9_outY_7 (G : GG) (hG : GT G) (R : Unit × AH) {K7 : Nat → Int32 → AH → Fn Unit} (hK7 : ∀ (l0 : Nat) (l1 : Int32) (h : AH), K7 l0 l1 h = some R → AW (eX9_outY G R) RX9 cX9_outY 7 [some (.ref (gB G + l0)), some (.int l1)] [] h 0 0) (l0 : Nat) (l1 : Int32) (h : AH) (X : fX9_outY_7 K7 l0 l1 h = some R) : AW (eX9_outY G R) RX9 cX9_outY 7 [some (.ref (gB G + l0)), some (.int l1)] [] h 0 0 := by
  unfold fX9_outY_7 at X
  refine r_ild1 8 dX9_outY_7 rfl ?_
  refine r_bipush 10 _ dX9_outY_8 rfl kb_8 ?_
  refine r_icmp_ge 65 13 dX9_outY_10 (by decide) rfl X (fun _ X => ?_) (fun _ X => ?_)
  · exact r_cut (wX9_outY_65 G hG R _ _ X) ⟨rfl, trivial⟩
  · refine r_ald0 14 dX9_outY_13 rfl ?_
    refine r_gR 17 dX9_outY_14 rfl lfX9_51 rfl X (fun b101 X => ?_)
    refine r_ild1 18 dX9_outY_17 rfl ?_
    refine r_iconst 19 _ dX9_outY_18 rfl ki_1 ?_
    refine r_iadd 20 dX9_outY_19 rfl ?_
    refine r_ald0 21 dX9_outY_20 rfl ?_
    refine r_gR 24 dX9_outY_21 rfl lfX9_48 rfl X (fun b102 X => ?_)
    refine r_ild1 25 dX9_outY_24 rfl ?_
    refine r_aL 26 1 dX9_outY_25 rfl rfl X (fun x103 X => ?_)
    refine r_zL 27 1 dX9_outY_26 rfl rfl X (fun h104 X => ?_)
    refine r_ald0 28 dX9_outY_27 rfl ?_
    refine r_gR 31 dX9_outY_28 rfl lfX9_51 rfl X (fun b105 X => ?_)
    refine r_ild1 32 dX9_outY_31 rfl ?_
    refine r_iconst 33 _ dX9_outY_32 rfl ki_3 ?_
    refine r_iadd 34 dX9_outY_33 rfl ?_
    refine r_ald0 35 dX9_outY_34 rfl ?_
    refine r_gR 38 dX9_outY_35 rfl lfX9_48 rfl X (fun b106 X => ?_)
    refine r_ild1 39 dX9_outY_38 rfl ?_
    refine r_iconst 40 _ dX9_outY_39 rfl ki_2 ?_
    refine r_iadd 41 dX9_outY_40 rfl ?_
    refine r_aL 42 1 dX9_outY_41 rfl rfl X (fun x107 X => ?_)
    refine r_zL 43 1 dX9_outY_42 rfl rfl X (fun h108 X => ?_)
    refine r_ald0 44 dX9_outY_43 rfl ?_
    refine r_gR 47 dX9_outY_44 rfl lfX9_51 rfl X (fun b109 X => ?_)
    refine r_ild1 48 dX9_outY_47 rfl ?_
    refine r_lconst 49 _ dX9_outY_48 rfl kl_0 ?_
    refine r_zL 50 1 dX9_outY_49 rfl rfl X (fun h110 X => ?_)
    refine r_ald0 51 dX9_outY_50 rfl ?_
    refine r_gR 54 dX9_outY_51 rfl lfX9_51 rfl X (fun b111 X => ?_)
    refine r_ild1 55 dX9_outY_54 rfl ?_
    refine r_iconst 56 _ dX9_outY_55 rfl ki_2 ?_
    refine r_iadd 57 dX9_outY_56 rfl ?_
    refine r_lconst 58 _ dX9_outY_57 rfl kl_0 ?_
    refine r_zL 59 1 dX9_outY_58 rfl rfl X (fun h112 X => ?_)
    refine r_iinc1w 62 dX9_outY_59 rfl rfl ki_4 X (fun x113 X => ?_)
    refine r_goto 7 dX9_outY_62 (by decide) ?_
    exact r_cut (hK7 _ _ _ X) ⟨rfl, ⟨rfl, trivial⟩⟩
theorem wX9_outY_7L (G : GG) (hG : GT G) (R : Unit × AH) : ∀ (m : Nat) (l0 : Nat) (l1 : Int32) (h : AH), fX9_outY_7L m l0 l1 h = some R → AW (eX9_outY G R) RX9 cX9_outY 7 [some (.ref (gB G + l0)), some (.int l1)] [] h 0 0 := by
  intro m
  induction m with
  | zero => intro l0 l1 h X; exact nomatch (show (none : Fn Unit) = some R from X)
  | succ m ih => intro l0 l1 h X; exact wX9_outY_7 G hG R ih l0 l1 h X
theorem wX9_outY (G : GG) (hG : GT G) (R : Unit × AH) (a0 : Nat) (h : AH) (X : fX9_outY a0 h = some R) : AW (eX9_outY G R) RX9 cX9_outY 0 [some (.ref (gB G + a0)), none] [] h 0 0 := by
  unfold fX9_outY at X
  refine r_ald0 1 dX9_outY_0 rfl ?_
  refine r_iconst 2 _ dX9_outY_1 rfl ki_0 ?_
  refine r_pZ 5 dX9_outY_2 rfl lpX9_69 rfl X (fun h101 X => ?_)
  refine r_iconst 6 _ dX9_outY_5 rfl ki_0 ?_
  refine r_ist1 7 dX9_outY_6 rfl rfl ?_
  exact r_cut (wX9_outY_7L G hG R 1000 _ _ _ X) ⟨rfl, ⟨rfl, trivial⟩⟩
theorem mtX9_outY (G : GG) (hG : GT G) {a0 : Nat} {h h' : AH} {v : Unit} (hc : fX9_outY a0 h = some (v, h')) : AMet G yX9_outY cX9_outY 2 none 3 73 0 0 [.ref (gB G + a0)] h none h' :=
  amet_of false [some (.ref (gB G + a0)), none] (by decide +kernel) (by decide) (Nat.le_of_ble_eq_true rfl) rfl (Nat.le_of_ble_eq_true rfl) (wX9_outY G hG (v, h') _ h hc)
