theorem dX1_workOutCorners_0 : decode cX1_workOutCorners 0 = .ok (.aload_n 0, 1) := by decide +kernel
theorem dX1_workOutCorners_1 : decode cX1_workOutCorners 1 = .ok (.aload_n 0, 1) := by decide +kernel
theorem dX1_workOutCorners_2 : decode cX1_workOutCorners 2 = .ok (.getfield 14, 3) := by decide +kernel
theorem dX1_workOutCorners_5 : decode cX1_workOutCorners 5 = .ok (.getfield 68, 3) := by decide +kernel
theorem dX1_workOutCorners_8 : decode cX1_workOutCorners 8 = .ok (.ifCond .eq 7, 3) := by decide +kernel
theorem dX1_workOutCorners_11 : decode cX1_workOutCorners 11 = .ok (.iconst 1, 1) := by decide +kernel
theorem dX1_workOutCorners_12 : decode cX1_workOutCorners 12 = .ok (.goto 4, 3) := by decide +kernel
theorem dX1_workOutCorners_15 : decode cX1_workOutCorners 15 = .ok (.iconst 2, 1) := by decide +kernel
theorem dX1_workOutCorners_16 : decode cX1_workOutCorners 16 = .ok (.aload_n 0, 1) := by decide +kernel
theorem dX1_workOutCorners_17 : decode cX1_workOutCorners 17 = .ok (.getfield 20, 3) := by decide +kernel
theorem dX1_workOutCorners_20 : decode cX1_workOutCorners 20 = .ok (.getfield 68, 3) := by decide +kernel
theorem dX1_workOutCorners_23 : decode cX1_workOutCorners 23 = .ok (.ifCond .eq 7, 3) := by decide +kernel
theorem dX1_workOutCorners_26 : decode cX1_workOutCorners 26 = .ok (.iconst 1, 1) := by decide +kernel
theorem dX1_workOutCorners_27 : decode cX1_workOutCorners 27 = .ok (.goto 4, 3) := by decide +kernel
theorem dX1_workOutCorners_30 : decode cX1_workOutCorners 30 = .ok (.iconst 2, 1) := by decide +kernel
theorem dX1_workOutCorners_31 : decode cX1_workOutCorners 31 = .ok (.imul, 1) := by decide +kernel
theorem dX1_workOutCorners_32 : decode cX1_workOutCorners 32 = .ok (.putfield 36, 3) := by decide +kernel
theorem dX1_workOutCorners_35 : decode cX1_workOutCorners 35 = .ok (.aload_n 0, 1) := by decide +kernel
theorem dX1_workOutCorners_36 : decode cX1_workOutCorners 36 = .ok (.aload_n 0, 1) := by decide +kernel
theorem dX1_workOutCorners_37 : decode cX1_workOutCorners 37 = .ok (.getfield 30, 3) := by decide +kernel
theorem dX1_workOutCorners_40 : decode cX1_workOutCorners 40 = .ok (.iconst 0, 1) := by decide +kernel
theorem dX1_workOutCorners_41 : decode cX1_workOutCorners 41 = .ok (.invokevirtual 97, 3) := by decide +kernel
theorem dX1_workOutCorners_44 : decode cX1_workOutCorners 44 = .ok (.ifCond .eq 19, 3) := by decide +kernel
theorem dX1_workOutCorners_47 : decode cX1_workOutCorners 47 = .ok (.aload_n 0, 1) := by decide +kernel
theorem dX1_workOutCorners_48 : decode cX1_workOutCorners 48 = .ok (.aload_n 0, 1) := by decide +kernel
theorem dX1_workOutCorners_49 : decode cX1_workOutCorners 49 = .ok (.getfield 33, 3) := by decide +kernel
theorem dX1_workOutCorners_52 : decode cX1_workOutCorners 52 = .ok (.iconst 4, 1) := by decide +kernel
theorem dX1_workOutCorners_53 : decode cX1_workOutCorners 53 = .ok (.invokevirtual 97, 3) := by decide +kernel
theorem dX1_workOutCorners_56 : decode cX1_workOutCorners 56 = .ok (.ifCond .eq 7, 3) := by decide +kernel
theorem dX1_workOutCorners_59 : decode cX1_workOutCorners 59 = .ok (.iconst 1, 1) := by decide +kernel
theorem dX1_workOutCorners_60 : decode cX1_workOutCorners 60 = .ok (.goto 4, 3) := by decide +kernel
theorem dX1_workOutCorners_63 : decode cX1_workOutCorners 63 = .ok (.iconst 0, 1) := by decide +kernel
theorem dX1_workOutCorners_64 : decode cX1_workOutCorners 64 = .ok (.ireturn, 1) := by decide +kernel
theorem dX1_fillCorners_0 : decode cX1_fillCorners 0 = .ok (.aload_n 0, 1) := by decide +kernel
theorem dX1_fillCorners_1 : decode cX1_fillCorners 1 = .ok (.getfield 23, 3) := by decide +kernel
theorem dX1_fillCorners_4 : decode cX1_fillCorners 4 = .ok (.iload_n 2, 1) := by decide +kernel
theorem dX1_fillCorners_5 : decode cX1_fillCorners 5 = .ok (.laload, 1) := by decide +kernel
theorem dX1_fillCorners_6 : decode cX1_fillCorners 6 = .ok (.lstore_n 3, 1) := by decide +kernel
theorem dX1_fillCorners_7 : decode cX1_fillCorners 7 = .ok (.aload_n 0, 1) := by decide +kernel
theorem dX1_fillCorners_8 : decode cX1_fillCorners 8 = .ok (.getfield 23, 3) := by decide +kernel
theorem dX1_fillCorners_11 : decode cX1_fillCorners 11 = .ok (.iload_n 2, 1) := by decide +kernel
theorem dX1_fillCorners_12 : decode cX1_fillCorners 12 = .ok (.iconst 1, 1) := by decide +kernel
theorem dX1_fillCorners_13 : decode cX1_fillCorners 13 = .ok (.iadd, 1) := by decide +kernel
theorem dX1_fillCorners_14 : decode cX1_fillCorners 14 = .ok (.laload, 1) := by decide +kernel
theorem dX1_fillCorners_15 : decode cX1_fillCorners 15 = .ok (.lstore 5, 2) := by decide +kernel
theorem dX1_fillCorners_17 : decode cX1_fillCorners 17 = .ok (.aload_n 0, 1) := by decide +kernel
theorem dX1_fillCorners_18 : decode cX1_fillCorners 18 = .ok (.getfield 23, 3) := by decide +kernel
theorem dX1_fillCorners_21 : decode cX1_fillCorners 21 = .ok (.iload_n 2, 1) := by decide +kernel
theorem dX1_fillCorners_22 : decode cX1_fillCorners 22 = .ok (.iconst 2, 1) := by decide +kernel
theorem dX1_fillCorners_23 : decode cX1_fillCorners 23 = .ok (.iadd, 1) := by decide +kernel
theorem dX1_fillCorners_24 : decode cX1_fillCorners 24 = .ok (.laload, 1) := by decide +kernel
theorem dX1_fillCorners_25 : decode cX1_fillCorners 25 = .ok (.lstore 7, 2) := by decide +kernel
theorem dX1_fillCorners_27 : decode cX1_fillCorners 27 = .ok (.aload_n 0, 1) := by decide +kernel
theorem dX1_fillCorners_28 : decode cX1_fillCorners 28 = .ok (.getfield 23, 3) := by decide +kernel
theorem dX1_fillCorners_31 : decode cX1_fillCorners 31 = .ok (.iload_n 2, 1) := by decide +kernel
theorem dX1_fillCorners_32 : decode cX1_fillCorners 32 = .ok (.iconst 3, 1) := by decide +kernel
theorem dX1_fillCorners_33 : decode cX1_fillCorners 33 = .ok (.iadd, 1) := by decide +kernel
theorem dX1_fillCorners_34 : decode cX1_fillCorners 34 = .ok (.laload, 1) := by decide +kernel
theorem dX1_fillCorners_35 : decode cX1_fillCorners 35 = .ok (.lstore 9, 2) := by decide +kernel
theorem dX1_fillCorners_37 : decode cX1_fillCorners 37 = .ok (.aload_n 0, 1) := by decide +kernel
theorem dX1_fillCorners_38 : decode cX1_fillCorners 38 = .ok (.getfield 14, 3) := by decide +kernel
theorem dX1_fillCorners_41 : decode cX1_fillCorners 41 = .ok (.getfield 68, 3) := by decide +kernel
theorem dX1_fillCorners_44 : decode cX1_fillCorners 44 = .ok (.ifCond .eq 21, 3) := by decide +kernel
theorem dX1_fillCorners_47 : decode cX1_fillCorners 47 = .ok (.aload_n 0, 1) := by decide +kernel
theorem dX1_fillCorners_48 : decode cX1_fillCorners 48 = .ok (.getfield 20, 3) := by decide +kernel
theorem dX1_fillCorners_51 : decode cX1_fillCorners 51 = .ok (.getfield 68, 3) := by decide +kernel
theorem dX1_fillCorners_54 : decode cX1_fillCorners 54 = .ok (.ifCond .eq 11, 3) := by decide +kernel
theorem dX1_fillCorners_57 : decode cX1_fillCorners 57 = .ok (.aload_n 1, 1) := by decide +kernel
theorem dX1_fillCorners_58 : decode cX1_fillCorners 58 = .ok (.iconst 0, 1) := by decide +kernel
theorem dX1_fillCorners_59 : decode cX1_fillCorners 59 = .ok (.lload 9, 2) := by decide +kernel
theorem dX1_fillCorners_61 : decode cX1_fillCorners 61 = .ok (.lastore, 1) := by decide +kernel
theorem dX1_fillCorners_62 : decode cX1_fillCorners 62 = .ok (.goto 100, 3) := by decide +kernel
theorem dX1_fillCorners_65 : decode cX1_fillCorners 65 = .ok (.aload_n 0, 1) := by decide +kernel
theorem dX1_fillCorners_66 : decode cX1_fillCorners 66 = .ok (.getfield 14, 3) := by decide +kernel
theorem dX1_fillCorners_69 : decode cX1_fillCorners 69 = .ok (.getfield 68, 3) := by decide +kernel
theorem dX1_fillCorners_72 : decode cX1_fillCorners 72 = .ok (.ifCond .eq 21, 3) := by decide +kernel
theorem dX1_fillCorners_75 : decode cX1_fillCorners 75 = .ok (.aload_n 1, 1) := by decide +kernel
theorem dX1_fillCorners_76 : decode cX1_fillCorners 76 = .ok (.iconst 0, 1) := by decide +kernel
theorem dX1_fillCorners_77 : decode cX1_fillCorners 77 = .ok (.lload 7, 2) := by decide +kernel
theorem dX1_fillCorners_79 : decode cX1_fillCorners 79 = .ok (.lload 9, 2) := by decide +kernel
theorem dX1_fillCorners_81 : decode cX1_fillCorners 81 = .ok (.invokestatic 101, 3) := by decide +kernel
theorem dX1_fillCorners_84 : decode cX1_fillCorners 84 = .ok (.lastore, 1) := by decide +kernel
theorem dX1_fillCorners_85 : decode cX1_fillCorners 85 = .ok (.aload_n 1, 1) := by decide +kernel
theorem dX1_fillCorners_86 : decode cX1_fillCorners 86 = .ok (.iconst 1, 1) := by decide +kernel
theorem dX1_fillCorners_87 : decode cX1_fillCorners 87 = .ok (.lload 7, 2) := by decide +kernel
theorem dX1_fillCorners_89 : decode cX1_fillCorners 89 = .ok (.lastore, 1) := by decide +kernel
theorem dX1_fillCorners_90 : decode cX1_fillCorners 90 = .ok (.goto 72, 3) := by decide +kernel
theorem dX1_fillCorners_93 : decode cX1_fillCorners 93 = .ok (.aload_n 0, 1) := by decide +kernel
theorem dX1_fillCorners_94 : decode cX1_fillCorners 94 = .ok (.getfield 20, 3) := by decide +kernel
theorem dX1_fillCorners_97 : decode cX1_fillCorners 97 = .ok (.getfield 68, 3) := by decide +kernel
theorem dX1_fillCorners_100 : decode cX1_fillCorners 100 = .ok (.ifCond .eq 21, 3) := by decide +kernel
theorem dX1_fillCorners_103 : decode cX1_fillCorners 103 = .ok (.aload_n 1, 1) := by decide +kernel
theorem dX1_fillCorners_104 : decode cX1_fillCorners 104 = .ok (.iconst 0, 1) := by decide +kernel
theorem dX1_fillCorners_105 : decode cX1_fillCorners 105 = .ok (.lload 5, 2) := by decide +kernel
theorem dX1_fillCorners_107 : decode cX1_fillCorners 107 = .ok (.lload 9, 2) := by decide +kernel
theorem dX1_fillCorners_109 : decode cX1_fillCorners 109 = .ok (.invokestatic 101, 3) := by decide +kernel
theorem dX1_fillCorners_112 : decode cX1_fillCorners 112 = .ok (.lastore, 1) := by decide +kernel
theorem dX1_fillCorners_113 : decode cX1_fillCorners 113 = .ok (.aload_n 1, 1) := by decide +kernel
theorem dX1_fillCorners_114 : decode cX1_fillCorners 114 = .ok (.iconst 1, 1) := by decide +kernel
theorem dX1_fillCorners_115 : decode cX1_fillCorners 115 = .ok (.lload 5, 2) := by decide +kernel
theorem dX1_fillCorners_117 : decode cX1_fillCorners 117 = .ok (.lastore, 1) := by decide +kernel
theorem dX1_fillCorners_118 : decode cX1_fillCorners 118 = .ok (.goto 44, 3) := by decide +kernel
theorem dX1_fillCorners_121 : decode cX1_fillCorners 121 = .ok (.aload_n 1, 1) := by decide +kernel
theorem dX1_fillCorners_122 : decode cX1_fillCorners 122 = .ok (.iconst 0, 1) := by decide +kernel
theorem dX1_fillCorners_123 : decode cX1_fillCorners 123 = .ok (.lload_n 3, 1) := by decide +kernel
theorem dX1_fillCorners_124 : decode cX1_fillCorners 124 = .ok (.lload 5, 2) := by decide +kernel
theorem dX1_fillCorners_126 : decode cX1_fillCorners 126 = .ok (.invokestatic 101, 3) := by decide +kernel
theorem dX1_fillCorners_129 : decode cX1_fillCorners 129 = .ok (.lload 7, 2) := by decide +kernel
theorem dX1_fillCorners_131 : decode cX1_fillCorners 131 = .ok (.invokestatic 101, 3) := by decide +kernel
theorem dX1_fillCorners_134 : decode cX1_fillCorners 134 = .ok (.lload 9, 2) := by decide +kernel
theorem dX1_fillCorners_136 : decode cX1_fillCorners 136 = .ok (.invokestatic 101, 3) := by decide +kernel
theorem dX1_fillCorners_139 : decode cX1_fillCorners 139 = .ok (.lastore, 1) := by decide +kernel
theorem dX1_fillCorners_140 : decode cX1_fillCorners 140 = .ok (.aload_n 1, 1) := by decide +kernel
theorem dX1_fillCorners_141 : decode cX1_fillCorners 141 = .ok (.iconst 1, 1) := by decide +kernel
theorem dX1_fillCorners_142 : decode cX1_fillCorners 142 = .ok (.lload_n 3, 1) := by decide +kernel
theorem dX1_fillCorners_143 : decode cX1_fillCorners 143 = .ok (.lload 5, 2) := by decide +kernel
theorem dX1_fillCorners_145 : decode cX1_fillCorners 145 = .ok (.invokestatic 101, 3) := by decide +kernel
theorem dX1_fillCorners_148 : decode cX1_fillCorners 148 = .ok (.lastore, 1) := by decide +kernel
theorem dX1_fillCorners_149 : decode cX1_fillCorners 149 = .ok (.aload_n 1, 1) := by decide +kernel
theorem dX1_fillCorners_150 : decode cX1_fillCorners 150 = .ok (.iconst 2, 1) := by decide +kernel
theorem dX1_fillCorners_151 : decode cX1_fillCorners 151 = .ok (.lload_n 3, 1) := by decide +kernel
theorem dX1_fillCorners_152 : decode cX1_fillCorners 152 = .ok (.lload 7, 2) := by decide +kernel
theorem dX1_fillCorners_154 : decode cX1_fillCorners 154 = .ok (.invokestatic 101, 3) := by decide +kernel
theorem dX1_fillCorners_157 : decode cX1_fillCorners 157 = .ok (.lastore, 1) := by decide +kernel
theorem dX1_fillCorners_158 : decode cX1_fillCorners 158 = .ok (.aload_n 1, 1) := by decide +kernel
theorem dX1_fillCorners_159 : decode cX1_fillCorners 159 = .ok (.iconst 3, 1) := by decide +kernel
theorem dX1_fillCorners_160 : decode cX1_fillCorners 160 = .ok (.lload_n 3, 1) := by decide +kernel
theorem dX1_fillCorners_161 : decode cX1_fillCorners 161 = .ok (.lastore, 1) := by decide +kernel
theorem dX1_fillCorners_162 : decode cX1_fillCorners 162 = .ok (.iconst 0, 1) := by decide +kernel
theorem dX1_fillCorners_163 : decode cX1_fillCorners 163 = .ok (.istore 11, 2) := by decide +kernel
theorem dX1_fillCorners_165 : decode cX1_fillCorners 165 = .ok (.iload 11, 2) := by decide +kernel
theorem dX1_fillCorners_167 : decode cX1_fillCorners 167 = .ok (.aload_n 0, 1) := by decide +kernel
theorem dX1_fillCorners_168 : decode cX1_fillCorners 168 = .ok (.getfield 36, 3) := by decide +kernel
theorem dX1_fillCorners_171 : decode cX1_fillCorners 171 = .ok (.if_icmp .ge 21, 3) := by decide +kernel
theorem dX1_fillCorners_174 : decode cX1_fillCorners 174 = .ok (.aload_n 1, 1) := by decide +kernel
theorem dX1_fillCorners_175 : decode cX1_fillCorners 175 = .ok (.iload 11, 2) := by decide +kernel
theorem dX1_fillCorners_177 : decode cX1_fillCorners 177 = .ok (.laload, 1) := by decide +kernel
theorem dX1_fillCorners_178 : decode cX1_fillCorners 178 = .ok (.invokestatic 104, 3) := by decide +kernel
theorem dX1_fillCorners_181 : decode cX1_fillCorners 181 = .ok (.ifCond .eq 5, 3) := by decide +kernel
theorem dX1_fillCorners_184 : decode cX1_fillCorners 184 = .ok (.iconst 0, 1) := by decide +kernel
theorem dX1_fillCorners_185 : decode cX1_fillCorners 185 = .ok (.ireturn, 1) := by decide +kernel
theorem dX1_fillCorners_186 : decode cX1_fillCorners 186 = .ok (.iinc 11 1, 3) := by decide +kernel
theorem dX1_fillCorners_189 : decode cX1_fillCorners 189 = .ok (.goto (-24), 3) := by decide +kernel
theorem dX1_fillCorners_192 : decode cX1_fillCorners 192 = .ok (.iconst 1, 1) := by decide +kernel
theorem dX1_fillCorners_193 : decode cX1_fillCorners 193 = .ok (.ireturn, 1) := by decide +kernel
theorem dX1_cornersAgree_0 : decode cX1_cornersAgree 0 = .ok (.iconst 0, 1) := by decide +kernel
theorem dX1_cornersAgree_1 : decode cX1_cornersAgree 1 = .ok (.istore_n 1, 1) := by decide +kernel
theorem dX1_cornersAgree_2 : decode cX1_cornersAgree 2 = .ok (.iload_n 1, 1) := by decide +kernel
theorem dX1_cornersAgree_3 : decode cX1_cornersAgree 3 = .ok (.aload_n 0, 1) := by decide +kernel
theorem dX1_cornersAgree_4 : decode cX1_cornersAgree 4 = .ok (.getfield 36, 3) := by decide +kernel
theorem dX1_cornersAgree_7 : decode cX1_cornersAgree 7 = .ok (.if_icmp .ge 57, 3) := by decide +kernel
theorem dX1_cornersAgree_10 : decode cX1_cornersAgree 10 = .ok (.aload_n 0, 1) := by decide +kernel
theorem dX1_cornersAgree_11 : decode cX1_cornersAgree 11 = .ok (.getfield 33, 3) := by decide +kernel
theorem dX1_cornersAgree_14 : decode cX1_cornersAgree 14 = .ok (.iload_n 1, 1) := by decide +kernel
theorem dX1_cornersAgree_15 : decode cX1_cornersAgree 15 = .ok (.laload, 1) := by decide +kernel
theorem dX1_cornersAgree_16 : decode cX1_cornersAgree 16 = .ok (.lconst 0, 1) := by decide +kernel
theorem dX1_cornersAgree_17 : decode cX1_cornersAgree 17 = .ok (.lcmp, 1) := by decide +kernel
theorem dX1_cornersAgree_18 : decode cX1_cornersAgree 18 = .ok (.ifCond .eq 38, 3) := by decide +kernel
theorem dX1_cornersAgree_21 : decode cX1_cornersAgree 21 = .ok (.aload_n 0, 1) := by decide +kernel
theorem dX1_cornersAgree_22 : decode cX1_cornersAgree 22 = .ok (.getfield 33, 3) := by decide +kernel
theorem dX1_cornersAgree_25 : decode cX1_cornersAgree 25 = .ok (.iload_n 1, 1) := by decide +kernel
theorem dX1_cornersAgree_26 : decode cX1_cornersAgree 26 = .ok (.laload, 1) := by decide +kernel
theorem dX1_cornersAgree_27 : decode cX1_cornersAgree 27 = .ok (.lconst 0, 1) := by decide +kernel
theorem dX1_cornersAgree_28 : decode cX1_cornersAgree 28 = .ok (.lcmp, 1) := by decide +kernel
theorem dX1_cornersAgree_29 : decode cX1_cornersAgree 29 = .ok (.ifCond .ge 7, 3) := by decide +kernel
theorem dX1_cornersAgree_32 : decode cX1_cornersAgree 32 = .ok (.iconst 1, 1) := by decide +kernel
theorem dX1_cornersAgree_33 : decode cX1_cornersAgree 33 = .ok (.goto 4, 3) := by decide +kernel
theorem dX1_cornersAgree_36 : decode cX1_cornersAgree 36 = .ok (.iconst 0, 1) := by decide +kernel
theorem dX1_cornersAgree_37 : decode cX1_cornersAgree 37 = .ok (.aload_n 0, 1) := by decide +kernel
theorem dX1_cornersAgree_38 : decode cX1_cornersAgree 38 = .ok (.getfield 33, 3) := by decide +kernel
theorem dX1_cornersAgree_41 : decode cX1_cornersAgree 41 = .ok (.iconst 0, 1) := by decide +kernel
theorem dX1_cornersAgree_42 : decode cX1_cornersAgree 42 = .ok (.laload, 1) := by decide +kernel
theorem dX1_cornersAgree_43 : decode cX1_cornersAgree 43 = .ok (.lconst 0, 1) := by decide +kernel
theorem dX1_cornersAgree_44 : decode cX1_cornersAgree 44 = .ok (.lcmp, 1) := by decide +kernel
theorem dX1_cornersAgree_45 : decode cX1_cornersAgree 45 = .ok (.ifCond .ge 7, 3) := by decide +kernel
theorem dX1_cornersAgree_48 : decode cX1_cornersAgree 48 = .ok (.iconst 1, 1) := by decide +kernel
theorem dX1_cornersAgree_49 : decode cX1_cornersAgree 49 = .ok (.goto 4, 3) := by decide +kernel
theorem dX1_cornersAgree_52 : decode cX1_cornersAgree 52 = .ok (.iconst 0, 1) := by decide +kernel
theorem dX1_cornersAgree_53 : decode cX1_cornersAgree 53 = .ok (.if_icmp .eq 5, 3) := by decide +kernel
theorem dX1_cornersAgree_56 : decode cX1_cornersAgree 56 = .ok (.iconst 0, 1) := by decide +kernel
theorem dX1_cornersAgree_57 : decode cX1_cornersAgree 57 = .ok (.ireturn, 1) := by decide +kernel
theorem dX1_cornersAgree_58 : decode cX1_cornersAgree 58 = .ok (.iinc 1 1, 3) := by decide +kernel
theorem dX1_cornersAgree_61 : decode cX1_cornersAgree 61 = .ok (.goto (-59), 3) := by decide +kernel
theorem dX1_cornersAgree_64 : decode cX1_cornersAgree 64 = .ok (.aload_n 0, 1) := by decide +kernel
theorem dX1_cornersAgree_65 : decode cX1_cornersAgree 65 = .ok (.getfield 30, 3) := by decide +kernel
theorem dX1_cornersAgree_68 : decode cX1_cornersAgree 68 = .ok (.iconst 0, 1) := by decide +kernel
theorem dX1_cornersAgree_69 : decode cX1_cornersAgree 69 = .ok (.laload, 1) := by decide +kernel
theorem dX1_cornersAgree_70 : decode cX1_cornersAgree 70 = .ok (.aload_n 0, 1) := by decide +kernel
theorem dX1_cornersAgree_71 : decode cX1_cornersAgree 71 = .ok (.getfield 33, 3) := by decide +kernel
theorem dX1_cornersAgree_74 : decode cX1_cornersAgree 74 = .ok (.iconst 0, 1) := by decide +kernel
theorem dX1_cornersAgree_75 : decode cX1_cornersAgree 75 = .ok (.laload, 1) := by decide +kernel
theorem dX1_cornersAgree_76 : decode cX1_cornersAgree 76 = .ok (.invokestatic 85, 3) := by decide +kernel
theorem dX1_cornersAgree_79 : decode cX1_cornersAgree 79 = .ok (.lstore_n 1, 1) := by decide +kernel
theorem dX1_cornersAgree_80 : decode cX1_cornersAgree 80 = .ok (.iconst 1, 1) := by decide +kernel
theorem dX1_cornersAgree_81 : decode cX1_cornersAgree 81 = .ok (.istore_n 3, 1) := by decide +kernel
theorem dX1_cornersAgree_82 : decode cX1_cornersAgree 82 = .ok (.iload_n 3, 1) := by decide +kernel
theorem dX1_cornersAgree_83 : decode cX1_cornersAgree 83 = .ok (.aload_n 0, 1) := by decide +kernel
theorem dX1_cornersAgree_84 : decode cX1_cornersAgree 84 = .ok (.getfield 36, 3) := by decide +kernel
theorem dX1_cornersAgree_87 : decode cX1_cornersAgree 87 = .ok (.if_icmp .ge 31, 3) := by decide +kernel
theorem dX1_cornersAgree_90 : decode cX1_cornersAgree 90 = .ok (.aload_n 0, 1) := by decide +kernel
theorem dX1_cornersAgree_91 : decode cX1_cornersAgree 91 = .ok (.getfield 30, 3) := by decide +kernel
theorem dX1_cornersAgree_94 : decode cX1_cornersAgree 94 = .ok (.iload_n 3, 1) := by decide +kernel
theorem dX1_cornersAgree_95 : decode cX1_cornersAgree 95 = .ok (.laload, 1) := by decide +kernel
theorem dX1_cornersAgree_96 : decode cX1_cornersAgree 96 = .ok (.aload_n 0, 1) := by decide +kernel
theorem dX1_cornersAgree_97 : decode cX1_cornersAgree 97 = .ok (.getfield 33, 3) := by decide +kernel
theorem dX1_cornersAgree_100 : decode cX1_cornersAgree 100 = .ok (.iload_n 3, 1) := by decide +kernel
theorem dX1_cornersAgree_101 : decode cX1_cornersAgree 101 = .ok (.laload, 1) := by decide +kernel
theorem dX1_cornersAgree_102 : decode cX1_cornersAgree 102 = .ok (.invokestatic 85, 3) := by decide +kernel
theorem dX1_cornersAgree_105 : decode cX1_cornersAgree 105 = .ok (.lload_n 1, 1) := by decide +kernel
theorem dX1_cornersAgree_106 : decode cX1_cornersAgree 106 = .ok (.lcmp, 1) := by decide +kernel
theorem dX1_cornersAgree_107 : decode cX1_cornersAgree 107 = .ok (.ifCond .eq 5, 3) := by decide +kernel
theorem dX1_cornersAgree_110 : decode cX1_cornersAgree 110 = .ok (.iconst 0, 1) := by decide +kernel
theorem dX1_cornersAgree_111 : decode cX1_cornersAgree 111 = .ok (.ireturn, 1) := by decide +kernel
theorem dX1_cornersAgree_112 : decode cX1_cornersAgree 112 = .ok (.iinc 3 1, 3) := by decide +kernel
theorem dX1_cornersAgree_115 : decode cX1_cornersAgree 115 = .ok (.goto (-33), 3) := by decide +kernel
theorem dX1_cornersAgree_118 : decode cX1_cornersAgree 118 = .ok (.iconst 1, 1) := by decide +kernel
theorem dX1_cornersAgree_119 : decode cX1_cornersAgree 119 = .ok (.ireturn, 1) := by decide +kernel
theorem dX1_giveTo_0 : decode cX1_giveTo 0 = .ok (.iconst 0, 1) := by decide +kernel
theorem dX1_giveTo_1 : decode cX1_giveTo 1 = .ok (.istore 4, 2) := by decide +kernel
theorem dX1_giveTo_3 : decode cX1_giveTo 3 = .ok (.iload 4, 2) := by decide +kernel
theorem dX1_giveTo_5 : decode cX1_giveTo 5 = .ok (.iconst 4, 1) := by decide +kernel
theorem dX1_giveTo_6 : decode cX1_giveTo 6 = .ok (.if_icmp .ge 57, 3) := by decide +kernel
theorem dX1_giveTo_9 : decode cX1_giveTo 9 = .ok (.aload_n 0, 1) := by decide +kernel
theorem dX1_giveTo_10 : decode cX1_giveTo 10 = .ok (.getfield 27, 3) := by decide +kernel
theorem dX1_giveTo_13 : decode cX1_giveTo 13 = .ok (.iload 4, 2) := by decide +kernel
theorem dX1_giveTo_15 : decode cX1_giveTo 15 = .ok (.aload_n 0, 1) := by decide +kernel
theorem dX1_giveTo_16 : decode cX1_giveTo 16 = .ok (.getfield 23, 3) := by decide +kernel
theorem dX1_giveTo_19 : decode cX1_giveTo 19 = .ok (.iload 4, 2) := by decide +kernel
theorem dX1_giveTo_21 : decode cX1_giveTo 21 = .ok (.iconst 4, 1) := by decide +kernel
theorem dX1_giveTo_22 : decode cX1_giveTo 22 = .ok (.iadd, 1) := by decide +kernel
theorem dX1_giveTo_23 : decode cX1_giveTo 23 = .ok (.laload, 1) := by decide +kernel
theorem dX1_giveTo_24 : decode cX1_giveTo 24 = .ok (.lastore, 1) := by decide +kernel
theorem dX1_giveTo_25 : decode cX1_giveTo 25 = .ok (.aload_n 0, 1) := by decide +kernel
theorem dX1_giveTo_26 : decode cX1_giveTo 26 = .ok (.getfield 27, 3) := by decide +kernel
theorem dX1_giveTo_29 : decode cX1_giveTo 29 = .ok (.iload 4, 2) := by decide +kernel
theorem dX1_giveTo_31 : decode cX1_giveTo 31 = .ok (.iconst 4, 1) := by decide +kernel
theorem dX1_giveTo_32 : decode cX1_giveTo 32 = .ok (.iadd, 1) := by decide +kernel
theorem dX1_giveTo_33 : decode cX1_giveTo 33 = .ok (.aload_n 0, 1) := by decide +kernel
theorem dX1_giveTo_34 : decode cX1_giveTo 34 = .ok (.getfield 23, 3) := by decide +kernel
theorem dX1_giveTo_37 : decode cX1_giveTo 37 = .ok (.iload 4, 2) := by decide +kernel
theorem dX1_giveTo_39 : decode cX1_giveTo 39 = .ok (.laload, 1) := by decide +kernel
theorem dX1_giveTo_40 : decode cX1_giveTo 40 = .ok (.lload_n 2, 1) := by decide +kernel
theorem dX1_giveTo_41 : decode cX1_giveTo 41 = .ok (.aload_n 0, 1) := by decide +kernel
theorem dX1_giveTo_42 : decode cX1_giveTo 42 = .ok (.getfield 23, 3) := by decide +kernel
theorem dX1_giveTo_45 : decode cX1_giveTo 45 = .ok (.iload 4, 2) := by decide +kernel
theorem dX1_giveTo_47 : decode cX1_giveTo 47 = .ok (.iconst 4, 1) := by decide +kernel
theorem dX1_giveTo_48 : decode cX1_giveTo 48 = .ok (.iadd, 1) := by decide +kernel
theorem dX1_giveTo_49 : decode cX1_giveTo 49 = .ok (.laload, 1) := by decide +kernel
theorem dX1_giveTo_50 : decode cX1_giveTo 50 = .ok (.invokestatic 108, 3) := by decide +kernel
theorem dX1_giveTo_53 : decode cX1_giveTo 53 = .ok (.invokestatic 111, 3) := by decide +kernel
theorem dX1_giveTo_56 : decode cX1_giveTo 56 = .ok (.lastore, 1) := by decide +kernel
theorem dX1_giveTo_57 : decode cX1_giveTo 57 = .ok (.iinc 4 1, 3) := by decide +kernel
theorem dX1_giveTo_60 : decode cX1_giveTo 60 = .ok (.goto (-57), 3) := by decide +kernel
theorem dX1_giveTo_63 : decode cX1_giveTo 63 = .ok (.aload_n 0, 1) := by decide +kernel
theorem dX1_giveTo_64 : decode cX1_giveTo 64 = .ok (.iconst 4, 1) := by decide +kernel
theorem dX1_giveTo_65 : decode cX1_giveTo 65 = .ok (.lload_n 2, 1) := by decide +kernel
theorem dX1_giveTo_66 : decode cX1_giveTo 66 = .ok (.invokevirtual 114, 3) := by decide +kernel
theorem dX1_giveTo_69 : decode cX1_giveTo 69 = .ok (.ifCond .ne 5, 3) := by decide +kernel
theorem dX1_giveTo_72 : decode cX1_giveTo 72 = .ok (.iconst 0, 1) := by decide +kernel
theorem dX1_giveTo_73 : decode cX1_giveTo 73 = .ok (.ireturn, 1) := by decide +kernel
theorem dX1_giveTo_74 : decode cX1_giveTo 74 = .ok (.aload_n 1, 1) := by decide +kernel
theorem dX1_giveTo_75 : decode cX1_giveTo 75 = .ok (.lload_n 2, 1) := by decide +kernel
theorem dX1_giveTo_76 : decode cX1_giveTo 76 = .ok (.invokevirtual 118, 3) := by decide +kernel
theorem dX1_giveTo_79 : decode cX1_giveTo 79 = .ok (.iconst 1, 1) := by decide +kernel
theorem dX1_giveTo_80 : decode cX1_giveTo 80 = .ok (.ireturn, 1) := by decide +kernel
theorem dX1_takeFrom_0 : decode cX1_takeFrom 0 = .ok (.aload_n 1, 1) := by decide +kernel
theorem dX1_takeFrom_1 : decode cX1_takeFrom 1 = .ok (.getfield 122, 3) := by decide +kernel
theorem dX1_takeFrom_4 : decode cX1_takeFrom 4 = .ok (.ifnull 24, 3) := by decide +kernel
theorem dX1_takeFrom_7 : decode cX1_takeFrom 7 = .ok (.aload_n 1, 1) := by decide +kernel
theorem dX1_takeFrom_8 : decode cX1_takeFrom 8 = .ok (.getfield 68, 3) := by decide +kernel
theorem dX1_takeFrom_11 : decode cX1_takeFrom 11 = .ok (.ifCond .ne 17, 3) := by decide +kernel
theorem dX1_takeFrom_14 : decode cX1_takeFrom 14 = .ok (.aload_n 1, 1) := by decide +kernel
theorem dX1_takeFrom_15 : decode cX1_takeFrom 15 = .ok (.getfield 64, 3) := by decide +kernel
theorem dX1_takeFrom_18 : decode cX1_takeFrom 18 = .ok (.aload_n 1, 1) := by decide +kernel
theorem dX1_takeFrom_19 : decode cX1_takeFrom 19 = .ok (.getfield 122, 3) := by decide +kernel
theorem dX1_takeFrom_22 : decode cX1_takeFrom 22 = .ok (.getfield 72, 3) := by decide +kernel
theorem dX1_takeFrom_25 : decode cX1_takeFrom 25 = .ok (.if_icmp .lt 5, 3) := by decide +kernel
theorem dX1_takeFrom_28 : decode cX1_takeFrom 28 = .ok (.iconst 0, 1) := by decide +kernel
theorem dX1_takeFrom_29 : decode cX1_takeFrom 29 = .ok (.ireturn, 1) := by decide +kernel
theorem dX1_takeFrom_30 : decode cX1_takeFrom 30 = .ok (.aload_n 0, 1) := by decide +kernel
theorem dX1_takeFrom_31 : decode cX1_takeFrom 31 = .ok (.aload_n 1, 1) := by decide +kernel
theorem dX1_takeFrom_32 : decode cX1_takeFrom 32 = .ok (.aload_n 1, 1) := by decide +kernel
theorem dX1_takeFrom_33 : decode cX1_takeFrom 33 = .ok (.getfield 122, 3) := by decide +kernel
theorem dX1_takeFrom_36 : decode cX1_takeFrom 36 = .ok (.aload_n 1, 1) := by decide +kernel
theorem dX1_takeFrom_37 : decode cX1_takeFrom 37 = .ok (.getfield 64, 3) := by decide +kernel
theorem dX1_takeFrom_40 : decode cX1_takeFrom 40 = .ok (.invokevirtual 126, 3) := by decide +kernel
theorem dX1_takeFrom_43 : decode cX1_takeFrom 43 = .ok (.invokevirtual 130, 3) := by decide +kernel
theorem dX1_takeFrom_46 : decode cX1_takeFrom 46 = .ok (.ifCond .ne 5, 3) := by decide +kernel
theorem dX1_takeFrom_49 : decode cX1_takeFrom 49 = .ok (.iconst 0, 1) := by decide +kernel
theorem dX1_takeFrom_50 : decode cX1_takeFrom 50 = .ok (.ireturn, 1) := by decide +kernel
theorem dX1_takeFrom_51 : decode cX1_takeFrom 51 = .ok (.aload_n 1, 1) := by decide +kernel
theorem dX1_takeFrom_52 : decode cX1_takeFrom 52 = .ok (.invokevirtual 134, 3) := by decide +kernel
theorem dX1_takeFrom_55 : decode cX1_takeFrom 55 = .ok (.ifCond .eq 11, 3) := by decide +kernel
theorem dX1_takeFrom_58 : decode cX1_takeFrom 58 = .ok (.aload_n 0, 1) := by decide +kernel
theorem dX1_takeFrom_59 : decode cX1_takeFrom 59 = .ok (.aload_n 1, 1) := by decide +kernel
theorem dX1_takeFrom_60 : decode cX1_takeFrom 60 = .ok (.invokevirtual 137, 3) := by decide +kernel
theorem dX1_takeFrom_63 : decode cX1_takeFrom 63 = .ok (.ifCond .eq 7, 3) := by decide +kernel
theorem dX1_takeFrom_66 : decode cX1_takeFrom 66 = .ok (.iconst 1, 1) := by decide +kernel
theorem dX1_takeFrom_67 : decode cX1_takeFrom 67 = .ok (.goto 4, 3) := by decide +kernel
theorem dX1_takeFrom_70 : decode cX1_takeFrom 70 = .ok (.iconst 0, 1) := by decide +kernel
theorem dX1_takeFrom_71 : decode cX1_takeFrom 71 = .ok (.ireturn, 1) := by decide +kernel
theorem dX1_takePart_0 : decode cX1_takePart 0 = .ok (.iconst 0, 1) := by decide +kernel
theorem dX1_takePart_1 : decode cX1_takePart 1 = .ok (.istore 4, 2) := by decide +kernel
theorem dX1_takePart_3 : decode cX1_takePart 3 = .ok (.iload 4, 2) := by decide +kernel
theorem dX1_takePart_5 : decode cX1_takePart 5 = .ok (.bipush 8, 2) := by decide +kernel
theorem dX1_takePart_7 : decode cX1_takePart 7 = .ok (.if_icmp .ge 75, 3) := by decide +kernel
theorem dX1_takePart_10 : decode cX1_takePart 10 = .ok (.iload 4, 2) := by decide +kernel
theorem dX1_takePart_12 : decode cX1_takePart 12 = .ok (.aload_n 1, 1) := by decide +kernel
theorem dX1_takePart_13 : decode cX1_takePart 13 = .ok (.getfield 140, 3) := by decide +kernel
theorem dX1_takePart_16 : decode cX1_takePart 16 = .ok (.ixor, 1) := by decide +kernel
theorem dX1_takePart_17 : decode cX1_takePart 17 = .ok (.istore 5, 2) := by decide +kernel
theorem dX1_takePart_19 : decode cX1_takePart 19 = .ok (.iload 4, 2) := by decide +kernel
theorem dX1_takePart_21 : decode cX1_takePart 21 = .ok (.iload 5, 2) := by decide +kernel
theorem dX1_takePart_23 : decode cX1_takePart 23 = .ok (.if_icmp .ge 7, 3) := by decide +kernel
theorem dX1_takePart_26 : decode cX1_takePart 26 = .ok (.iconst 1, 1) := by decide +kernel
theorem dX1_takePart_27 : decode cX1_takePart 27 = .ok (.goto 4, 3) := by decide +kernel
theorem dX1_takePart_30 : decode cX1_takePart 30 = .ok (.iconst 0, 1) := by decide +kernel
theorem dX1_takePart_31 : decode cX1_takePart 31 = .ok (.istore 6, 2) := by decide +kernel
theorem dX1_takePart_33 : decode cX1_takePart 33 = .ok (.aload_n 0, 1) := by decide +kernel
theorem dX1_takePart_34 : decode cX1_takePart 34 = .ok (.getfield 27, 3) := by decide +kernel
theorem dX1_takePart_37 : decode cX1_takePart 37 = .ok (.iload 4, 2) := by decide +kernel
theorem dX1_takePart_39 : decode cX1_takePart 39 = .ok (.iload 6, 2) := by decide +kernel
theorem dX1_takePart_41 : decode cX1_takePart 41 = .ok (.ifCond .eq 27, 3) := by decide +kernel
theorem dX1_takePart_44 : decode cX1_takePart 44 = .ok (.aload_n 0, 1) := by decide +kernel
theorem dX1_takePart_45 : decode cX1_takePart 45 = .ok (.getfield 23, 3) := by decide +kernel
theorem dX1_takePart_48 : decode cX1_takePart 48 = .ok (.iload 4, 2) := by decide +kernel
theorem dX1_takePart_50 : decode cX1_takePart 50 = .ok (.laload, 1) := by decide +kernel
theorem dX1_takePart_51 : decode cX1_takePart 51 = .ok (.lload_n 2, 1) := by decide +kernel
theorem dX1_takePart_52 : decode cX1_takePart 52 = .ok (.invokestatic 108, 3) := by decide +kernel
theorem dX1_takePart_55 : decode cX1_takePart 55 = .ok (.aload_n 0, 1) := by decide +kernel
theorem dX1_takePart_56 : decode cX1_takePart 56 = .ok (.getfield 23, 3) := by decide +kernel
theorem dX1_takePart_59 : decode cX1_takePart 59 = .ok (.iload 5, 2) := by decide +kernel
theorem dX1_takePart_61 : decode cX1_takePart 61 = .ok (.laload, 1) := by decide +kernel
theorem dX1_takePart_62 : decode cX1_takePart 62 = .ok (.invokestatic 101, 3) := by decide +kernel
theorem dX1_takePart_65 : decode cX1_takePart 65 = .ok (.goto 10, 3) := by decide +kernel
theorem dX1_takePart_68 : decode cX1_takePart 68 = .ok (.aload_n 0, 1) := by decide +kernel
theorem dX1_takePart_69 : decode cX1_takePart 69 = .ok (.getfield 23, 3) := by decide +kernel
theorem dX1_takePart_72 : decode cX1_takePart 72 = .ok (.iload 5, 2) := by decide +kernel
theorem dX1_takePart_74 : decode cX1_takePart 74 = .ok (.laload, 1) := by decide +kernel
theorem dX1_takePart_75 : decode cX1_takePart 75 = .ok (.lastore, 1) := by decide +kernel
theorem dX1_takePart_76 : decode cX1_takePart 76 = .ok (.iinc 4 1, 3) := by decide +kernel
theorem dX1_takePart_79 : decode cX1_takePart 79 = .ok (.goto (-76), 3) := by decide +kernel
theorem dX1_takePart_82 : decode cX1_takePart 82 = .ok (.aload_n 0, 1) := by decide +kernel
theorem dX1_takePart_83 : decode cX1_takePart 83 = .ok (.iconst 0, 1) := by decide +kernel
theorem dX1_takePart_84 : decode cX1_takePart 84 = .ok (.aload_n 1, 1) := by decide +kernel
theorem dX1_takePart_85 : decode cX1_takePart 85 = .ok (.getfield 143, 3) := by decide +kernel
theorem dX1_takePart_88 : decode cX1_takePart 88 = .ok (.iadd, 1) := by decide +kernel
theorem dX1_takePart_89 : decode cX1_takePart 89 = .ok (.lload_n 2, 1) := by decide +kernel
theorem dX1_takePart_90 : decode cX1_takePart 90 = .ok (.invokevirtual 114, 3) := by decide +kernel
theorem dX1_takePart_93 : decode cX1_takePart 93 = .ok (.ifCond .ne 5, 3) := by decide +kernel
theorem dX1_takePart_96 : decode cX1_takePart 96 = .ok (.iconst 0, 1) := by decide +kernel
theorem dX1_takePart_97 : decode cX1_takePart 97 = .ok (.ireturn, 1) := by decide +kernel
theorem dX1_takePart_98 : decode cX1_takePart 98 = .ok (.aload_n 1, 1) := by decide +kernel
theorem dX1_takePart_99 : decode cX1_takePart 99 = .ok (.dup, 1) := by decide +kernel
theorem dX1_takePart_100 : decode cX1_takePart 100 = .ok (.getfield 64, 3) := by decide +kernel
theorem dX1_takePart_103 : decode cX1_takePart 103 = .ok (.iconst 1, 1) := by decide +kernel
theorem dX1_takePart_104 : decode cX1_takePart 104 = .ok (.iadd, 1) := by decide +kernel
theorem dX1_takePart_105 : decode cX1_takePart 105 = .ok (.putfield 64, 3) := by decide +kernel
theorem dX1_takePart_108 : decode cX1_takePart 108 = .ok (.iconst 1, 1) := by decide +kernel
theorem dX1_takePart_109 : decode cX1_takePart 109 = .ok (.ireturn, 1) := by decide +kernel
theorem dX1_takeEnd_0 : decode cX1_takeEnd 0 = .ok (.iconst 0, 1) := by decide +kernel
theorem dX1_takeEnd_1 : decode cX1_takeEnd 1 = .ok (.istore_n 2, 1) := by decide +kernel
theorem dX1_takeEnd_2 : decode cX1_takeEnd 2 = .ok (.iload_n 2, 1) := by decide +kernel
theorem dX1_takeEnd_3 : decode cX1_takeEnd 3 = .ok (.bipush 8, 2) := by decide +kernel
theorem dX1_takeEnd_5 : decode cX1_takeEnd 5 = .ok (.if_icmp .ge 37, 3) := by decide +kernel
theorem dX1_takeEnd_8 : decode cX1_takeEnd 8 = .ok (.iload_n 2, 1) := by decide +kernel
theorem dX1_takeEnd_9 : decode cX1_takeEnd 9 = .ok (.aload_n 1, 1) := by decide +kernel
theorem dX1_takeEnd_10 : decode cX1_takeEnd 10 = .ok (.getfield 140, 3) := by decide +kernel
theorem dX1_takeEnd_13 : decode cX1_takeEnd 13 = .ok (.ixor, 1) := by decide +kernel
theorem dX1_takeEnd_14 : decode cX1_takeEnd 14 = .ok (.istore_n 3, 1) := by decide +kernel
theorem dX1_takeEnd_15 : decode cX1_takeEnd 15 = .ok (.aload_n 0, 1) := by decide +kernel
theorem dX1_takeEnd_16 : decode cX1_takeEnd 16 = .ok (.getfield 27, 3) := by decide +kernel
theorem dX1_takeEnd_19 : decode cX1_takeEnd 19 = .ok (.iload_n 2, 1) := by decide +kernel
theorem dX1_takeEnd_20 : decode cX1_takeEnd 20 = .ok (.iload_n 2, 1) := by decide +kernel
theorem dX1_takeEnd_21 : decode cX1_takeEnd 21 = .ok (.iload_n 3, 1) := by decide +kernel
theorem dX1_takeEnd_22 : decode cX1_takeEnd 22 = .ok (.if_icmp .ge 7, 3) := by decide +kernel
theorem dX1_takeEnd_25 : decode cX1_takeEnd 25 = .ok (.lconst 0, 1) := by decide +kernel
theorem dX1_takeEnd_26 : decode cX1_takeEnd 26 = .ok (.goto 9, 3) := by decide +kernel
theorem dX1_takeEnd_29 : decode cX1_takeEnd 29 = .ok (.aload_n 0, 1) := by decide +kernel
theorem dX1_takeEnd_30 : decode cX1_takeEnd 30 = .ok (.getfield 23, 3) := by decide +kernel
theorem dX1_takeEnd_33 : decode cX1_takeEnd 33 = .ok (.iload_n 3, 1) := by decide +kernel
theorem dX1_takeEnd_34 : decode cX1_takeEnd 34 = .ok (.laload, 1) := by decide +kernel
theorem dX1_takeEnd_35 : decode cX1_takeEnd 35 = .ok (.lastore, 1) := by decide +kernel
theorem dX1_takeEnd_36 : decode cX1_takeEnd 36 = .ok (.iinc 2 1, 3) := by decide +kernel
theorem dX1_takeEnd_39 : decode cX1_takeEnd 39 = .ok (.goto (-37), 3) := by decide +kernel
theorem dX1_takeEnd_42 : decode cX1_takeEnd 42 = .ok (.aload_n 1, 1) := by decide +kernel
theorem dX1_takeEnd_43 : decode cX1_takeEnd 43 = .ok (.iconst 1, 1) := by decide +kernel
theorem dX1_takeEnd_44 : decode cX1_takeEnd 44 = .ok (.putfield 68, 3) := by decide +kernel
theorem dX1_takeEnd_47 : decode cX1_takeEnd 47 = .ok (.aload_n 0, 1) := by decide +kernel
theorem dX1_takeEnd_48 : decode cX1_takeEnd 48 = .ok (.iconst 2, 1) := by decide +kernel
theorem dX1_takeEnd_49 : decode cX1_takeEnd 49 = .ok (.aload_n 1, 1) := by decide +kernel
theorem dX1_takeEnd_50 : decode cX1_takeEnd 50 = .ok (.getfield 143, 3) := by decide +kernel
theorem dX1_takeEnd_53 : decode cX1_takeEnd 53 = .ok (.iadd, 1) := by decide +kernel
theorem dX1_takeEnd_54 : decode cX1_takeEnd 54 = .ok (.lconst 0, 1) := by decide +kernel
theorem dX1_takeEnd_55 : decode cX1_takeEnd 55 = .ok (.invokevirtual 114, 3) := by decide +kernel
theorem dX1_takeEnd_58 : decode cX1_takeEnd 58 = .ok (.ireturn, 1) := by decide +kernel
theorem dX1_keepStep_0 : decode cX1_keepStep 0 = .ok (.lconst 0, 1) := by decide +kernel
theorem dX1_keepStep_1 : decode cX1_keepStep 1 = .ok (.lstore 4, 2) := by decide +kernel
theorem dX1_keepStep_3 : decode cX1_keepStep 3 = .ok (.iconst 0, 1) := by decide +kernel
theorem dX1_keepStep_4 : decode cX1_keepStep 4 = .ok (.istore 6, 2) := by decide +kernel
theorem dX1_keepStep_6 : decode cX1_keepStep 6 = .ok (.iload 6, 2) := by decide +kernel
theorem dX1_keepStep_8 : decode cX1_keepStep 8 = .ok (.bipush 8, 2) := by decide +kernel
theorem dX1_keepStep_10 : decode cX1_keepStep 10 = .ok (.if_icmp .ge 45, 3) := by decide +kernel
theorem dX1_keepStep_13 : decode cX1_keepStep 13 = .ok (.aload_n 0, 1) := by decide +kernel
theorem dX1_keepStep_14 : decode cX1_keepStep 14 = .ok (.getfield 27, 3) := by decide +kernel
theorem dX1_keepStep_17 : decode cX1_keepStep 17 = .ok (.iload 6, 2) := by decide +kernel
theorem dX1_keepStep_19 : decode cX1_keepStep 19 = .ok (.laload, 1) := by decide +kernel
theorem dX1_keepStep_20 : decode cX1_keepStep 20 = .ok (.invokestatic 104, 3) := by decide +kernel
theorem dX1_keepStep_23 : decode cX1_keepStep 23 = .ok (.ifCond .eq 5, 3) := by decide +kernel
theorem dX1_keepStep_26 : decode cX1_keepStep 26 = .ok (.iconst 0, 1) := by decide +kernel
theorem dX1_keepStep_27 : decode cX1_keepStep 27 = .ok (.ireturn, 1) := by decide +kernel
theorem dX1_keepStep_28 : decode cX1_keepStep 28 = .ok (.lload 4, 2) := by decide +kernel
theorem dX1_keepStep_30 : decode cX1_keepStep 30 = .ok (.lconst 1, 1) := by decide +kernel
theorem dX1_keepStep_31 : decode cX1_keepStep 31 = .ok (.lcmp, 1) := by decide +kernel
theorem dX1_keepStep_32 : decode cX1_keepStep 32 = .ok (.ifCond .eq 17, 3) := by decide +kernel
theorem dX1_keepStep_35 : decode cX1_keepStep 35 = .ok (.lload 4, 2) := by decide +kernel
theorem dX1_keepStep_37 : decode cX1_keepStep 37 = .ok (.aload_n 0, 1) := by decide +kernel
theorem dX1_keepStep_38 : decode cX1_keepStep 38 = .ok (.getfield 27, 3) := by decide +kernel
theorem dX1_keepStep_41 : decode cX1_keepStep 41 = .ok (.iload 6, 2) := by decide +kernel
theorem dX1_keepStep_43 : decode cX1_keepStep 43 = .ok (.laload, 1) := by decide +kernel
theorem dX1_keepStep_44 : decode cX1_keepStep 44 = .ok (.invokestatic 146, 3) := by decide +kernel
theorem dX1_keepStep_47 : decode cX1_keepStep 47 = .ok (.lstore 4, 2) := by decide +kernel
theorem dX1_keepStep_49 : decode cX1_keepStep 49 = .ok (.iinc 6 1, 3) := by decide +kernel
theorem dX1_keepStep_52 : decode cX1_keepStep 52 = .ok (.goto (-46), 3) := by decide +kernel
theorem dX1_keepStep_55 : decode cX1_keepStep 55 = .ok (.iconst 0, 1) := by decide +kernel
theorem dX1_keepStep_56 : decode cX1_keepStep 56 = .ok (.istore 6, 2) := by decide +kernel
theorem dX1_keepStep_58 : decode cX1_keepStep 58 = .ok (.iload 6, 2) := by decide +kernel
theorem dX1_keepStep_60 : decode cX1_keepStep 60 = .ok (.bipush 8, 2) := by decide +kernel
theorem dX1_keepStep_62 : decode cX1_keepStep 62 = .ok (.if_icmp .ge 43, 3) := by decide +kernel
theorem dX1_keepStep_65 : decode cX1_keepStep 65 = .ok (.aload_n 0, 1) := by decide +kernel
theorem dX1_keepStep_66 : decode cX1_keepStep 66 = .ok (.getfield 23, 3) := by decide +kernel
theorem dX1_keepStep_69 : decode cX1_keepStep 69 = .ok (.iload 6, 2) := by decide +kernel
theorem dX1_keepStep_71 : decode cX1_keepStep 71 = .ok (.lload 4, 2) := by decide +kernel
theorem dX1_keepStep_73 : decode cX1_keepStep 73 = .ok (.lconst 1, 1) := by decide +kernel
theorem dX1_keepStep_74 : decode cX1_keepStep 74 = .ok (.lcmp, 1) := by decide +kernel
theorem dX1_keepStep_75 : decode cX1_keepStep 75 = .ok (.ifCond .le 16, 3) := by decide +kernel
theorem dX1_keepStep_78 : decode cX1_keepStep 78 = .ok (.aload_n 0, 1) := by decide +kernel
theorem dX1_keepStep_79 : decode cX1_keepStep 79 = .ok (.getfield 27, 3) := by decide +kernel
theorem dX1_keepStep_82 : decode cX1_keepStep 82 = .ok (.iload 6, 2) := by decide +kernel
theorem dX1_keepStep_84 : decode cX1_keepStep 84 = .ok (.laload, 1) := by decide +kernel
theorem dX1_keepStep_85 : decode cX1_keepStep 85 = .ok (.lload 4, 2) := by decide +kernel
theorem dX1_keepStep_87 : decode cX1_keepStep 87 = .ok (.ldiv, 1) := by decide +kernel
theorem dX1_keepStep_88 : decode cX1_keepStep 88 = .ok (.goto 10, 3) := by decide +kernel
theorem dX1_keepStep_91 : decode cX1_keepStep 91 = .ok (.aload_n 0, 1) := by decide +kernel
theorem dX1_keepStep_92 : decode cX1_keepStep 92 = .ok (.getfield 27, 3) := by decide +kernel
theorem dX1_keepStep_95 : decode cX1_keepStep 95 = .ok (.iload 6, 2) := by decide +kernel
theorem dX1_keepStep_97 : decode cX1_keepStep 97 = .ok (.laload, 1) := by decide +kernel
theorem dX1_keepStep_98 : decode cX1_keepStep 98 = .ok (.lastore, 1) := by decide +kernel
theorem dX1_keepStep_99 : decode cX1_keepStep 99 = .ok (.iinc 6 1, 3) := by decide +kernel
theorem dX1_keepStep_102 : decode cX1_keepStep 102 = .ok (.goto (-44), 3) := by decide +kernel
theorem dX1_keepStep_105 : decode cX1_keepStep 105 = .ok (.aload_n 0, 1) := by decide +kernel
theorem dX1_keepStep_106 : decode cX1_keepStep 106 = .ok (.iload_n 1, 1) := by decide +kernel
theorem dX1_keepStep_107 : decode cX1_keepStep 107 = .ok (.lload_n 2, 1) := by decide +kernel
theorem dX1_keepStep_108 : decode cX1_keepStep 108 = .ok (.invokevirtual 149, 3) := by decide +kernel
theorem dX1_keepStep_111 : decode cX1_keepStep 111 = .ok (.iconst 1, 1) := by decide +kernel
theorem dX1_keepStep_112 : decode cX1_keepStep 112 = .ok (.ireturn, 1) := by decide +kernel
theorem dX1_rollOn_0 : decode cX1_rollOn 0 = .ok (.aload_n 0, 1) := by decide +kernel
theorem dX1_rollOn_1 : decode cX1_rollOn 1 = .ok (.getfield 43, 3) := by decide +kernel
theorem dX1_rollOn_4 : decode cX1_rollOn 4 = .ok (.sipush 182, 3) := by decide +kernel
theorem dX1_rollOn_7 : decode cX1_rollOn 7 = .ok (.if_icmp .lt 4, 3) := by decide +kernel
theorem dX1_rollOn_10 : decode cX1_rollOn 10 = .ok (.return_, 1) := by decide +kernel
theorem dX1_rollOn_11 : decode cX1_rollOn 11 = .ok (.aload_n 0, 1) := by decide +kernel
theorem dX1_rollOn_12 : decode cX1_rollOn 12 = .ok (.getfield 43, 3) := by decide +kernel
theorem dX1_rollOn_15 : decode cX1_rollOn 15 = .ok (.bipush 10, 2) := by decide +kernel
theorem dX1_rollOn_17 : decode cX1_rollOn 17 = .ok (.imul, 1) := by decide +kernel
theorem dX1_rollOn_18 : decode cX1_rollOn 18 = .ok (.istore 4, 2) := by decide +kernel
theorem dX1_rollOn_20 : decode cX1_rollOn 20 = .ok (.aload_n 0, 1) := by decide +kernel
theorem dX1_rollOn_21 : decode cX1_rollOn 21 = .ok (.getfield 40, 3) := by decide +kernel
theorem dX1_rollOn_24 : decode cX1_rollOn 24 = .ok (.iload 4, 2) := by decide +kernel
theorem dX1_rollOn_26 : decode cX1_rollOn 26 = .ok (.iload_n 1, 1) := by decide +kernel
theorem dX1_rollOn_27 : decode cX1_rollOn 27 = .ok (.i2l, 1) := by decide +kernel
theorem dX1_rollOn_28 : decode cX1_rollOn 28 = .ok (.lastore, 1) := by decide +kernel
theorem dX1_rollOn_29 : decode cX1_rollOn 29 = .ok (.aload_n 0, 1) := by decide +kernel
theorem dX1_rollOn_30 : decode cX1_rollOn 30 = .ok (.getfield 40, 3) := by decide +kernel
theorem dX1_rollOn_33 : decode cX1_rollOn 33 = .ok (.iload 4, 2) := by decide +kernel
theorem dX1_rollOn_35 : decode cX1_rollOn 35 = .ok (.iconst 1, 1) := by decide +kernel
theorem dX1_rollOn_36 : decode cX1_rollOn 36 = .ok (.iadd, 1) := by decide +kernel
theorem dX1_rollOn_37 : decode cX1_rollOn 37 = .ok (.lload_n 2, 1) := by decide +kernel
theorem dX1_rollOn_38 : decode cX1_rollOn 38 = .ok (.lastore, 1) := by decide +kernel
theorem dX1_rollOn_39 : decode cX1_rollOn 39 = .ok (.iconst 0, 1) := by decide +kernel
theorem dX1_rollOn_40 : decode cX1_rollOn 40 = .ok (.istore 5, 2) := by decide +kernel
theorem dX1_rollOn_42 : decode cX1_rollOn 42 = .ok (.iload 5, 2) := by decide +kernel
theorem dX1_rollOn_44 : decode cX1_rollOn 44 = .ok (.bipush 8, 2) := by decide +kernel
theorem dX1_rollOn_46 : decode cX1_rollOn 46 = .ok (.if_icmp .ge 28, 3) := by decide +kernel
theorem dX1_rollOn_49 : decode cX1_rollOn 49 = .ok (.aload_n 0, 1) := by decide +kernel
theorem dX1_rollOn_50 : decode cX1_rollOn 50 = .ok (.getfield 40, 3) := by decide +kernel
theorem dX1_rollOn_53 : decode cX1_rollOn 53 = .ok (.iload 4, 2) := by decide +kernel
theorem dX1_rollOn_55 : decode cX1_rollOn 55 = .ok (.iconst 2, 1) := by decide +kernel
theorem dX1_rollOn_56 : decode cX1_rollOn 56 = .ok (.iadd, 1) := by decide +kernel
theorem dX1_rollOn_57 : decode cX1_rollOn 57 = .ok (.iload 5, 2) := by decide +kernel
theorem dX1_rollOn_59 : decode cX1_rollOn 59 = .ok (.iadd, 1) := by decide +kernel
theorem dX1_rollOn_60 : decode cX1_rollOn 60 = .ok (.aload_n 0, 1) := by decide +kernel
theorem dX1_rollOn_61 : decode cX1_rollOn 61 = .ok (.getfield 23, 3) := by decide +kernel
theorem dX1_rollOn_64 : decode cX1_rollOn 64 = .ok (.iload 5, 2) := by decide +kernel
theorem dX1_rollOn_66 : decode cX1_rollOn 66 = .ok (.laload, 1) := by decide +kernel
theorem dX1_rollOn_67 : decode cX1_rollOn 67 = .ok (.lastore, 1) := by decide +kernel
theorem dX1_rollOn_68 : decode cX1_rollOn 68 = .ok (.iinc 5 1, 3) := by decide +kernel
theorem dX1_rollOn_71 : decode cX1_rollOn 71 = .ok (.goto (-29), 3) := by decide +kernel
theorem dX1_rollOn_74 : decode cX1_rollOn 74 = .ok (.aload_n 0, 1) := by decide +kernel
theorem dX1_rollOn_75 : decode cX1_rollOn 75 = .ok (.dup, 1) := by decide +kernel
theorem dX1_rollOn_76 : decode cX1_rollOn 76 = .ok (.getfield 43, 3) := by decide +kernel
theorem dX1_rollOn_79 : decode cX1_rollOn 79 = .ok (.iconst 1, 1) := by decide +kernel
theorem dX1_rollOn_80 : decode cX1_rollOn 80 = .ok (.iadd, 1) := by decide +kernel
theorem dX1_rollOn_81 : decode cX1_rollOn 81 = .ok (.putfield 43, 3) := by decide +kernel
theorem dX1_rollOn_84 : decode cX1_rollOn 84 = .ok (.return_, 1) := by decide +kernel
theorem dX6_hasEnded_0 : decode cX6_hasEnded 0 = .ok (.aload_n 0, 1) := by decide +kernel
theorem dX6_hasEnded_1 : decode cX6_hasEnded 1 = .ok (.getfield 7, 3) := by decide +kernel
theorem dX6_hasEnded_4 : decode cX6_hasEnded 4 = .ok (.ifnull 31, 3) := by decide +kernel
theorem dX6_hasEnded_7 : decode cX6_hasEnded 7 = .ok (.aload_n 0, 1) := by decide +kernel
theorem dX6_hasEnded_8 : decode cX6_hasEnded 8 = .ok (.getfield 7, 3) := by decide +kernel
theorem dX6_hasEnded_11 : decode cX6_hasEnded 11 = .ok (.getfield 27, 3) := by decide +kernel
theorem dX6_hasEnded_14 : decode cX6_hasEnded 14 = .ok (.ifCond .eq 21, 3) := by decide +kernel
theorem dX6_hasEnded_17 : decode cX6_hasEnded 17 = .ok (.aload_n 0, 1) := by decide +kernel
theorem dX6_hasEnded_18 : decode cX6_hasEnded 18 = .ok (.getfield 13, 3) := by decide +kernel
theorem dX6_hasEnded_21 : decode cX6_hasEnded 21 = .ok (.aload_n 0, 1) := by decide +kernel
theorem dX6_hasEnded_22 : decode cX6_hasEnded 22 = .ok (.getfield 7, 3) := by decide +kernel
theorem dX6_hasEnded_25 : decode cX6_hasEnded 25 = .ok (.getfield 32, 3) := by decide +kernel
theorem dX6_hasEnded_28 : decode cX6_hasEnded 28 = .ok (.if_icmp .lt 7, 3) := by decide +kernel
theorem dX6_hasEnded_31 : decode cX6_hasEnded 31 = .ok (.iconst 1, 1) := by decide +kernel
theorem dX6_hasEnded_32 : decode cX6_hasEnded 32 = .ok (.goto 4, 3) := by decide +kernel
theorem dX6_hasEnded_35 : decode cX6_hasEnded 35 = .ok (.iconst 0, 1) := by decide +kernel
theorem dX6_hasEnded_36 : decode cX6_hasEnded 36 = .ok (.ireturn, 1) := by decide +kernel
theorem dX7_addPart_0 : decode cX7_addPart 0 = .ok (.aload_n 0, 1) := by decide +kernel
theorem dX7_addPart_1 : decode cX7_addPart 1 = .ok (.getfield 23, 3) := by decide +kernel
theorem dX7_addPart_4 : decode cX7_addPart 4 = .ok (.bipush 60, 2) := by decide +kernel
theorem dX7_addPart_6 : decode cX7_addPart 6 = .ok (.if_icmp .ge 23, 3) := by decide +kernel
theorem dX7_addPart_9 : decode cX7_addPart 9 = .ok (.aload_n 0, 1) := by decide +kernel
theorem dX7_addPart_10 : decode cX7_addPart 10 = .ok (.getfield 9, 3) := by decide +kernel
theorem dX7_addPart_13 : decode cX7_addPart 13 = .ok (.aload_n 0, 1) := by decide +kernel
theorem dX7_addPart_14 : decode cX7_addPart 14 = .ok (.getfield 23, 3) := by decide +kernel
theorem dX7_addPart_17 : decode cX7_addPart 17 = .ok (.lload_n 1, 1) := by decide +kernel
theorem dX7_addPart_18 : decode cX7_addPart 18 = .ok (.lastore, 1) := by decide +kernel
theorem dX7_addPart_19 : decode cX7_addPart 19 = .ok (.aload_n 0, 1) := by decide +kernel
theorem dX7_addPart_20 : decode cX7_addPart 20 = .ok (.dup, 1) := by decide +kernel
theorem dX7_addPart_21 : decode cX7_addPart 21 = .ok (.getfield 23, 3) := by decide +kernel
theorem dX7_addPart_24 : decode cX7_addPart 24 = .ok (.iconst 1, 1) := by decide +kernel
theorem dX7_addPart_25 : decode cX7_addPart 25 = .ok (.iadd, 1) := by decide +kernel
theorem dX7_addPart_26 : decode cX7_addPart 26 = .ok (.putfield 23, 3) := by decide +kernel
theorem dX7_addPart_29 : decode cX7_addPart 29 = .ok (.return_, 1) := by decide +kernel
theorem dX7_partAt_0 : decode cX7_partAt 0 = .ok (.iload_n 1, 1) := by decide +kernel
theorem dX7_partAt_1 : decode cX7_partAt 1 = .ok (.ifCond .lt 18, 3) := by decide +kernel
theorem dX7_partAt_4 : decode cX7_partAt 4 = .ok (.iload_n 1, 1) := by decide +kernel
theorem dX7_partAt_5 : decode cX7_partAt 5 = .ok (.bipush 60, 2) := by decide +kernel
theorem dX7_partAt_7 : decode cX7_partAt 7 = .ok (.if_icmp .ge 12, 3) := by decide +kernel
theorem dX7_partAt_10 : decode cX7_partAt 10 = .ok (.aload_n 0, 1) := by decide +kernel
theorem dX7_partAt_11 : decode cX7_partAt 11 = .ok (.getfield 9, 3) := by decide +kernel
theorem dX7_partAt_14 : decode cX7_partAt 14 = .ok (.iload_n 1, 1) := by decide +kernel
theorem dX7_partAt_15 : decode cX7_partAt 15 = .ok (.laload, 1) := by decide +kernel
theorem dX7_partAt_16 : decode cX7_partAt 16 = .ok (.goto 4, 3) := by decide +kernel
theorem dX7_partAt_19 : decode cX7_partAt 19 = .ok (.lconst 0, 1) := by decide +kernel
theorem dX7_partAt_20 : decode cX7_partAt 20 = .ok (.lreturn, 1) := by decide +kernel
theorem dX8_isFar_0 : decode cX8_isFar 0 = .ok (.lload_n 0, 1) := by decide +kernel
theorem dX8_isFar_1 : decode cX8_isFar 1 = .ok (.ldc2_w 286, 3) := by decide +kernel
theorem dX8_isFar_4 : decode cX8_isFar 4 = .ok (.lcmp, 1) := by decide +kernel
theorem dX8_isFar_5 : decode cX8_isFar 5 = .ok (.ifCond .gt 11, 3) := by decide +kernel
theorem dX8_isFar_8 : decode cX8_isFar 8 = .ok (.lload_n 0, 1) := by decide +kernel
theorem dX8_isFar_9 : decode cX8_isFar 9 = .ok (.ldc2_w 288, 3) := by decide +kernel
theorem dX8_isFar_12 : decode cX8_isFar 12 = .ok (.lcmp, 1) := by decide +kernel
theorem dX8_isFar_13 : decode cX8_isFar 13 = .ok (.ifCond .ge 7, 3) := by decide +kernel
theorem dX8_isFar_16 : decode cX8_isFar 16 = .ok (.iconst 1, 1) := by decide +kernel
theorem dX8_isFar_17 : decode cX8_isFar 17 = .ok (.goto 4, 3) := by decide +kernel
theorem dX8_isFar_20 : decode cX8_isFar 20 = .ok (.iconst 0, 1) := by decide +kernel
theorem dX8_isFar_21 : decode cX8_isFar 21 = .ok (.ireturn, 1) := by decide +kernel
theorem dX8_plus_0 : decode cX8_plus 0 = .ok (.lload_n 0, 1) := by decide +kernel
theorem dX8_plus_1 : decode cX8_plus 1 = .ok (.invokestatic 80, 3) := by decide +kernel
theorem dX8_plus_4 : decode cX8_plus 4 = .ok (.ifCond .ne 10, 3) := by decide +kernel
theorem dX8_plus_7 : decode cX8_plus 7 = .ok (.lload_n 2, 1) := by decide +kernel
theorem dX8_plus_8 : decode cX8_plus 8 = .ok (.invokestatic 80, 3) := by decide +kernel
theorem dX8_plus_11 : decode cX8_plus 11 = .ok (.ifCond .eq 7, 3) := by decide +kernel
theorem dX8_plus_14 : decode cX8_plus 14 = .ok (.ldc2_w 290, 3) := by decide +kernel
theorem dX8_plus_17 : decode cX8_plus 17 = .ok (.lreturn, 1) := by decide +kernel
theorem dX8_plus_18 : decode cX8_plus 18 = .ok (.lload_n 0, 1) := by decide +kernel
theorem dX8_plus_19 : decode cX8_plus 19 = .ok (.lload_n 2, 1) := by decide +kernel
theorem dX8_plus_20 : decode cX8_plus 20 = .ok (.ladd, 1) := by decide +kernel
theorem dX8_plus_21 : decode cX8_plus 21 = .ok (.invokestatic 80, 3) := by decide +kernel
theorem dX8_plus_24 : decode cX8_plus 24 = .ok (.ifCond .eq 9, 3) := by decide +kernel
theorem dX8_plus_27 : decode cX8_plus 27 = .ok (.ldc2_w 290, 3) := by decide +kernel
theorem dX8_plus_30 : decode cX8_plus 30 = .ok (.goto 6, 3) := by decide +kernel
theorem dX8_plus_33 : decode cX8_plus 33 = .ok (.lload_n 0, 1) := by decide +kernel
theorem dX8_plus_34 : decode cX8_plus 34 = .ok (.lload_n 2, 1) := by decide +kernel
theorem dX8_plus_35 : decode cX8_plus 35 = .ok (.ladd, 1) := by decide +kernel
theorem dX8_plus_36 : decode cX8_plus 36 = .ok (.lreturn, 1) := by decide +kernel
theorem dX8_minus_0 : decode cX8_minus 0 = .ok (.lload_n 2, 1) := by decide +kernel
theorem dX8_minus_1 : decode cX8_minus 1 = .ok (.invokestatic 80, 3) := by decide +kernel
theorem dX8_minus_4 : decode cX8_minus 4 = .ok (.ifCond .eq 9, 3) := by decide +kernel
theorem dX8_minus_7 : decode cX8_minus 7 = .ok (.ldc2_w 290, 3) := by decide +kernel
theorem dX8_minus_10 : decode cX8_minus 10 = .ok (.goto 9, 3) := by decide +kernel
theorem dX8_minus_13 : decode cX8_minus 13 = .ok (.lload_n 0, 1) := by decide +kernel
theorem dX8_minus_14 : decode cX8_minus 14 = .ok (.lload_n 2, 1) := by decide +kernel
theorem dX8_minus_15 : decode cX8_minus 15 = .ok (.lneg, 1) := by decide +kernel
theorem dX8_minus_16 : decode cX8_minus 16 = .ok (.invokestatic 292, 3) := by decide +kernel
theorem dX8_minus_19 : decode cX8_minus 19 = .ok (.lreturn, 1) := by decide +kernel
theorem dX8_times_0 : decode cX8_times 0 = .ok (.lload_n 0, 1) := by decide +kernel
theorem dX8_times_1 : decode cX8_times 1 = .ok (.invokestatic 80, 3) := by decide +kernel
theorem dX8_times_4 : decode cX8_times 4 = .ok (.ifCond .ne 10, 3) := by decide +kernel
theorem dX8_times_7 : decode cX8_times 7 = .ok (.lload_n 2, 1) := by decide +kernel
theorem dX8_times_8 : decode cX8_times 8 = .ok (.invokestatic 80, 3) := by decide +kernel
theorem dX8_times_11 : decode cX8_times 11 = .ok (.ifCond .eq 7, 3) := by decide +kernel
theorem dX8_times_14 : decode cX8_times 14 = .ok (.ldc2_w 290, 3) := by decide +kernel
theorem dX8_times_17 : decode cX8_times 17 = .ok (.lreturn, 1) := by decide +kernel
theorem dX8_times_18 : decode cX8_times 18 = .ok (.lload_n 0, 1) := by decide +kernel
theorem dX8_times_19 : decode cX8_times 19 = .ok (.lconst 0, 1) := by decide +kernel
theorem dX8_times_20 : decode cX8_times 20 = .ok (.lcmp, 1) := by decide +kernel
theorem dX8_times_21 : decode cX8_times 21 = .ok (.ifCond .eq 9, 3) := by decide +kernel
theorem dX8_times_24 : decode cX8_times 24 = .ok (.lload_n 2, 1) := by decide +kernel
theorem dX8_times_25 : decode cX8_times 25 = .ok (.lconst 0, 1) := by decide +kernel
theorem dX8_times_26 : decode cX8_times 26 = .ok (.lcmp, 1) := by decide +kernel
theorem dX8_times_27 : decode cX8_times 27 = .ok (.ifCond .ne 5, 3) := by decide +kernel
theorem dX8_times_30 : decode cX8_times 30 = .ok (.lconst 0, 1) := by decide +kernel
theorem dX8_times_31 : decode cX8_times 31 = .ok (.lreturn, 1) := by decide +kernel
theorem dX8_times_32 : decode cX8_times 32 = .ok (.lload_n 0, 1) := by decide +kernel
theorem dX8_times_33 : decode cX8_times 33 = .ok (.invokestatic 296, 3) := by decide +kernel
theorem dX8_times_36 : decode cX8_times 36 = .ok (.ldc2_w 286, 3) := by decide +kernel
theorem dX8_times_39 : decode cX8_times 39 = .ok (.lload_n 2, 1) := by decide +kernel
theorem dX8_times_40 : decode cX8_times 40 = .ok (.invokestatic 296, 3) := by decide +kernel
theorem dX8_times_43 : decode cX8_times 43 = .ok (.ldiv, 1) := by decide +kernel
theorem dX8_times_44 : decode cX8_times 44 = .ok (.lcmp, 1) := by decide +kernel
theorem dX8_times_45 : decode cX8_times 45 = .ok (.ifCond .le 9, 3) := by decide +kernel
theorem dX8_times_48 : decode cX8_times 48 = .ok (.ldc2_w 290, 3) := by decide +kernel
theorem dX8_times_51 : decode cX8_times 51 = .ok (.goto 6, 3) := by decide +kernel
theorem dX8_times_54 : decode cX8_times 54 = .ok (.lload_n 0, 1) := by decide +kernel
theorem dX8_times_55 : decode cX8_times 55 = .ok (.lload_n 2, 1) := by decide +kernel
theorem dX8_times_56 : decode cX8_times 56 = .ok (.lmul, 1) := by decide +kernel
theorem dX8_times_57 : decode cX8_times 57 = .ok (.lreturn, 1) := by decide +kernel
theorem dX8_greatestCommonDivisor_0 : decode cX8_greatestCommonDivisor 0 = .ok (.lload_n 0, 1) := by decide +kernel
theorem dX8_greatestCommonDivisor_1 : decode cX8_greatestCommonDivisor 1 = .ok (.lconst 0, 1) := by decide +kernel
theorem dX8_greatestCommonDivisor_2 : decode cX8_greatestCommonDivisor 2 = .ok (.lcmp, 1) := by decide +kernel
theorem dX8_greatestCommonDivisor_3 : decode cX8_greatestCommonDivisor 3 = .ok (.ifCond .ge 8, 3) := by decide +kernel
theorem dX8_greatestCommonDivisor_6 : decode cX8_greatestCommonDivisor 6 = .ok (.lload_n 0, 1) := by decide +kernel
theorem dX8_greatestCommonDivisor_7 : decode cX8_greatestCommonDivisor 7 = .ok (.lneg, 1) := by decide +kernel
theorem dX8_greatestCommonDivisor_8 : decode cX8_greatestCommonDivisor 8 = .ok (.goto 4, 3) := by decide +kernel
theorem dX8_greatestCommonDivisor_11 : decode cX8_greatestCommonDivisor 11 = .ok (.lload_n 0, 1) := by decide +kernel
theorem dX8_greatestCommonDivisor_12 : decode cX8_greatestCommonDivisor 12 = .ok (.lstore 4, 2) := by decide +kernel
theorem dX8_greatestCommonDivisor_14 : decode cX8_greatestCommonDivisor 14 = .ok (.lload_n 2, 1) := by decide +kernel
theorem dX8_greatestCommonDivisor_15 : decode cX8_greatestCommonDivisor 15 = .ok (.lconst 0, 1) := by decide +kernel
theorem dX8_greatestCommonDivisor_16 : decode cX8_greatestCommonDivisor 16 = .ok (.lcmp, 1) := by decide +kernel
theorem dX8_greatestCommonDivisor_17 : decode cX8_greatestCommonDivisor 17 = .ok (.ifCond .ge 8, 3) := by decide +kernel
theorem dX8_greatestCommonDivisor_20 : decode cX8_greatestCommonDivisor 20 = .ok (.lload_n 2, 1) := by decide +kernel
theorem dX8_greatestCommonDivisor_21 : decode cX8_greatestCommonDivisor 21 = .ok (.lneg, 1) := by decide +kernel
theorem dX8_greatestCommonDivisor_22 : decode cX8_greatestCommonDivisor 22 = .ok (.goto 4, 3) := by decide +kernel
theorem dX8_greatestCommonDivisor_25 : decode cX8_greatestCommonDivisor 25 = .ok (.lload_n 2, 1) := by decide +kernel
theorem dX8_greatestCommonDivisor_26 : decode cX8_greatestCommonDivisor 26 = .ok (.lstore 6, 2) := by decide +kernel
theorem dX8_greatestCommonDivisor_28 : decode cX8_greatestCommonDivisor 28 = .ok (.iconst 0, 1) := by decide +kernel
theorem dX8_greatestCommonDivisor_29 : decode cX8_greatestCommonDivisor 29 = .ok (.istore 8, 2) := by decide +kernel
theorem dX8_greatestCommonDivisor_31 : decode cX8_greatestCommonDivisor 31 = .ok (.iload 8, 2) := by decide +kernel
theorem dX8_greatestCommonDivisor_33 : decode cX8_greatestCommonDivisor 33 = .ok (.bipush 100, 2) := by decide +kernel
theorem dX8_greatestCommonDivisor_35 : decode cX8_greatestCommonDivisor 35 = .ok (.if_icmp .ge 31, 3) := by decide +kernel
theorem dX8_greatestCommonDivisor_38 : decode cX8_greatestCommonDivisor 38 = .ok (.lload 6, 2) := by decide +kernel
theorem dX8_greatestCommonDivisor_40 : decode cX8_greatestCommonDivisor 40 = .ok (.lconst 0, 1) := by decide +kernel
theorem dX8_greatestCommonDivisor_41 : decode cX8_greatestCommonDivisor 41 = .ok (.lcmp, 1) := by decide +kernel
theorem dX8_greatestCommonDivisor_42 : decode cX8_greatestCommonDivisor 42 = .ok (.ifCond .eq 24, 3) := by decide +kernel
theorem dX8_greatestCommonDivisor_45 : decode cX8_greatestCommonDivisor 45 = .ok (.lload 4, 2) := by decide +kernel
theorem dX8_greatestCommonDivisor_47 : decode cX8_greatestCommonDivisor 47 = .ok (.lload 6, 2) := by decide +kernel
theorem dX8_greatestCommonDivisor_49 : decode cX8_greatestCommonDivisor 49 = .ok (.lrem, 1) := by decide +kernel
theorem dX8_greatestCommonDivisor_50 : decode cX8_greatestCommonDivisor 50 = .ok (.lstore 9, 2) := by decide +kernel
theorem dX8_greatestCommonDivisor_52 : decode cX8_greatestCommonDivisor 52 = .ok (.lload 6, 2) := by decide +kernel
theorem dX8_greatestCommonDivisor_54 : decode cX8_greatestCommonDivisor 54 = .ok (.lstore 4, 2) := by decide +kernel
theorem dX8_greatestCommonDivisor_56 : decode cX8_greatestCommonDivisor 56 = .ok (.lload 9, 2) := by decide +kernel
theorem dX8_greatestCommonDivisor_58 : decode cX8_greatestCommonDivisor 58 = .ok (.lstore 6, 2) := by decide +kernel
theorem dX8_greatestCommonDivisor_60 : decode cX8_greatestCommonDivisor 60 = .ok (.iinc 8 1, 3) := by decide +kernel
theorem dX8_greatestCommonDivisor_63 : decode cX8_greatestCommonDivisor 63 = .ok (.goto (-32), 3) := by decide +kernel
theorem dX8_greatestCommonDivisor_66 : decode cX8_greatestCommonDivisor 66 = .ok (.lload 4, 2) := by decide +kernel
theorem dX8_greatestCommonDivisor_68 : decode cX8_greatestCommonDivisor 68 = .ok (.lreturn, 1) := by decide +kernel
theorem dX8_floorOf_0 : decode cX8_floorOf 0 = .ok (.lload_n 2, 1) := by decide +kernel
theorem dX8_floorOf_1 : decode cX8_floorOf 1 = .ok (.lconst 0, 1) := by decide +kernel
theorem dX8_floorOf_2 : decode cX8_floorOf 2 = .ok (.lcmp, 1) := by decide +kernel
theorem dX8_floorOf_3 : decode cX8_floorOf 3 = .ok (.ifCond .ne 7, 3) := by decide +kernel
theorem dX8_floorOf_6 : decode cX8_floorOf 6 = .ok (.lconst 0, 1) := by decide +kernel
theorem dX8_floorOf_7 : decode cX8_floorOf 7 = .ok (.goto 8, 3) := by decide +kernel
theorem dX8_floorOf_10 : decode cX8_floorOf 10 = .ok (.lload_n 0, 1) := by decide +kernel
theorem dX8_floorOf_11 : decode cX8_floorOf 11 = .ok (.lload_n 2, 1) := by decide +kernel
theorem dX8_floorOf_12 : decode cX8_floorOf 12 = .ok (.invokestatic 304, 3) := by decide +kernel
theorem dX8_floorOf_15 : decode cX8_floorOf 15 = .ok (.lreturn, 1) := by decide +kernel
theorem dJ9_floorDiv_f86c9_0 : decode cJ9_floorDiv_f86c9 0 = .ok (.lload_n 0, 1) := by decide +kernel
theorem dJ9_floorDiv_f86c9_1 : decode cJ9_floorDiv_f86c9 1 = .ok (.lload_n 2, 1) := by decide +kernel
theorem dJ9_floorDiv_f86c9_2 : decode cJ9_floorDiv_f86c9 2 = .ok (.ldiv, 1) := by decide +kernel
theorem dJ9_floorDiv_f86c9_3 : decode cJ9_floorDiv_f86c9 3 = .ok (.lstore 4, 2) := by decide +kernel
theorem dJ9_floorDiv_f86c9_5 : decode cJ9_floorDiv_f86c9 5 = .ok (.lload_n 0, 1) := by decide +kernel
theorem dJ9_floorDiv_f86c9_6 : decode cJ9_floorDiv_f86c9 6 = .ok (.lload_n 2, 1) := by decide +kernel
theorem dJ9_floorDiv_f86c9_7 : decode cJ9_floorDiv_f86c9 7 = .ok (.lxor, 1) := by decide +kernel
theorem dJ9_floorDiv_f86c9_8 : decode cJ9_floorDiv_f86c9 8 = .ok (.lconst 0, 1) := by decide +kernel
theorem dJ9_floorDiv_f86c9_9 : decode cJ9_floorDiv_f86c9 9 = .ok (.lcmp, 1) := by decide +kernel
theorem dJ9_floorDiv_f86c9_10 : decode cJ9_floorDiv_f86c9 10 = .ok (.ifCond .ge 17, 3) := by decide +kernel
theorem dJ9_floorDiv_f86c9_13 : decode cJ9_floorDiv_f86c9 13 = .ok (.lload 4, 2) := by decide +kernel
theorem dJ9_floorDiv_f86c9_15 : decode cJ9_floorDiv_f86c9 15 = .ok (.lload_n 2, 1) := by decide +kernel
theorem dJ9_floorDiv_f86c9_16 : decode cJ9_floorDiv_f86c9 16 = .ok (.lmul, 1) := by decide +kernel
theorem dJ9_floorDiv_f86c9_17 : decode cJ9_floorDiv_f86c9 17 = .ok (.lload_n 0, 1) := by decide +kernel
theorem dJ9_floorDiv_f86c9_18 : decode cJ9_floorDiv_f86c9 18 = .ok (.lcmp, 1) := by decide +kernel
theorem dJ9_floorDiv_f86c9_19 : decode cJ9_floorDiv_f86c9 19 = .ok (.ifCond .eq 8, 3) := by decide +kernel
theorem dJ9_floorDiv_f86c9_22 : decode cJ9_floorDiv_f86c9 22 = .ok (.lload 4, 2) := by decide +kernel
theorem dJ9_floorDiv_f86c9_24 : decode cJ9_floorDiv_f86c9 24 = .ok (.lconst 1, 1) := by decide +kernel
theorem dJ9_floorDiv_f86c9_25 : decode cJ9_floorDiv_f86c9 25 = .ok (.lsub, 1) := by decide +kernel
theorem dJ9_floorDiv_f86c9_26 : decode cJ9_floorDiv_f86c9 26 = .ok (.lreturn, 1) := by decide +kernel
theorem dJ9_floorDiv_f86c9_27 : decode cJ9_floorDiv_f86c9 27 = .ok (.lload 4, 2) := by decide +kernel
theorem dJ9_floorDiv_f86c9_29 : decode cJ9_floorDiv_f86c9 29 = .ok (.lreturn, 1) := by decide +kernel
theorem dJ9_abs_067f4_0 : decode cJ9_abs_067f4 0 = .ok (.lload_n 0, 1) := by decide +kernel
theorem dJ9_abs_067f4_1 : decode cJ9_abs_067f4 1 = .ok (.lconst 0, 1) := by decide +kernel
theorem dJ9_abs_067f4_2 : decode cJ9_abs_067f4 2 = .ok (.lcmp, 1) := by decide +kernel
theorem dJ9_abs_067f4_3 : decode cJ9_abs_067f4 3 = .ok (.ifCond .ge 8, 3) := by decide +kernel
theorem dJ9_abs_067f4_6 : decode cJ9_abs_067f4 6 = .ok (.lload_n 0, 1) := by decide +kernel
theorem dJ9_abs_067f4_7 : decode cJ9_abs_067f4 7 = .ok (.lneg, 1) := by decide +kernel
theorem dJ9_abs_067f4_8 : decode cJ9_abs_067f4 8 = .ok (.goto 4, 3) := by decide +kernel
theorem dJ9_abs_067f4_11 : decode cJ9_abs_067f4 11 = .ok (.lload_n 0, 1) := by decide +kernel
theorem dJ9_abs_067f4_12 : decode cJ9_abs_067f4 12 = .ok (.lreturn, 1) := by decide +kernel
abbrev eJ9_abs_067f4 (G : GG) (R : Int64 × AH) : EE := eM G 2 (some .long) false 0 0 0 0 (some (.long R.1)) R.2
theorem wJ9_abs_067f4 (G : GG) (hG : GT G) (R : Int64 × AH) (x0 : Int64) (h : AH) (X : fJ9_abs_067f4 x0 h = some R) : AW (eJ9_abs_067f4 G R) RJ9 cJ9_abs_067f4 0 [some (.long x0), none] [] h 0 0 := by
  unfold fJ9_abs_067f4 at X
  refine r_lld0 1 dJ9_abs_067f4_0 rfl ?_
  refine r_lconst 2 _ dJ9_abs_067f4_1 rfl kl_0 ?_
  refine r_lif_ge 11 6 dJ9_abs_067f4_2 dJ9_abs_067f4_3 (by decide) rfl X (fun _ X => ?_) (fun _ X => ?_)
  · refine r_lld0 12 dJ9_abs_067f4_11 rfl ?_
    exact r_retL dJ9_abs_067f4_12 (Nat.zero_le _) (Nat.zero_le _) X
  · refine r_lld0 7 dJ9_abs_067f4_6 rfl ?_
    refine r_lneg 8 dJ9_abs_067f4_7 rfl ?_
    refine r_goto 12 dJ9_abs_067f4_8 (by decide) ?_
    exact r_retL dJ9_abs_067f4_12 (Nat.zero_le _) (Nat.zero_le _) X
theorem mtJ9_abs_067f4 (G : GG) (hG : GT G) {x0 : Int64} {h h' : AH} {v : Int64} (hc : fJ9_abs_067f4 x0 h = some (v, h')) : AMet G yJ9_abs_067f4 cJ9_abs_067f4 2 (some .long) 0 0 0 0 [.long x0] h (some (.long v)) h' :=
  amet_of false [some (.long x0), none] (by decide +kernel) (by decide) (Nat.le_of_ble_eq_true rfl) rfl (Nat.le_of_ble_eq_true rfl) (wJ9_abs_067f4 G hG (v, h') _ h hc)
abbrev eJ9_floorDiv_f86c9 (G : GG) (R : Int64 × AH) : EE := eM G 6 (some .long) false 0 0 0 0 (some (.long R.1)) R.2
theorem wJ9_floorDiv_f86c9 (G : GG) (hG : GT G) (R : Int64 × AH) (x0 : Int64) (x1 : Int64) (h : AH) (X : fJ9_floorDiv_f86c9 x0 x1 h = some R) : AW (eJ9_floorDiv_f86c9 G R) RJ9 cJ9_floorDiv_f86c9 0 [some (.long x0), none, some (.long x1), none, none, none] [] h 0 0 := by
  unfold fJ9_floorDiv_f86c9 at X
  refine r_lld0 1 dJ9_floorDiv_f86c9_0 rfl ?_
  refine r_lld2 2 dJ9_floorDiv_f86c9_1 rfl ?_
  refine r_ldiv 3 dJ9_floorDiv_f86c9_2 rfl X (fun X => ?_)
  refine r_lst4w 5 dJ9_floorDiv_f86c9_3 rfl rfl X (fun x101 X => ?_)
  refine r_lld0 6 dJ9_floorDiv_f86c9_5 rfl ?_
  refine r_lld2 7 dJ9_floorDiv_f86c9_6 rfl ?_
  refine r_lxor 8 dJ9_floorDiv_f86c9_7 rfl ?_
  refine r_lconst 9 _ dJ9_floorDiv_f86c9_8 rfl kl_0 ?_
  refine r_lif_ge 27 13 dJ9_floorDiv_f86c9_9 dJ9_floorDiv_f86c9_10 (by decide) rfl X (fun _ X => ?_) (fun _ X => ?_)
  · refine r_lld4 29 dJ9_floorDiv_f86c9_27 rfl ?_
    exact r_retL dJ9_floorDiv_f86c9_29 (Nat.zero_le _) (Nat.zero_le _) X
  · refine r_lld4 15 dJ9_floorDiv_f86c9_13 rfl ?_
    refine r_lld2 16 dJ9_floorDiv_f86c9_15 rfl ?_
    refine r_lmul 17 dJ9_floorDiv_f86c9_16 rfl ?_
    refine r_lld0 18 dJ9_floorDiv_f86c9_17 rfl ?_
    refine r_lif_eq 27 22 dJ9_floorDiv_f86c9_18 dJ9_floorDiv_f86c9_19 (by decide) rfl X (fun _ X => ?_) (fun _ X => ?_)
    · refine r_lld4 29 dJ9_floorDiv_f86c9_27 rfl ?_
      exact r_retL dJ9_floorDiv_f86c9_29 (Nat.zero_le _) (Nat.zero_le _) X
    · refine r_lld4 24 dJ9_floorDiv_f86c9_22 rfl ?_
      refine r_lconst 25 _ dJ9_floorDiv_f86c9_24 rfl kl_1 ?_
      refine r_lsub 26 dJ9_floorDiv_f86c9_25 rfl ?_
      exact r_retL dJ9_floorDiv_f86c9_26 (Nat.zero_le _) (Nat.zero_le _) X
theorem mtJ9_floorDiv_f86c9 (G : GG) (hG : GT G) {x0 : Int64} {x1 : Int64} {h h' : AH} {v : Int64} (hc : fJ9_floorDiv_f86c9 x0 x1 h = some (v, h')) : AMet G yJ9_floorDiv_f86c9 cJ9_floorDiv_f86c9 6 (some .long) 0 0 0 0 [.long x0, .long x1] h (some (.long v)) h' :=
  amet_of false [some (.long x0), none, some (.long x1), none, none, none] (by decide +kernel) (by decide) (Nat.le_of_ble_eq_true rfl) rfl (Nat.le_of_ble_eq_true rfl) (wJ9_floorDiv_f86c9 G hG (v, h') _ _ h hc)
abbrev eX8_floorOf (G : GG) (R : Int64 × AH) : EE := eM G 4 (some .long) false 1 25 0 0 (some (.long R.1)) R.2
theorem wX8_floorOf (G : GG) (hG : GT G) (R : Int64 × AH) (x0 : Int64) (x1 : Int64) (h : AH) (X : fX8_floorOf x0 x1 h = some R) : AW (eX8_floorOf G R) RX8 cX8_floorOf 0 [some (.long x0), none, some (.long x1), none] [] h 0 0 := by
  unfold fX8_floorOf at X
  refine r_lld2 1 dX8_floorOf_0 rfl ?_
  refine r_lconst 2 _ dX8_floorOf_1 rfl kl_0 ?_
  refine r_lif_ne 10 6 dX8_floorOf_2 dX8_floorOf_3 (by decide) rfl X (fun _ X => ?_) (fun _ X => ?_)
  · refine r_lld0 11 dX8_floorOf_10 rfl ?_
    refine r_lld2 12 dX8_floorOf_11 rfl ?_
    obtain ⟨x102, h101, hc, X⟩ := bnd_ok X
    refine r_callS2 15 dX8_floorOf_12 rfl lmX8_304 (mtJ9_floorDiv_f86c9 G hG hc) rfl ⟨(Nat.zero_le _), (Nat.zero_le _)⟩ ?_
    exact r_retL dX8_floorOf_15 (Nat.zero_le _) (Nat.zero_le _) X
  · refine r_lconst 7 _ dX8_floorOf_6 rfl kl_0 ?_
    refine r_goto 15 dX8_floorOf_7 (by decide) ?_
    exact r_retL dX8_floorOf_15 (Nat.zero_le _) (Nat.zero_le _) X
theorem mtX8_floorOf (G : GG) (hG : GT G) {x0 : Int64} {x1 : Int64} {h h' : AH} {v : Int64} (hc : fX8_floorOf x0 x1 h = some (v, h')) : AMet G yX8_floorOf cX8_floorOf 4 (some .long) 1 25 0 0 [.long x0, .long x1] h (some (.long v)) h' :=
  amet_of false [some (.long x0), none, some (.long x1), none] (by decide +kernel) (by decide) (Nat.le_of_ble_eq_true rfl) rfl (Nat.le_of_ble_eq_true rfl) (wX8_floorOf G hG (v, h') _ _ h hc)
abbrev eX1_cornersAgree (G : GG) (R : Int32 × AH) : EE := eM G 4 (some .boolean) false 2 48 0 0 (some (.int R.1)) R.2
theorem wX1_cornersAgree_82 (G : GG) (hG : GT G) (R : Int32 × AH) {K82 : Nat → Int64 → Int32 → AH → Fn Int32} (hK82 : ∀ (l0 : Nat) (l1 : Int64) (l3 : Int32) (h : AH), K82 l0 l1 l3 h = some R → AW (eX1_cornersAgree G R) RX1 cX1_cornersAgree 82 [some (.ref (gB G + l0)), some (.long l1), none, some (.int l3)] [] h 0 0) (l0 : Nat) (l1 : Int64) (l3 : Int32) (h : AH) (X : fX1_cornersAgree_82 K82 l0 l1 l3 h = some R) : AW (eX1_cornersAgree G R) RX1 cX1_cornersAgree 82 [some (.ref (gB G + l0)), some (.long l1), none, some (.int l3)] [] h 0 0 := by
  unfold fX1_cornersAgree_82 at X
  refine r_ild3 83 dX1_cornersAgree_82 rfl ?_
  refine r_ald0 84 dX1_cornersAgree_83 rfl ?_
  refine r_gI 87 dX1_cornersAgree_84 rfl lfX1_36 rfl X (fun x101 X => ?_)
  refine r_icmp_ge 118 90 dX1_cornersAgree_87 (by decide) rfl X (fun _ X => ?_) (fun _ X => ?_)
  · refine r_iconst 119 _ dX1_cornersAgree_118 rfl ki_1 ?_
    exact r_ret1 dX1_cornersAgree_119 (Nat.zero_le _) (Nat.zero_le _) X
  · refine r_ald0 91 dX1_cornersAgree_90 rfl ?_
    refine r_gR 94 dX1_cornersAgree_91 rfl lfX1_30 rfl X (fun b102 X => ?_)
    refine r_ild3 95 dX1_cornersAgree_94 rfl ?_
    refine r_aL 96 1 dX1_cornersAgree_95 rfl rfl X (fun x103 X => ?_)
    refine r_ald0 97 dX1_cornersAgree_96 rfl ?_
    refine r_gR 100 dX1_cornersAgree_97 rfl lfX1_33 rfl X (fun b104 X => ?_)
    refine r_ild3 101 dX1_cornersAgree_100 rfl ?_
    refine r_aL 102 1 dX1_cornersAgree_101 rfl rfl X (fun x105 X => ?_)
    obtain ⟨x107, h106, hc, X⟩ := bnd_ok X
    refine r_callS2 105 dX1_cornersAgree_102 rfl lmX1_85 (mtX8_floorOf G hG hc) rfl ⟨(Nat.zero_le _), (Nat.zero_le _)⟩ ?_
    refine r_lld1 106 dX1_cornersAgree_105 rfl ?_
    refine r_lif_eq 112 110 dX1_cornersAgree_106 dX1_cornersAgree_107 (by decide) rfl X (fun _ X => ?_) (fun _ X => ?_)
    · refine r_iinc3w 115 dX1_cornersAgree_112 rfl rfl ki_1 X (fun x108 X => ?_)
      refine r_goto 82 dX1_cornersAgree_115 (by decide) ?_
      exact r_cut (hK82 _ _ _ _ X) ⟨rfl, ⟨rfl, ⟨rfl, trivial⟩⟩⟩
    · refine r_iconst 111 _ dX1_cornersAgree_110 rfl ki_0 ?_
      exact r_ret0 dX1_cornersAgree_111 (Nat.zero_le _) (Nat.zero_le _) X
theorem wX1_cornersAgree_82L (G : GG) (hG : GT G) (R : Int32 × AH) : ∀ (m : Nat) (l0 : Nat) (l1 : Int64) (l3 : Int32) (h : AH), fX1_cornersAgree_82L m l0 l1 l3 h = some R → AW (eX1_cornersAgree G R) RX1 cX1_cornersAgree 82 [some (.ref (gB G + l0)), some (.long l1), none, some (.int l3)] [] h 0 0 := by
  intro m
  induction m with
  | zero => intro l0 l1 l3 h X; exact nomatch (show (none : Fn Int32) = some R from X)
  | succ m ih => intro l0 l1 l3 h X; exact wX1_cornersAgree_82 G hG R ih l0 l1 l3 h X
theorem wX1_cornersAgree_64 (G : GG) (hG : GT G) (R : Int32 × AH) (l0 : Nat) (h : AH) (X : fX1_cornersAgree_64 l0 h = some R) : AW (eX1_cornersAgree G R) RX1 cX1_cornersAgree 64 [some (.ref (gB G + l0)), none, none, none] [] h 0 0 := by
  unfold fX1_cornersAgree_64 at X
  refine r_ald0 65 dX1_cornersAgree_64 rfl ?_
  refine r_gR 68 dX1_cornersAgree_65 rfl lfX1_30 rfl X (fun b101 X => ?_)
  refine r_iconst 69 _ dX1_cornersAgree_68 rfl ki_0 ?_
  refine r_aL 70 1 dX1_cornersAgree_69 rfl rfl X (fun x102 X => ?_)
  refine r_ald0 71 dX1_cornersAgree_70 rfl ?_
  refine r_gR 74 dX1_cornersAgree_71 rfl lfX1_33 rfl X (fun b103 X => ?_)
  refine r_iconst 75 _ dX1_cornersAgree_74 rfl ki_0 ?_
  refine r_aL 76 1 dX1_cornersAgree_75 rfl rfl X (fun x104 X => ?_)
  obtain ⟨x106, h105, hc, X⟩ := bnd_ok X
  refine r_callS2 79 dX1_cornersAgree_76 rfl lmX1_85 (mtX8_floorOf G hG hc) rfl ⟨(Nat.zero_le _), (Nat.zero_le _)⟩ ?_
  refine r_lst1 80 dX1_cornersAgree_79 rfl rfl ?_
  refine r_iconst 81 _ dX1_cornersAgree_80 rfl ki_1 ?_
  refine r_ist3 82 dX1_cornersAgree_81 rfl rfl ?_
  exact r_cut (wX1_cornersAgree_82L G hG R 1000 _ _ _ _ X) ⟨rfl, ⟨rfl, ⟨rfl, trivial⟩⟩⟩
theorem wX1_cornersAgree_37 (G : GG) (hG : GT G) (R : Int32 × AH) {K2 : Nat → Int32 → AH → Fn Int32} (hK2 : ∀ (l0 : Nat) (l1 : Int32) (h : AH), K2 l0 l1 h = some R → AW (eX1_cornersAgree G R) RX1 cX1_cornersAgree 2 [some (.ref (gB G + l0)), some (.int l1), none, none] [] h 0 0) (l0 : Nat) (l1 : Int32) (s0 : Int32) (h : AH) (X : fX1_cornersAgree_37 K2 l0 l1 s0 h = some R) : AW (eX1_cornersAgree G R) RX1 cX1_cornersAgree 37 [some (.ref (gB G + l0)), some (.int l1), none, none] [.int s0] h 0 0 := by
  unfold fX1_cornersAgree_37 at X
  refine r_ald0 38 dX1_cornersAgree_37 rfl ?_
  refine r_gR 41 dX1_cornersAgree_38 rfl lfX1_33 rfl X (fun b101 X => ?_)
  refine r_iconst 42 _ dX1_cornersAgree_41 rfl ki_0 ?_
  refine r_aL 43 1 dX1_cornersAgree_42 rfl rfl X (fun x102 X => ?_)
  refine r_lconst 44 _ dX1_cornersAgree_43 rfl kl_0 ?_
  refine r_lif_ge 52 48 dX1_cornersAgree_44 dX1_cornersAgree_45 (by decide) rfl X (fun _ X => ?_) (fun _ X => ?_)
  · refine r_iconst 53 _ dX1_cornersAgree_52 rfl ki_0 ?_
    refine r_icmp_eq 58 56 dX1_cornersAgree_53 (by decide) rfl X (fun _ X => ?_) (fun _ X => ?_)
    · refine r_iinc1w 61 dX1_cornersAgree_58 rfl rfl ki_1 X (fun x103 X => ?_)
      refine r_goto 2 dX1_cornersAgree_61 (by decide) ?_
      exact r_cut (hK2 _ _ _ X) ⟨rfl, ⟨rfl, trivial⟩⟩
    · refine r_iconst 57 _ dX1_cornersAgree_56 rfl ki_0 ?_
      exact r_ret0 dX1_cornersAgree_57 (Nat.zero_le _) (Nat.zero_le _) X
  · refine r_iconst 49 _ dX1_cornersAgree_48 rfl ki_1 ?_
    refine r_goto 53 dX1_cornersAgree_49 (by decide) ?_
    refine r_icmp_eq 58 56 dX1_cornersAgree_53 (by decide) rfl X (fun _ X => ?_) (fun _ X => ?_)
    · refine r_iinc1w 61 dX1_cornersAgree_58 rfl rfl ki_1 X (fun x104 X => ?_)
      refine r_goto 2 dX1_cornersAgree_61 (by decide) ?_
      exact r_cut (hK2 _ _ _ X) ⟨rfl, ⟨rfl, trivial⟩⟩
    · refine r_iconst 57 _ dX1_cornersAgree_56 rfl ki_0 ?_
      exact r_ret0 dX1_cornersAgree_57 (Nat.zero_le _) (Nat.zero_le _) X
theorem wX1_cornersAgree_2 (G : GG) (hG : GT G) (R : Int32 × AH) {K2 : Nat → Int32 → AH → Fn Int32} (hK2 : ∀ (l0 : Nat) (l1 : Int32) (h : AH), K2 l0 l1 h = some R → AW (eX1_cornersAgree G R) RX1 cX1_cornersAgree 2 [some (.ref (gB G + l0)), some (.int l1), none, none] [] h 0 0) (l0 : Nat) (l1 : Int32) (h : AH) (X : fX1_cornersAgree_2 K2 l0 l1 h = some R) : AW (eX1_cornersAgree G R) RX1 cX1_cornersAgree 2 [some (.ref (gB G + l0)), some (.int l1), none, none] [] h 0 0 := by
  unfold fX1_cornersAgree_2 at X
  refine r_ild1 3 dX1_cornersAgree_2 rfl ?_
  refine r_ald0 4 dX1_cornersAgree_3 rfl ?_
  refine r_gI 7 dX1_cornersAgree_4 rfl lfX1_36 rfl X (fun x101 X => ?_)
  refine r_icmp_ge 64 10 dX1_cornersAgree_7 (by decide) rfl X (fun _ X => ?_) (fun _ X => ?_)
  · exact r_cut (wX1_cornersAgree_64 G hG R _ _ X) ⟨rfl, trivial⟩
  · refine r_ald0 11 dX1_cornersAgree_10 rfl ?_
    refine r_gR 14 dX1_cornersAgree_11 rfl lfX1_33 rfl X (fun b102 X => ?_)
    refine r_ild1 15 dX1_cornersAgree_14 rfl ?_
    refine r_aL 16 1 dX1_cornersAgree_15 rfl rfl X (fun x103 X => ?_)
    refine r_lconst 17 _ dX1_cornersAgree_16 rfl kl_0 ?_
    refine r_lif_eq 56 21 dX1_cornersAgree_17 dX1_cornersAgree_18 (by decide) rfl X (fun _ X => ?_) (fun _ X => ?_)
    · refine r_iconst 57 _ dX1_cornersAgree_56 rfl ki_0 ?_
      exact r_ret0 dX1_cornersAgree_57 (Nat.zero_le _) (Nat.zero_le _) X
    · refine r_ald0 22 dX1_cornersAgree_21 rfl ?_
      refine r_gR 25 dX1_cornersAgree_22 rfl lfX1_33 rfl X (fun b104 X => ?_)
      refine r_ild1 26 dX1_cornersAgree_25 rfl ?_
      refine r_aL 27 1 dX1_cornersAgree_26 rfl rfl X (fun x105 X => ?_)
      refine r_lconst 28 _ dX1_cornersAgree_27 rfl kl_0 ?_
      refine r_lif_ge 36 32 dX1_cornersAgree_28 dX1_cornersAgree_29 (by decide) rfl X (fun _ X => ?_) (fun _ X => ?_)
      · refine r_iconst 37 _ dX1_cornersAgree_36 rfl ki_0 ?_
        exact r_cut (wX1_cornersAgree_37 G hG R hK2 _ _ _ _ X) ⟨rfl, ⟨rfl, trivial⟩⟩
      · refine r_iconst 33 _ dX1_cornersAgree_32 rfl ki_1 ?_
        refine r_goto 37 dX1_cornersAgree_33 (by decide) ?_
        exact r_cut (wX1_cornersAgree_37 G hG R hK2 _ _ _ _ X) ⟨rfl, ⟨rfl, trivial⟩⟩
theorem wX1_cornersAgree_2L (G : GG) (hG : GT G) (R : Int32 × AH) : ∀ (m : Nat) (l0 : Nat) (l1 : Int32) (h : AH), fX1_cornersAgree_2L m l0 l1 h = some R → AW (eX1_cornersAgree G R) RX1 cX1_cornersAgree 2 [some (.ref (gB G + l0)), some (.int l1), none, none] [] h 0 0 := by
  intro m
  induction m with
  | zero => intro l0 l1 h X; exact nomatch (show (none : Fn Int32) = some R from X)
  | succ m ih => intro l0 l1 h X; exact wX1_cornersAgree_2 G hG R ih l0 l1 h X
theorem wX1_cornersAgree (G : GG) (hG : GT G) (R : Int32 × AH) (a0 : Nat) (h : AH) (X : fX1_cornersAgree a0 h = some R) : AW (eX1_cornersAgree G R) RX1 cX1_cornersAgree 0 [some (.ref (gB G + a0)), none, none, none] [] h 0 0 := by
  unfold fX1_cornersAgree at X
  refine r_iconst 1 _ dX1_cornersAgree_0 rfl ki_0 ?_
  refine r_ist1 2 dX1_cornersAgree_1 rfl rfl ?_
  exact r_cut (wX1_cornersAgree_2L G hG R 1000 _ _ _ X) ⟨rfl, ⟨rfl, trivial⟩⟩
theorem mtX1_cornersAgree (G : GG) (hG : GT G) {a0 : Nat} {h h' : AH} {v : Int32} (hc : fX1_cornersAgree a0 h = some (v, h')) : AMet G yX1_cornersAgree cX1_cornersAgree 4 (some .boolean) 2 48 0 0 [.ref (gB G + a0)] h (some (.int v)) h' :=
  amet_of false [some (.ref (gB G + a0)), none, none, none] (by decide +kernel) (by decide) (Nat.le_of_ble_eq_true rfl) rfl (Nat.le_of_ble_eq_true rfl) (wX1_cornersAgree G hG (v, h') _ h hc)
abbrev eX1_rollOn (G : GG) (R : Unit × AH) : EE := eM G 6 none false 0 0 0 0 none R.2
theorem wX1_rollOn_74 (G : GG) (hG : GT G) (R : Unit × AH) (l0 : Nat) (h : AH) (X : fX1_rollOn_74 l0 h = some R) : AW (eX1_rollOn G R) RX1 cX1_rollOn 74 [some (.ref (gB G + l0)), none, none, none, none, none] [] h 0 0 := by
  unfold fX1_rollOn_74 at X
  refine r_ald0 75 dX1_rollOn_74 rfl ?_
  refine r_dup 76 dX1_rollOn_75 rfl rfl ?_
  refine r_gI 79 dX1_rollOn_76 rfl lfX1_43 rfl X (fun x101 X => ?_)
  refine r_iconst 80 _ dX1_rollOn_79 rfl ki_1 ?_
  refine r_iadd 81 dX1_rollOn_80 rfl ?_
  refine r_pI 84 dX1_rollOn_81 rfl lpX1_43 rfl X (fun h102 X => ?_)
  exact r_retV dX1_rollOn_84 (Nat.zero_le _) (Nat.zero_le _) X
theorem wX1_rollOn_42 (G : GG) (hG : GT G) (R : Unit × AH) {K42 : Nat → Int32 → Int32 → AH → Fn Unit} (hK42 : ∀ (l0 : Nat) (l4 : Int32) (l5 : Int32) (h : AH), K42 l0 l4 l5 h = some R → AW (eX1_rollOn G R) RX1 cX1_rollOn 42 [some (.ref (gB G + l0)), none, none, none, some (.int l4), some (.int l5)] [] h 0 0) (l0 : Nat) (l4 : Int32) (l5 : Int32) (h : AH) (X : fX1_rollOn_42 K42 l0 l4 l5 h = some R) : AW (eX1_rollOn G R) RX1 cX1_rollOn 42 [some (.ref (gB G + l0)), none, none, none, some (.int l4), some (.int l5)] [] h 0 0 := by
  unfold fX1_rollOn_42 at X
  refine r_ild5 44 dX1_rollOn_42 rfl ?_
  refine r_bipush 46 _ dX1_rollOn_44 rfl kb_8 ?_
  refine r_icmp_ge 74 49 dX1_rollOn_46 (by decide) rfl X (fun _ X => ?_) (fun _ X => ?_)
  · exact r_cut (wX1_rollOn_74 G hG R _ _ X) ⟨rfl, trivial⟩
  · refine r_ald0 50 dX1_rollOn_49 rfl ?_
    refine r_gR 53 dX1_rollOn_50 rfl lfX1_40 rfl X (fun b101 X => ?_)
    refine r_ild4 55 dX1_rollOn_53 rfl ?_
    refine r_iconst 56 _ dX1_rollOn_55 rfl ki_2 ?_
    refine r_iadd 57 dX1_rollOn_56 rfl ?_
    refine r_ild5 59 dX1_rollOn_57 rfl ?_
    refine r_iadd 60 dX1_rollOn_59 rfl ?_
    refine r_ald0 61 dX1_rollOn_60 rfl ?_
    refine r_gR 64 dX1_rollOn_61 rfl lfX1_23 rfl X (fun b102 X => ?_)
    refine r_ild5 66 dX1_rollOn_64 rfl ?_
    refine r_aL 67 1 dX1_rollOn_66 rfl rfl X (fun x103 X => ?_)
    refine r_zL 68 1 dX1_rollOn_67 rfl rfl X (fun h104 X => ?_)
    refine r_iinc5w 71 dX1_rollOn_68 rfl rfl ki_1 X (fun x105 X => ?_)
    refine r_goto 42 dX1_rollOn_71 (by decide) ?_
    exact r_cut (hK42 _ _ _ _ X) ⟨rfl, ⟨rfl, ⟨rfl, trivial⟩⟩⟩
theorem wX1_rollOn_42L (G : GG) (hG : GT G) (R : Unit × AH) : ∀ (m : Nat) (l0 : Nat) (l4 : Int32) (l5 : Int32) (h : AH), fX1_rollOn_42L m l0 l4 l5 h = some R → AW (eX1_rollOn G R) RX1 cX1_rollOn 42 [some (.ref (gB G + l0)), none, none, none, some (.int l4), some (.int l5)] [] h 0 0 := by
  intro m
  induction m with
  | zero => intro l0 l4 l5 h X; exact nomatch (show (none : Fn Unit) = some R from X)
  | succ m ih => intro l0 l4 l5 h X; exact wX1_rollOn_42 G hG R ih l0 l4 l5 h X
theorem wX1_rollOn (G : GG) (hG : GT G) (R : Unit × AH) (a0 : Nat) (x0 : Int32) (x1 : Int64) (h : AH) (X : fX1_rollOn a0 x0 x1 h = some R) : AW (eX1_rollOn G R) RX1 cX1_rollOn 0 [some (.ref (gB G + a0)), some (.int x0), some (.long x1), none, none, none] [] h 0 0 := by
  unfold fX1_rollOn at X
  refine r_ald0 1 dX1_rollOn_0 rfl ?_
  refine r_gI 4 dX1_rollOn_1 rfl lfX1_43 rfl X (fun x101 X => ?_)
  refine r_sipush 7 _ dX1_rollOn_4 rfl ks_182 ?_
  refine r_icmp_lt 11 10 dX1_rollOn_7 (by decide) rfl X (fun _ X => ?_) (fun _ X => ?_)
  · refine r_ald0 12 dX1_rollOn_11 rfl ?_
    refine r_gI 15 dX1_rollOn_12 rfl lfX1_43 rfl X (fun x102 X => ?_)
    refine r_bipush 17 _ dX1_rollOn_15 rfl kb_10 ?_
    refine r_imul 18 dX1_rollOn_17 rfl ?_
    refine r_ist4w 20 dX1_rollOn_18 rfl rfl X (fun x103 X => ?_)
    refine r_ald0 21 dX1_rollOn_20 rfl ?_
    refine r_gR 24 dX1_rollOn_21 rfl lfX1_40 rfl X (fun b104 X => ?_)
    refine r_ild4 26 dX1_rollOn_24 rfl ?_
    refine r_ild1 27 dX1_rollOn_26 rfl ?_
    refine r_i2l 28 dX1_rollOn_27 rfl ?_
    refine r_zL 29 1 dX1_rollOn_28 rfl rfl X (fun h105 X => ?_)
    refine r_ald0 30 dX1_rollOn_29 rfl ?_
    refine r_gR 33 dX1_rollOn_30 rfl lfX1_40 rfl X (fun b106 X => ?_)
    refine r_ild4 35 dX1_rollOn_33 rfl ?_
    refine r_iconst 36 _ dX1_rollOn_35 rfl ki_1 ?_
    refine r_iadd 37 dX1_rollOn_36 rfl ?_
    refine r_lld2 38 dX1_rollOn_37 rfl ?_
    refine r_zL 39 1 dX1_rollOn_38 rfl rfl X (fun h107 X => ?_)
    refine r_iconst 40 _ dX1_rollOn_39 rfl ki_0 ?_
    refine r_ist5 42 dX1_rollOn_40 rfl rfl ?_
    exact r_cut (wX1_rollOn_42L G hG R 1000 _ _ _ _ X) ⟨rfl, ⟨rfl, ⟨rfl, trivial⟩⟩⟩
  · exact r_retV dX1_rollOn_10 (Nat.zero_le _) (Nat.zero_le _) X
theorem mtX1_rollOn (G : GG) (hG : GT G) {a0 : Nat} {x0 : Int32} {x1 : Int64} {h h' : AH} {v : Unit} (hc : fX1_rollOn a0 x0 x1 h = some (v, h')) : AMet G yX1_rollOn cX1_rollOn 6 none 0 0 0 0 [.ref (gB G + a0), .int x0, .long x1] h none h' :=
  amet_of false [some (.ref (gB G + a0)), some (.int x0), some (.long x1), none, none, none] (by decide +kernel) (by decide) (Nat.le_of_ble_eq_true rfl) rfl (Nat.le_of_ble_eq_true rfl) (wX1_rollOn G hG (v, h') _ _ _ h hc)
abbrev eX8_greatestCommonDivisor (G : GG) (R : Int64 × AH) : EE := eM G 11 (some .long) false 0 0 0 0 (some (.long R.1)) R.2
theorem wX8_greatestCommonDivisor_31 (G : GG) (hG : GT G) (R : Int64 × AH) {K31 : Int64 → Int64 → Int32 → AH → Fn Int64} (hK31 : ∀ (l4 : Int64) (l6 : Int64) (l8 : Int32) (h : AH), K31 l4 l6 l8 h = some R → AW (eX8_greatestCommonDivisor G R) RX8 cX8_greatestCommonDivisor 31 [none, none, none, none, some (.long l4), none, some (.long l6), none, some (.int l8), none, none] [] h 0 0) (l4 : Int64) (l6 : Int64) (l8 : Int32) (h : AH) (X : fX8_greatestCommonDivisor_31 K31 l4 l6 l8 h = some R) : AW (eX8_greatestCommonDivisor G R) RX8 cX8_greatestCommonDivisor 31 [none, none, none, none, some (.long l4), none, some (.long l6), none, some (.int l8), none, none] [] h 0 0 := by
  unfold fX8_greatestCommonDivisor_31 at X
  refine r_ild8 33 dX8_greatestCommonDivisor_31 rfl ?_
  refine r_bipush 35 _ dX8_greatestCommonDivisor_33 rfl kb_100 ?_
  refine r_icmp_ge 66 38 dX8_greatestCommonDivisor_35 (by decide) rfl X (fun _ X => ?_) (fun _ X => ?_)
  · refine r_lld4 68 dX8_greatestCommonDivisor_66 rfl ?_
    exact r_retL dX8_greatestCommonDivisor_68 (Nat.zero_le _) (Nat.zero_le _) X
  · refine r_lld6 40 dX8_greatestCommonDivisor_38 rfl ?_
    refine r_lconst 41 _ dX8_greatestCommonDivisor_40 rfl kl_0 ?_
    refine r_lif_eq 66 45 dX8_greatestCommonDivisor_41 dX8_greatestCommonDivisor_42 (by decide) rfl X (fun _ X => ?_) (fun _ X => ?_)
    · refine r_lld4 68 dX8_greatestCommonDivisor_66 rfl ?_
      exact r_retL dX8_greatestCommonDivisor_68 (Nat.zero_le _) (Nat.zero_le _) X
    · refine r_lld4 47 dX8_greatestCommonDivisor_45 rfl ?_
      refine r_lld6 49 dX8_greatestCommonDivisor_47 rfl ?_
      refine r_lrem 50 dX8_greatestCommonDivisor_49 rfl X (fun X => ?_)
      refine r_lst9w 52 dX8_greatestCommonDivisor_50 rfl rfl X (fun x101 X => ?_)
      refine r_lld6 54 dX8_greatestCommonDivisor_52 rfl ?_
      refine r_lst4 56 dX8_greatestCommonDivisor_54 rfl rfl ?_
      refine r_lld9 58 dX8_greatestCommonDivisor_56 rfl ?_
      refine r_lst6 60 dX8_greatestCommonDivisor_58 rfl rfl ?_
      refine r_iinc8w 63 dX8_greatestCommonDivisor_60 rfl rfl ki_1 X (fun x102 X => ?_)
      refine r_goto 31 dX8_greatestCommonDivisor_63 (by decide) ?_
      exact r_cut (hK31 _ _ _ _ X) ⟨rfl, ⟨rfl, ⟨rfl, trivial⟩⟩⟩
theorem wX8_greatestCommonDivisor_31L (G : GG) (hG : GT G) (R : Int64 × AH) : ∀ (m : Nat) (l4 : Int64) (l6 : Int64) (l8 : Int32) (h : AH), fX8_greatestCommonDivisor_31L m l4 l6 l8 h = some R → AW (eX8_greatestCommonDivisor G R) RX8 cX8_greatestCommonDivisor 31 [none, none, none, none, some (.long l4), none, some (.long l6), none, some (.int l8), none, none] [] h 0 0 := by
  intro m
  induction m with
  | zero => intro l4 l6 l8 h X; exact nomatch (show (none : Fn Int64) = some R from X)
  | succ m ih => intro l4 l6 l8 h X; exact wX8_greatestCommonDivisor_31 G hG R ih l4 l6 l8 h X
theorem wX8_greatestCommonDivisor_12 (G : GG) (hG : GT G) (R : Int64 × AH) (l2 : Int64) (s0 : Int64) (h : AH) (X : fX8_greatestCommonDivisor_12 l2 s0 h = some R) : AW (eX8_greatestCommonDivisor G R) RX8 cX8_greatestCommonDivisor 12 [none, none, some (.long l2), none, none, none, none, none, none, none, none] [.long s0] h 0 0 := by
  unfold fX8_greatestCommonDivisor_12 at X
  refine r_lst4 14 dX8_greatestCommonDivisor_12 rfl rfl ?_
  refine r_lld2 15 dX8_greatestCommonDivisor_14 rfl ?_
  refine r_lconst 16 _ dX8_greatestCommonDivisor_15 rfl kl_0 ?_
  refine r_lif_ge 25 20 dX8_greatestCommonDivisor_16 dX8_greatestCommonDivisor_17 (by decide) rfl X (fun _ X => ?_) (fun _ X => ?_)
  · refine r_lld2 26 dX8_greatestCommonDivisor_25 rfl ?_
    refine r_lst6 28 dX8_greatestCommonDivisor_26 rfl rfl ?_
    refine r_iconst 29 _ dX8_greatestCommonDivisor_28 rfl ki_0 ?_
    refine r_ist8 31 dX8_greatestCommonDivisor_29 rfl rfl ?_
    exact r_cut (wX8_greatestCommonDivisor_31L G hG R 1000 _ _ _ _ X) ⟨rfl, ⟨rfl, ⟨rfl, trivial⟩⟩⟩
  · refine r_lld2 21 dX8_greatestCommonDivisor_20 rfl ?_
    refine r_lneg 22 dX8_greatestCommonDivisor_21 rfl ?_
    refine r_goto 26 dX8_greatestCommonDivisor_22 (by decide) ?_
    refine r_lst6w 28 dX8_greatestCommonDivisor_26 rfl rfl X (fun x101 X => ?_)
    refine r_iconst 29 _ dX8_greatestCommonDivisor_28 rfl ki_0 ?_
    refine r_ist8 31 dX8_greatestCommonDivisor_29 rfl rfl ?_
    exact r_cut (wX8_greatestCommonDivisor_31L G hG R 1000 _ _ _ _ X) ⟨rfl, ⟨rfl, ⟨rfl, trivial⟩⟩⟩
theorem wX8_greatestCommonDivisor (G : GG) (hG : GT G) (R : Int64 × AH) (x0 : Int64) (x1 : Int64) (h : AH) (X : fX8_greatestCommonDivisor x0 x1 h = some R) : AW (eX8_greatestCommonDivisor G R) RX8 cX8_greatestCommonDivisor 0 [some (.long x0), none, some (.long x1), none, none, none, none, none, none, none, none] [] h 0 0 := by
  unfold fX8_greatestCommonDivisor at X
  refine r_lld0 1 dX8_greatestCommonDivisor_0 rfl ?_
  refine r_lconst 2 _ dX8_greatestCommonDivisor_1 rfl kl_0 ?_
  refine r_lif_ge 11 6 dX8_greatestCommonDivisor_2 dX8_greatestCommonDivisor_3 (by decide) rfl X (fun _ X => ?_) (fun _ X => ?_)
  · refine r_lld0 12 dX8_greatestCommonDivisor_11 rfl ?_
    exact r_cut (wX8_greatestCommonDivisor_12 G hG R _ _ _ X) ⟨rfl, trivial⟩
  · refine r_lld0 7 dX8_greatestCommonDivisor_6 rfl ?_
    refine r_lneg 8 dX8_greatestCommonDivisor_7 rfl ?_
    refine r_goto 12 dX8_greatestCommonDivisor_8 (by decide) ?_
    exact r_cut (wX8_greatestCommonDivisor_12 G hG R _ _ _ X) ⟨rfl, trivial⟩
theorem mtX8_greatestCommonDivisor (G : GG) (hG : GT G) {x0 : Int64} {x1 : Int64} {h h' : AH} {v : Int64} (hc : fX8_greatestCommonDivisor x0 x1 h = some (v, h')) : AMet G yX8_greatestCommonDivisor cX8_greatestCommonDivisor 11 (some .long) 0 0 0 0 [.long x0, .long x1] h (some (.long v)) h' :=
  amet_of false [some (.long x0), none, some (.long x1), none, none, none, none, none, none, none, none] (by decide +kernel) (by decide) (Nat.le_of_ble_eq_true rfl) rfl (Nat.le_of_ble_eq_true rfl) (wX8_greatestCommonDivisor G hG (v, h') _ _ h hc)
abbrev eX8_isFar (G : GG) (R : Int32 × AH) : EE := eM G 2 (some .boolean) false 0 0 0 0 (some (.int R.1)) R.2
theorem wX8_isFar (G : GG) (hG : GT G) (R : Int32 × AH) (x0 : Int64) (h : AH) (X : fX8_isFar x0 h = some R) : AW (eX8_isFar G R) RX8 cX8_isFar 0 [some (.long x0), none] [] h 0 0 := by
  unfold fX8_isFar at X
  refine r_lld0 1 dX8_isFar_0 rfl ?_
  refine r_ldc2 4 dX8_isFar_1 rfl lkX8_286 ?_
  refine r_lif_gt 16 8 dX8_isFar_4 dX8_isFar_5 (by decide) rfl X (fun _ X => ?_) (fun _ X => ?_)
  · refine r_iconst 17 _ dX8_isFar_16 rfl ki_1 ?_
    refine r_goto 21 dX8_isFar_17 (by decide) ?_
    exact r_ret1 dX8_isFar_21 (Nat.zero_le _) (Nat.zero_le _) X
  · refine r_lld0 9 dX8_isFar_8 rfl ?_
    refine r_ldc2 12 dX8_isFar_9 rfl lkX8_288 ?_
    refine r_lif_ge 20 16 dX8_isFar_12 dX8_isFar_13 (by decide) rfl X (fun _ X => ?_) (fun _ X => ?_)
    · refine r_iconst 21 _ dX8_isFar_20 rfl ki_0 ?_
      exact r_ret0 dX8_isFar_21 (Nat.zero_le _) (Nat.zero_le _) X
    · refine r_iconst 17 _ dX8_isFar_16 rfl ki_1 ?_
      refine r_goto 21 dX8_isFar_17 (by decide) ?_
      exact r_ret1 dX8_isFar_21 (Nat.zero_le _) (Nat.zero_le _) X
theorem mtX8_isFar (G : GG) (hG : GT G) {x0 : Int64} {h h' : AH} {v : Int32} (hc : fX8_isFar x0 h = some (v, h')) : AMet G yX8_isFar cX8_isFar 2 (some .boolean) 0 0 0 0 [.long x0] h (some (.int v)) h' :=
  amet_of false [some (.long x0), none] (by decide +kernel) (by decide) (Nat.le_of_ble_eq_true rfl) rfl (Nat.le_of_ble_eq_true rfl) (wX8_isFar G hG (v, h') _ h hc)
abbrev eX1_keepStep (G : GG) (R : Int32 × AH) : EE := eM G 7 (some .boolean) false 1 30 0 0 (some (.int R.1)) R.2
theorem wX1_keepStep_105 (G : GG) (hG : GT G) (R : Int32 × AH) (l0 : Nat) (l1 : Int32) (l2 : Int64) (h : AH) (X : fX1_keepStep_105 l0 l1 l2 h = some R) : AW (eX1_keepStep G R) RX1 cX1_keepStep 105 [some (.ref (gB G + l0)), some (.int l1), some (.long l2), none, none, none, none] [] h 0 0 := by
  unfold fX1_keepStep_105 at X
  refine r_ald0 106 dX1_keepStep_105 rfl ?_
  refine r_ild1 107 dX1_keepStep_106 rfl ?_
  refine r_lld2 108 dX1_keepStep_107 rfl ?_
  obtain ⟨hs, X⟩ := r_cv X
  obtain ⟨_, h101, hc, X⟩ := bnd_ok X
  refine r_callV2v 111 dX1_keepStep_108 rfl lmX1_149 hs (mtX1_rollOn G hG hc) rfl ⟨(Nat.zero_le _), (Nat.zero_le _)⟩ ?_
  refine r_iconst 112 _ dX1_keepStep_111 rfl ki_1 ?_
  exact r_ret1 dX1_keepStep_112 (Nat.zero_le _) (Nat.zero_le _) X
theorem wX1_keepStep_58 (G : GG) (hG : GT G) (R : Int32 × AH) {K58 : Nat → Int32 → Int64 → Int64 → Int32 → AH → Fn Int32} (hK58 : ∀ (l0 : Nat) (l1 : Int32) (l2 : Int64) (l4 : Int64) (l6 : Int32) (h : AH), K58 l0 l1 l2 l4 l6 h = some R → AW (eX1_keepStep G R) RX1 cX1_keepStep 58 [some (.ref (gB G + l0)), some (.int l1), some (.long l2), none, some (.long l4), none, some (.int l6)] [] h 0 0) (l0 : Nat) (l1 : Int32) (l2 : Int64) (l4 : Int64) (l6 : Int32) (h : AH) (X : fX1_keepStep_58 K58 l0 l1 l2 l4 l6 h = some R) : AW (eX1_keepStep G R) RX1 cX1_keepStep 58 [some (.ref (gB G + l0)), some (.int l1), some (.long l2), none, some (.long l4), none, some (.int l6)] [] h 0 0 := by
  unfold fX1_keepStep_58 at X
  refine r_ild6 60 dX1_keepStep_58 rfl ?_
  refine r_bipush 62 _ dX1_keepStep_60 rfl kb_8 ?_
  refine r_icmp_ge 105 65 dX1_keepStep_62 (by decide) rfl X (fun _ X => ?_) (fun _ X => ?_)
  · exact r_cut (wX1_keepStep_105 G hG R _ _ _ _ X) ⟨rfl, ⟨rfl, ⟨rfl, trivial⟩⟩⟩
  · refine r_ald0 66 dX1_keepStep_65 rfl ?_
    refine r_gR 69 dX1_keepStep_66 rfl lfX1_23 rfl X (fun b101 X => ?_)
    refine r_ild6 71 dX1_keepStep_69 rfl ?_
    refine r_lld4 73 dX1_keepStep_71 rfl ?_
    refine r_lconst 74 _ dX1_keepStep_73 rfl kl_1 ?_
    refine r_lif_le 91 78 dX1_keepStep_74 dX1_keepStep_75 (by decide) rfl X (fun _ X => ?_) (fun _ X => ?_)
    · refine r_ald0 92 dX1_keepStep_91 rfl ?_
      refine r_gR 95 dX1_keepStep_92 rfl lfX1_27 rfl X (fun b102 X => ?_)
      refine r_ild6 97 dX1_keepStep_95 rfl ?_
      refine r_aL 98 1 dX1_keepStep_97 rfl rfl X (fun x103 X => ?_)
      refine r_zL 99 1 dX1_keepStep_98 rfl rfl X (fun h104 X => ?_)
      refine r_iinc6w 102 dX1_keepStep_99 rfl rfl ki_1 X (fun x105 X => ?_)
      refine r_goto 58 dX1_keepStep_102 (by decide) ?_
      exact r_cut (hK58 _ _ _ _ _ _ X) ⟨rfl, ⟨rfl, ⟨rfl, ⟨rfl, ⟨rfl, trivial⟩⟩⟩⟩⟩
    · refine r_ald0 79 dX1_keepStep_78 rfl ?_
      refine r_gR 82 dX1_keepStep_79 rfl lfX1_27 rfl X (fun b106 X => ?_)
      refine r_ild6 84 dX1_keepStep_82 rfl ?_
      refine r_aL 85 1 dX1_keepStep_84 rfl rfl X (fun x107 X => ?_)
      refine r_lld4 87 dX1_keepStep_85 rfl ?_
      refine r_ldiv 88 dX1_keepStep_87 rfl X (fun X => ?_)
      refine r_goto 98 dX1_keepStep_88 (by decide) ?_
      refine r_zL 99 1 dX1_keepStep_98 rfl rfl X (fun h108 X => ?_)
      refine r_iinc6w 102 dX1_keepStep_99 rfl rfl ki_1 X (fun x109 X => ?_)
      refine r_goto 58 dX1_keepStep_102 (by decide) ?_
      exact r_cut (hK58 _ _ _ _ _ _ X) ⟨rfl, ⟨rfl, ⟨rfl, ⟨rfl, ⟨rfl, trivial⟩⟩⟩⟩⟩
theorem wX1_keepStep_58L (G : GG) (hG : GT G) (R : Int32 × AH) : ∀ (m : Nat) (l0 : Nat) (l1 : Int32) (l2 : Int64) (l4 : Int64) (l6 : Int32) (h : AH), fX1_keepStep_58L m l0 l1 l2 l4 l6 h = some R → AW (eX1_keepStep G R) RX1 cX1_keepStep 58 [some (.ref (gB G + l0)), some (.int l1), some (.long l2), none, some (.long l4), none, some (.int l6)] [] h 0 0 := by
  intro m
  induction m with
  | zero => intro l0 l1 l2 l4 l6 h X; exact nomatch (show (none : Fn Int32) = some R from X)
  | succ m ih => intro l0 l1 l2 l4 l6 h X; exact wX1_keepStep_58 G hG R ih l0 l1 l2 l4 l6 h X
theorem wX1_keepStep_6 (G : GG) (hG : GT G) (R : Int32 × AH) {K6 : Nat → Int32 → Int64 → Int64 → Int32 → AH → Fn Int32} (hK6 : ∀ (l0 : Nat) (l1 : Int32) (l2 : Int64) (l4 : Int64) (l6 : Int32) (h : AH), K6 l0 l1 l2 l4 l6 h = some R → AW (eX1_keepStep G R) RX1 cX1_keepStep 6 [some (.ref (gB G + l0)), some (.int l1), some (.long l2), none, some (.long l4), none, some (.int l6)] [] h 0 0) (l0 : Nat) (l1 : Int32) (l2 : Int64) (l4 : Int64) (l6 : Int32) (h : AH) (X : fX1_keepStep_6 K6 l0 l1 l2 l4 l6 h = some R) : AW (eX1_keepStep G R) RX1 cX1_keepStep 6 [some (.ref (gB G + l0)), some (.int l1), some (.long l2), none, some (.long l4), none, some (.int l6)] [] h 0 0 := by
  unfold fX1_keepStep_6 at X
  refine r_ild6 8 dX1_keepStep_6 rfl ?_
  refine r_bipush 10 _ dX1_keepStep_8 rfl kb_8 ?_
  refine r_icmp_ge 55 13 dX1_keepStep_10 (by decide) rfl X (fun _ X => ?_) (fun _ X => ?_)
  · refine r_iconst 56 _ dX1_keepStep_55 rfl ki_0 ?_
    refine r_ist6 58 dX1_keepStep_56 rfl rfl ?_
    exact r_cut (wX1_keepStep_58L G hG R 1000 _ _ _ _ _ _ X) ⟨rfl, ⟨rfl, ⟨rfl, ⟨rfl, ⟨rfl, trivial⟩⟩⟩⟩⟩
  · refine r_ald0 14 dX1_keepStep_13 rfl ?_
    refine r_gR 17 dX1_keepStep_14 rfl lfX1_27 rfl X (fun b101 X => ?_)
    refine r_ild6 19 dX1_keepStep_17 rfl ?_
    refine r_aL 20 1 dX1_keepStep_19 rfl rfl X (fun x102 X => ?_)
    obtain ⟨x104, h103, hc, X⟩ := bnd_ok X
    refine r_callS1 23 dX1_keepStep_20 rfl lmX1_104 (mtX8_isFar G hG hc) rfl ⟨(Nat.zero_le _), (Nat.zero_le _)⟩ ?_
    refine r_if_eq 28 26 dX1_keepStep_23 (by decide) rfl X (fun _ X => ?_) (fun _ X => ?_)
    · refine r_lld4 30 dX1_keepStep_28 rfl ?_
      refine r_lconst 31 _ dX1_keepStep_30 rfl kl_1 ?_
      refine r_lif_eq 49 35 dX1_keepStep_31 dX1_keepStep_32 (by decide) rfl X (fun _ X => ?_) (fun _ X => ?_)
      · refine r_iinc6w 52 dX1_keepStep_49 rfl rfl ki_1 X (fun x105 X => ?_)
        refine r_goto 6 dX1_keepStep_52 (by decide) ?_
        exact r_cut (hK6 _ _ _ _ _ _ X) ⟨rfl, ⟨rfl, ⟨rfl, ⟨rfl, ⟨rfl, trivial⟩⟩⟩⟩⟩
      · refine r_lld4 37 dX1_keepStep_35 rfl ?_
        refine r_ald0 38 dX1_keepStep_37 rfl ?_
        refine r_gR 41 dX1_keepStep_38 rfl lfX1_27 rfl X (fun b106 X => ?_)
        refine r_ild6 43 dX1_keepStep_41 rfl ?_
        refine r_aL 44 1 dX1_keepStep_43 rfl rfl X (fun x107 X => ?_)
        obtain ⟨x109, h108, hc, X⟩ := bnd_ok X
        refine r_callS2 47 dX1_keepStep_44 rfl lmX1_146 (mtX8_greatestCommonDivisor G hG hc) rfl ⟨(Nat.zero_le _), (Nat.zero_le _)⟩ ?_
        refine r_lst4 49 dX1_keepStep_47 rfl rfl ?_
        refine r_iinc6w 52 dX1_keepStep_49 rfl rfl ki_1 X (fun x110 X => ?_)
        refine r_goto 6 dX1_keepStep_52 (by decide) ?_
        exact r_cut (hK6 _ _ _ _ _ _ X) ⟨rfl, ⟨rfl, ⟨rfl, ⟨rfl, ⟨rfl, trivial⟩⟩⟩⟩⟩
    · refine r_iconst 27 _ dX1_keepStep_26 rfl ki_0 ?_
      exact r_ret0 dX1_keepStep_27 (Nat.zero_le _) (Nat.zero_le _) X
theorem wX1_keepStep_6L (G : GG) (hG : GT G) (R : Int32 × AH) : ∀ (m : Nat) (l0 : Nat) (l1 : Int32) (l2 : Int64) (l4 : Int64) (l6 : Int32) (h : AH), fX1_keepStep_6L m l0 l1 l2 l4 l6 h = some R → AW (eX1_keepStep G R) RX1 cX1_keepStep 6 [some (.ref (gB G + l0)), some (.int l1), some (.long l2), none, some (.long l4), none, some (.int l6)] [] h 0 0 := by
  intro m
  induction m with
  | zero => intro l0 l1 l2 l4 l6 h X; exact nomatch (show (none : Fn Int32) = some R from X)
  | succ m ih => intro l0 l1 l2 l4 l6 h X; exact wX1_keepStep_6 G hG R ih l0 l1 l2 l4 l6 h X
theorem wX1_keepStep (G : GG) (hG : GT G) (R : Int32 × AH) (a0 : Nat) (x0 : Int32) (x1 : Int64) (h : AH) (X : fX1_keepStep a0 x0 x1 h = some R) : AW (eX1_keepStep G R) RX1 cX1_keepStep 0 [some (.ref (gB G + a0)), some (.int x0), some (.long x1), none, none, none, none] [] h 0 0 := by
  unfold fX1_keepStep at X
  refine r_lconst 1 _ dX1_keepStep_0 rfl kl_0 ?_
  refine r_lst4 3 dX1_keepStep_1 rfl rfl ?_
  refine r_iconst 4 _ dX1_keepStep_3 rfl ki_0 ?_
  refine r_ist6 6 dX1_keepStep_4 rfl rfl ?_
  exact r_cut (wX1_keepStep_6L G hG R 1000 _ _ _ _ _ _ X) ⟨rfl, ⟨rfl, ⟨rfl, ⟨rfl, ⟨rfl, trivial⟩⟩⟩⟩⟩
theorem mtX1_keepStep (G : GG) (hG : GT G) {a0 : Nat} {x0 : Int32} {x1 : Int64} {h h' : AH} {v : Int32} (hc : fX1_keepStep a0 x0 x1 h = some (v, h')) : AMet G yX1_keepStep cX1_keepStep 7 (some .boolean) 1 30 0 0 [.ref (gB G + a0), .int x0, .long x1] h (some (.int v)) h' :=
  amet_of false [some (.ref (gB G + a0)), some (.int x0), some (.long x1), none, none, none, none] (by decide +kernel) (by decide) (Nat.le_of_ble_eq_true rfl) rfl (Nat.le_of_ble_eq_true rfl) (wX1_keepStep G hG (v, h') _ _ _ h hc)
abbrev eX7_addPart (G : GG) (R : Unit × AH) : EE := eM G 3 none false 0 0 0 0 none R.2
theorem wX7_addPart (G : GG) (hG : GT G) (R : Unit × AH) (a0 : Nat) (x0 : Int64) (h : AH) (X : fX7_addPart a0 x0 h = some R) : AW (eX7_addPart G R) RX7 cX7_addPart 0 [some (.ref (gB G + a0)), some (.long x0), none] [] h 0 0 := by
  unfold fX7_addPart at X
  refine r_ald0 1 dX7_addPart_0 rfl ?_
  refine r_gI 4 dX7_addPart_1 rfl lfX7_23 rfl X (fun x101 X => ?_)
  refine r_bipush 6 _ dX7_addPart_4 rfl kb_60 ?_
  refine r_icmp_ge 29 9 dX7_addPart_6 (by decide) rfl X (fun _ X => ?_) (fun _ X => ?_)
  · exact r_retV dX7_addPart_29 (Nat.zero_le _) (Nat.zero_le _) X
  · refine r_ald0 10 dX7_addPart_9 rfl ?_
    refine r_gR 13 dX7_addPart_10 rfl lfX7_9 rfl X (fun b102 X => ?_)
    refine r_ald0 14 dX7_addPart_13 rfl ?_
    refine r_gI 17 dX7_addPart_14 rfl lfX7_23 rfl X (fun x103 X => ?_)
    refine r_lld1 18 dX7_addPart_17 rfl ?_
    refine r_zL 19 1 dX7_addPart_18 rfl rfl X (fun h104 X => ?_)
    refine r_ald0 20 dX7_addPart_19 rfl ?_
    refine r_dup 21 dX7_addPart_20 rfl rfl ?_
    refine r_gI 24 dX7_addPart_21 rfl lfX7_23 rfl X (fun x105 X => ?_)
    refine r_iconst 25 _ dX7_addPart_24 rfl ki_1 ?_
    refine r_iadd 26 dX7_addPart_25 rfl ?_
    refine r_pI 29 dX7_addPart_26 rfl lpX7_23 rfl X (fun h106 X => ?_)
    exact r_retV dX7_addPart_29 (Nat.zero_le _) (Nat.zero_le _) X
theorem mtX7_addPart (G : GG) (hG : GT G) {a0 : Nat} {x0 : Int64} {h h' : AH} {v : Unit} (hc : fX7_addPart a0 x0 h = some (v, h')) : AMet G yX7_addPart cX7_addPart 3 none 0 0 0 0 [.ref (gB G + a0), .long x0] h none h' :=
  amet_of false [some (.ref (gB G + a0)), some (.long x0), none] (by decide +kernel) (by decide) (Nat.le_of_ble_eq_true rfl) rfl (Nat.le_of_ble_eq_true rfl) (wX7_addPart G hG (v, h') _ _ h hc)
abbrev eX8_plus (G : GG) (R : Int64 × AH) : EE := eM G 4 (some .long) false 1 21 0 0 (some (.long R.1)) R.2
theorem wX8_plus (G : GG) (hG : GT G) (R : Int64 × AH) (x0 : Int64) (x1 : Int64) (h : AH) (X : fX8_plus x0 x1 h = some R) : AW (eX8_plus G R) RX8 cX8_plus 0 [some (.long x0), none, some (.long x1), none] [] h 0 0 := by
  unfold fX8_plus at X
  refine r_lld0 1 dX8_plus_0 rfl ?_
  obtain ⟨x102, h101, hc, X⟩ := bnd_ok X
  refine r_callS1 4 dX8_plus_1 rfl lmX8_80 (mtX8_isFar G hG hc) rfl ⟨(Nat.zero_le _), (Nat.zero_le _)⟩ ?_
  refine r_if_ne 14 7 dX8_plus_4 (by decide) rfl X (fun _ X => ?_) (fun _ X => ?_)
  · refine r_ldc2 17 dX8_plus_14 rfl lkX8_290 ?_
    exact r_retL dX8_plus_17 (Nat.zero_le _) (Nat.zero_le _) X
  · refine r_lld2 8 dX8_plus_7 rfl ?_
    obtain ⟨x104, h103, hc, X⟩ := bnd_ok X
    refine r_callS1 11 dX8_plus_8 rfl lmX8_80 (mtX8_isFar G hG hc) rfl ⟨(Nat.zero_le _), (Nat.zero_le _)⟩ ?_
    refine r_if_eq 18 14 dX8_plus_11 (by decide) rfl X (fun _ X => ?_) (fun _ X => ?_)
    · refine r_lld0 19 dX8_plus_18 rfl ?_
      refine r_lld2 20 dX8_plus_19 rfl ?_
      refine r_ladd 21 dX8_plus_20 rfl ?_
      obtain ⟨x106, h105, hc, X⟩ := bnd_ok X
      refine r_callS1 24 dX8_plus_21 rfl lmX8_80 (mtX8_isFar G hG hc) rfl ⟨(Nat.zero_le _), (Nat.zero_le _)⟩ ?_
      refine r_if_eq 33 27 dX8_plus_24 (by decide) rfl X (fun _ X => ?_) (fun _ X => ?_)
      · refine r_lld0 34 dX8_plus_33 rfl ?_
        refine r_lld2 35 dX8_plus_34 rfl ?_
        refine r_ladd 36 dX8_plus_35 rfl ?_
        exact r_retL dX8_plus_36 (Nat.zero_le _) (Nat.zero_le _) X
      · refine r_ldc2 30 dX8_plus_27 rfl lkX8_290 ?_
        refine r_goto 36 dX8_plus_30 (by decide) ?_
        exact r_retL dX8_plus_36 (Nat.zero_le _) (Nat.zero_le _) X
    · refine r_ldc2 17 dX8_plus_14 rfl lkX8_290 ?_
      exact r_retL dX8_plus_17 (Nat.zero_le _) (Nat.zero_le _) X
theorem mtX8_plus (G : GG) (hG : GT G) {x0 : Int64} {x1 : Int64} {h h' : AH} {v : Int64} (hc : fX8_plus x0 x1 h = some (v, h')) : AMet G yX8_plus cX8_plus 4 (some .long) 1 21 0 0 [.long x0, .long x1] h (some (.long v)) h' :=
  amet_of false [some (.long x0), none, some (.long x1), none] (by decide +kernel) (by decide) (Nat.le_of_ble_eq_true rfl) rfl (Nat.le_of_ble_eq_true rfl) (wX8_plus G hG (v, h') _ _ h hc)
abbrev eX8_minus (G : GG) (R : Int64 × AH) : EE := eM G 4 (some .long) false 2 44 0 0 (some (.long R.1)) R.2
theorem wX8_minus (G : GG) (hG : GT G) (R : Int64 × AH) (x0 : Int64) (x1 : Int64) (h : AH) (X : fX8_minus x0 x1 h = some R) : AW (eX8_minus G R) RX8 cX8_minus 0 [some (.long x0), none, some (.long x1), none] [] h 0 0 := by
  unfold fX8_minus at X
  refine r_lld2 1 dX8_minus_0 rfl ?_
  obtain ⟨x102, h101, hc, X⟩ := bnd_ok X
  refine r_callS1 4 dX8_minus_1 rfl lmX8_80 (mtX8_isFar G hG hc) rfl ⟨(Nat.zero_le _), (Nat.zero_le _)⟩ ?_
  refine r_if_eq 13 7 dX8_minus_4 (by decide) rfl X (fun _ X => ?_) (fun _ X => ?_)
  · refine r_lld0 14 dX8_minus_13 rfl ?_
    refine r_lld2 15 dX8_minus_14 rfl ?_
    refine r_lneg 16 dX8_minus_15 rfl ?_
    obtain ⟨x104, h103, hc, X⟩ := bnd_ok X
    refine r_callS2 19 dX8_minus_16 rfl lmX8_292 (mtX8_plus G hG hc) rfl ⟨(Nat.zero_le _), (Nat.zero_le _)⟩ ?_
    exact r_retL dX8_minus_19 (Nat.zero_le _) (Nat.zero_le _) X
  · refine r_ldc2 10 dX8_minus_7 rfl lkX8_290 ?_
    refine r_goto 19 dX8_minus_10 (by decide) ?_
    exact r_retL dX8_minus_19 (Nat.zero_le _) (Nat.zero_le _) X
theorem mtX8_minus (G : GG) (hG : GT G) {x0 : Int64} {x1 : Int64} {h h' : AH} {v : Int64} (hc : fX8_minus x0 x1 h = some (v, h')) : AMet G yX8_minus cX8_minus 4 (some .long) 2 44 0 0 [.long x0, .long x1] h (some (.long v)) h' :=
  amet_of false [some (.long x0), none, some (.long x1), none] (by decide +kernel) (by decide) (Nat.le_of_ble_eq_true rfl) rfl (Nat.le_of_ble_eq_true rfl) (wX8_minus G hG (v, h') _ _ h hc)
abbrev eX8_times (G : GG) (R : Int64 × AH) : EE := eM G 4 (some .long) false 1 21 0 0 (some (.long R.1)) R.2
theorem wX8_times (G : GG) (hG : GT G) (R : Int64 × AH) (x0 : Int64) (x1 : Int64) (h : AH) (X : fX8_times x0 x1 h = some R) : AW (eX8_times G R) RX8 cX8_times 0 [some (.long x0), none, some (.long x1), none] [] h 0 0 := by
  unfold fX8_times at X
  refine r_lld0 1 dX8_times_0 rfl ?_
  obtain ⟨x102, h101, hc, X⟩ := bnd_ok X
  refine r_callS1 4 dX8_times_1 rfl lmX8_80 (mtX8_isFar G hG hc) rfl ⟨(Nat.zero_le _), (Nat.zero_le _)⟩ ?_
  refine r_if_ne 14 7 dX8_times_4 (by decide) rfl X (fun _ X => ?_) (fun _ X => ?_)
  · refine r_ldc2 17 dX8_times_14 rfl lkX8_290 ?_
    exact r_retL dX8_times_17 (Nat.zero_le _) (Nat.zero_le _) X
  · refine r_lld2 8 dX8_times_7 rfl ?_
    obtain ⟨x104, h103, hc, X⟩ := bnd_ok X
    refine r_callS1 11 dX8_times_8 rfl lmX8_80 (mtX8_isFar G hG hc) rfl ⟨(Nat.zero_le _), (Nat.zero_le _)⟩ ?_
    refine r_if_eq 18 14 dX8_times_11 (by decide) rfl X (fun _ X => ?_) (fun _ X => ?_)
    · refine r_lld0 19 dX8_times_18 rfl ?_
      refine r_lconst 20 _ dX8_times_19 rfl kl_0 ?_
      refine r_lif_eq 30 24 dX8_times_20 dX8_times_21 (by decide) rfl X (fun _ X => ?_) (fun _ X => ?_)
      · refine r_lconst 31 _ dX8_times_30 rfl kl_0 ?_
        exact r_retL dX8_times_31 (Nat.zero_le _) (Nat.zero_le _) X
      · refine r_lld2 25 dX8_times_24 rfl ?_
        refine r_lconst 26 _ dX8_times_25 rfl kl_0 ?_
        refine r_lif_ne 32 30 dX8_times_26 dX8_times_27 (by decide) rfl X (fun _ X => ?_) (fun _ X => ?_)
        · refine r_lld0 33 dX8_times_32 rfl ?_
          obtain ⟨x106, h105, hc, X⟩ := bnd_ok X
          refine r_callS1 36 dX8_times_33 rfl lmX8_296 (mtJ9_abs_067f4 G hG hc) rfl ⟨(Nat.zero_le _), (Nat.zero_le _)⟩ ?_
          refine r_ldc2 39 dX8_times_36 rfl lkX8_286 ?_
          refine r_lld2 40 dX8_times_39 rfl ?_
          obtain ⟨x108, h107, hc, X⟩ := bnd_ok X
          refine r_callS1 43 dX8_times_40 rfl lmX8_296 (mtJ9_abs_067f4 G hG hc) rfl ⟨(Nat.zero_le _), (Nat.zero_le _)⟩ ?_
          refine r_ldiv 44 dX8_times_43 rfl X (fun X => ?_)
          refine r_lif_le 54 48 dX8_times_44 dX8_times_45 (by decide) rfl X (fun _ X => ?_) (fun _ X => ?_)
          · refine r_lld0 55 dX8_times_54 rfl ?_
            refine r_lld2 56 dX8_times_55 rfl ?_
            refine r_lmul 57 dX8_times_56 rfl ?_
            exact r_retL dX8_times_57 (Nat.zero_le _) (Nat.zero_le _) X
          · refine r_ldc2 51 dX8_times_48 rfl lkX8_290 ?_
            refine r_goto 57 dX8_times_51 (by decide) ?_
            exact r_retL dX8_times_57 (Nat.zero_le _) (Nat.zero_le _) X
        · refine r_lconst 31 _ dX8_times_30 rfl kl_0 ?_
          exact r_retL dX8_times_31 (Nat.zero_le _) (Nat.zero_le _) X
    · refine r_ldc2 17 dX8_times_14 rfl lkX8_290 ?_
      exact r_retL dX8_times_17 (Nat.zero_le _) (Nat.zero_le _) X
theorem mtX8_times (G : GG) (hG : GT G) {x0 : Int64} {x1 : Int64} {h h' : AH} {v : Int64} (hc : fX8_times x0 x1 h = some (v, h')) : AMet G yX8_times cX8_times 4 (some .long) 1 21 0 0 [.long x0, .long x1] h (some (.long v)) h' :=
  amet_of false [some (.long x0), none, some (.long x1), none] (by decide +kernel) (by decide) (Nat.le_of_ble_eq_true rfl) rfl (Nat.le_of_ble_eq_true rfl) (wX8_times G hG (v, h') _ _ h hc)
abbrev eX1_giveTo (G : GG) (R : Int32 × AH) : EE := eM G 5 (some .boolean) false 3 67 0 0 (some (.int R.1)) R.2
theorem wX1_giveTo_63 (G : GG) (hG : GT G) (R : Int32 × AH) (l0 : Nat) (l1 : Nat) (l2 : Int64) (h : AH) (X : fX1_giveTo_63 l0 l1 l2 h = some R) : AW (eX1_giveTo G R) RX1 cX1_giveTo 63 [some (.ref (gB G + l0)), some (.ref (gB G + l1)), some (.long l2), none, none] [] h 0 0 := by
  unfold fX1_giveTo_63 at X
  refine r_ald0 64 dX1_giveTo_63 rfl ?_
  refine r_iconst 65 _ dX1_giveTo_64 rfl ki_4 ?_
  refine r_lld2 66 dX1_giveTo_65 rfl ?_
  obtain ⟨hs, X⟩ := r_cv X
  obtain ⟨x102, h101, hc, X⟩ := bnd_ok X
  refine r_callV2 69 dX1_giveTo_66 rfl lmX1_114 hs (mtX1_keepStep G hG hc) rfl ⟨(Nat.zero_le _), (Nat.zero_le _)⟩ ?_
  refine r_if_ne 74 72 dX1_giveTo_69 (by decide) rfl X (fun _ X => ?_) (fun _ X => ?_)
  · refine r_ald1 75 dX1_giveTo_74 rfl ?_
    refine r_lld2 76 dX1_giveTo_75 rfl ?_
    obtain ⟨hs, X⟩ := r_cv X
    obtain ⟨_, h103, hc, X⟩ := bnd_ok X
    refine r_callV1v 79 dX1_giveTo_76 rfl lmX1_118 hs (mtX7_addPart G hG hc) rfl ⟨(Nat.zero_le _), (Nat.zero_le _)⟩ ?_
    refine r_iconst 80 _ dX1_giveTo_79 rfl ki_1 ?_
    exact r_ret1 dX1_giveTo_80 (Nat.zero_le _) (Nat.zero_le _) X
  · refine r_iconst 73 _ dX1_giveTo_72 rfl ki_0 ?_
    exact r_ret0 dX1_giveTo_73 (Nat.zero_le _) (Nat.zero_le _) X
theorem wX1_giveTo_3 (G : GG) (hG : GT G) (R : Int32 × AH) {K3 : Nat → Nat → Int64 → Int32 → AH → Fn Int32} (hK3 : ∀ (l0 : Nat) (l1 : Nat) (l2 : Int64) (l4 : Int32) (h : AH), K3 l0 l1 l2 l4 h = some R → AW (eX1_giveTo G R) RX1 cX1_giveTo 3 [some (.ref (gB G + l0)), some (.ref (gB G + l1)), some (.long l2), none, some (.int l4)] [] h 0 0) (l0 : Nat) (l1 : Nat) (l2 : Int64) (l4 : Int32) (h : AH) (X : fX1_giveTo_3 K3 l0 l1 l2 l4 h = some R) : AW (eX1_giveTo G R) RX1 cX1_giveTo 3 [some (.ref (gB G + l0)), some (.ref (gB G + l1)), some (.long l2), none, some (.int l4)] [] h 0 0 := by
  unfold fX1_giveTo_3 at X
  refine r_ild4 5 dX1_giveTo_3 rfl ?_
  refine r_iconst 6 _ dX1_giveTo_5 rfl ki_4 ?_
  refine r_icmp_ge 63 9 dX1_giveTo_6 (by decide) rfl X (fun _ X => ?_) (fun _ X => ?_)
  · exact r_cut (wX1_giveTo_63 G hG R _ _ _ _ X) ⟨rfl, ⟨rfl, ⟨rfl, trivial⟩⟩⟩
  · refine r_ald0 10 dX1_giveTo_9 rfl ?_
    refine r_gR 13 dX1_giveTo_10 rfl lfX1_27 rfl X (fun b101 X => ?_)
    refine r_ild4 15 dX1_giveTo_13 rfl ?_
    refine r_ald0 16 dX1_giveTo_15 rfl ?_
    refine r_gR 19 dX1_giveTo_16 rfl lfX1_23 rfl X (fun b102 X => ?_)
    refine r_ild4 21 dX1_giveTo_19 rfl ?_
    refine r_iconst 22 _ dX1_giveTo_21 rfl ki_4 ?_
    refine r_iadd 23 dX1_giveTo_22 rfl ?_
    refine r_aL 24 1 dX1_giveTo_23 rfl rfl X (fun x103 X => ?_)
    refine r_zL 25 1 dX1_giveTo_24 rfl rfl X (fun h104 X => ?_)
    refine r_ald0 26 dX1_giveTo_25 rfl ?_
    refine r_gR 29 dX1_giveTo_26 rfl lfX1_27 rfl X (fun b105 X => ?_)
    refine r_ild4 31 dX1_giveTo_29 rfl ?_
    refine r_iconst 32 _ dX1_giveTo_31 rfl ki_4 ?_
    refine r_iadd 33 dX1_giveTo_32 rfl ?_
    refine r_ald0 34 dX1_giveTo_33 rfl ?_
    refine r_gR 37 dX1_giveTo_34 rfl lfX1_23 rfl X (fun b106 X => ?_)
    refine r_ild4 39 dX1_giveTo_37 rfl ?_
    refine r_aL 40 1 dX1_giveTo_39 rfl rfl X (fun x107 X => ?_)
    refine r_lld2 41 dX1_giveTo_40 rfl ?_
    refine r_ald0 42 dX1_giveTo_41 rfl ?_
    refine r_gR 45 dX1_giveTo_42 rfl lfX1_23 rfl X (fun b108 X => ?_)
    refine r_ild4 47 dX1_giveTo_45 rfl ?_
    refine r_iconst 48 _ dX1_giveTo_47 rfl ki_4 ?_
    refine r_iadd 49 dX1_giveTo_48 rfl ?_
    refine r_aL 50 1 dX1_giveTo_49 rfl rfl X (fun x109 X => ?_)
    obtain ⟨x111, h110, hc, X⟩ := bnd_ok X
    refine r_callS2 53 dX1_giveTo_50 rfl lmX1_108 (mtX8_times G hG hc) rfl ⟨(Nat.zero_le _), (Nat.zero_le _)⟩ ?_
    obtain ⟨x113, h112, hc, X⟩ := bnd_ok X
    refine r_callS2 56 dX1_giveTo_53 rfl lmX1_111 (mtX8_minus G hG hc) rfl ⟨(Nat.zero_le _), (Nat.zero_le _)⟩ ?_
    refine r_zL 57 1 dX1_giveTo_56 rfl rfl X (fun h114 X => ?_)
    refine r_iinc4w 60 dX1_giveTo_57 rfl rfl ki_1 X (fun x115 X => ?_)
    refine r_goto 3 dX1_giveTo_60 (by decide) ?_
    exact r_cut (hK3 _ _ _ _ _ X) ⟨rfl, ⟨rfl, ⟨rfl, ⟨rfl, trivial⟩⟩⟩⟩
theorem wX1_giveTo_3L (G : GG) (hG : GT G) (R : Int32 × AH) : ∀ (m : Nat) (l0 : Nat) (l1 : Nat) (l2 : Int64) (l4 : Int32) (h : AH), fX1_giveTo_3L m l0 l1 l2 l4 h = some R → AW (eX1_giveTo G R) RX1 cX1_giveTo 3 [some (.ref (gB G + l0)), some (.ref (gB G + l1)), some (.long l2), none, some (.int l4)] [] h 0 0 := by
  intro m
  induction m with
  | zero => intro l0 l1 l2 l4 h X; exact nomatch (show (none : Fn Int32) = some R from X)
  | succ m ih => intro l0 l1 l2 l4 h X; exact wX1_giveTo_3 G hG R ih l0 l1 l2 l4 h X
theorem wX1_giveTo (G : GG) (hG : GT G) (R : Int32 × AH) (a0 : Nat) (a1 : Nat) (x1 : Int64) (h : AH) (X : fX1_giveTo a0 a1 x1 h = some R) : AW (eX1_giveTo G R) RX1 cX1_giveTo 0 [some (.ref (gB G + a0)), some (.ref (gB G + a1)), some (.long x1), none, none] [] h 0 0 := by
  unfold fX1_giveTo at X
  refine r_iconst 1 _ dX1_giveTo_0 rfl ki_0 ?_
  refine r_ist4 3 dX1_giveTo_1 rfl rfl ?_
  exact r_cut (wX1_giveTo_3L G hG R 1000 _ _ _ _ _ X) ⟨rfl, ⟨rfl, ⟨rfl, ⟨rfl, trivial⟩⟩⟩⟩
theorem mtX1_giveTo (G : GG) (hG : GT G) {a0 : Nat} {a1 : Nat} {x1 : Int64} {h h' : AH} {v : Int32} (hc : fX1_giveTo a0 a1 x1 h = some (v, h')) : AMet G yX1_giveTo cX1_giveTo 5 (some .boolean) 3 67 0 0 [.ref (gB G + a0), .ref (gB G + a1), .long x1] h (some (.int v)) h' :=
  amet_of false [some (.ref (gB G + a0)), some (.ref (gB G + a1)), some (.long x1), none, none] (by decide +kernel) (by decide) (Nat.le_of_ble_eq_true rfl) rfl (Nat.le_of_ble_eq_true rfl) (wX1_giveTo G hG (v, h') _ _ _ h hc)
abbrev eX1_takeEnd (G : GG) (R : Int32 × AH) : EE := eM G 4 (some .boolean) false 2 56 0 0 (some (.int R.1)) R.2
theorem wX1_takeEnd_42 (G : GG) (hG : GT G) (R : Int32 × AH) (l0 : Nat) (l1 : Nat) (h : AH) (X : fX1_takeEnd_42 l0 l1 h = some R) : AW (eX1_takeEnd G R) RX1 cX1_takeEnd 42 [some (.ref (gB G + l0)), some (.ref (gB G + l1)), none, none] [] h 0 0 := by
  unfold fX1_takeEnd_42 at X
  refine r_ald1 43 dX1_takeEnd_42 rfl ?_
  refine r_iconst 44 _ dX1_takeEnd_43 rfl ki_1 ?_
  refine r_pZ 47 dX1_takeEnd_44 rfl lpX1_68 rfl X (fun h101 X => ?_)
  refine r_ald0 48 dX1_takeEnd_47 rfl ?_
  refine r_iconst 49 _ dX1_takeEnd_48 rfl ki_2 ?_
  refine r_ald1 50 dX1_takeEnd_49 rfl ?_
  refine r_gI 53 dX1_takeEnd_50 rfl lfX1_143 rfl X (fun x102 X => ?_)
  refine r_iadd 54 dX1_takeEnd_53 rfl ?_
  refine r_lconst 55 _ dX1_takeEnd_54 rfl kl_0 ?_
  obtain ⟨hs, X⟩ := r_cv X
  obtain ⟨x104, h103, hc, X⟩ := bnd_ok X
  refine r_callV2 58 dX1_takeEnd_55 rfl lmX1_114 hs (mtX1_keepStep G hG hc) rfl ⟨(Nat.zero_le _), (Nat.zero_le _)⟩ ?_
  exact r_retZ dX1_takeEnd_58 (Nat.zero_le _) (Nat.zero_le _) X
theorem wX1_takeEnd_2 (G : GG) (hG : GT G) (R : Int32 × AH) {K2 : Nat → Nat → Int32 → AH → Fn Int32} (hK2 : ∀ (l0 : Nat) (l1 : Nat) (l2 : Int32) (h : AH), K2 l0 l1 l2 h = some R → AW (eX1_takeEnd G R) RX1 cX1_takeEnd 2 [some (.ref (gB G + l0)), some (.ref (gB G + l1)), some (.int l2), none] [] h 0 0) (l0 : Nat) (l1 : Nat) (l2 : Int32) (h : AH) (X : fX1_takeEnd_2 K2 l0 l1 l2 h = some R) : AW (eX1_takeEnd G R) RX1 cX1_takeEnd 2 [some (.ref (gB G + l0)), some (.ref (gB G + l1)), some (.int l2), none] [] h 0 0 := by
  unfold fX1_takeEnd_2 at X
  refine r_ild2 3 dX1_takeEnd_2 rfl ?_
  refine r_bipush 5 _ dX1_takeEnd_3 rfl kb_8 ?_
  refine r_icmp_ge 42 8 dX1_takeEnd_5 (by decide) rfl X (fun _ X => ?_) (fun _ X => ?_)
  · exact r_cut (wX1_takeEnd_42 G hG R _ _ _ X) ⟨rfl, ⟨rfl, trivial⟩⟩
  · refine r_ild2 9 dX1_takeEnd_8 rfl ?_
    refine r_ald1 10 dX1_takeEnd_9 rfl ?_
    refine r_gI 13 dX1_takeEnd_10 rfl lfX1_140 rfl X (fun x101 X => ?_)
    refine r_ixor 14 dX1_takeEnd_13 rfl ?_
    refine r_ist3w 15 dX1_takeEnd_14 rfl rfl X (fun x102 X => ?_)
    refine r_ald0 16 dX1_takeEnd_15 rfl ?_
    refine r_gR 19 dX1_takeEnd_16 rfl lfX1_27 rfl X (fun b103 X => ?_)
    refine r_ild2 20 dX1_takeEnd_19 rfl ?_
    refine r_ild2 21 dX1_takeEnd_20 rfl ?_
    refine r_ild3 22 dX1_takeEnd_21 rfl ?_
    refine r_icmp_ge 29 25 dX1_takeEnd_22 (by decide) rfl X (fun _ X => ?_) (fun _ X => ?_)
    · refine r_ald0 30 dX1_takeEnd_29 rfl ?_
      refine r_gR 33 dX1_takeEnd_30 rfl lfX1_23 rfl X (fun b104 X => ?_)
      refine r_ild3 34 dX1_takeEnd_33 rfl ?_
      refine r_aL 35 1 dX1_takeEnd_34 rfl rfl X (fun x105 X => ?_)
      refine r_zL 36 1 dX1_takeEnd_35 rfl rfl X (fun h106 X => ?_)
      refine r_iinc2w 39 dX1_takeEnd_36 rfl rfl ki_1 X (fun x107 X => ?_)
      refine r_goto 2 dX1_takeEnd_39 (by decide) ?_
      exact r_cut (hK2 _ _ _ _ X) ⟨rfl, ⟨rfl, ⟨rfl, trivial⟩⟩⟩
    · refine r_lconst 26 _ dX1_takeEnd_25 rfl kl_0 ?_
      refine r_goto 35 dX1_takeEnd_26 (by decide) ?_
      refine r_zL 36 1 dX1_takeEnd_35 rfl rfl X (fun h108 X => ?_)
      refine r_iinc2w 39 dX1_takeEnd_36 rfl rfl ki_1 X (fun x109 X => ?_)
      refine r_goto 2 dX1_takeEnd_39 (by decide) ?_
      exact r_cut (hK2 _ _ _ _ X) ⟨rfl, ⟨rfl, ⟨rfl, trivial⟩⟩⟩
theorem wX1_takeEnd_2L (G : GG) (hG : GT G) (R : Int32 × AH) : ∀ (m : Nat) (l0 : Nat) (l1 : Nat) (l2 : Int32) (h : AH), fX1_takeEnd_2L m l0 l1 l2 h = some R → AW (eX1_takeEnd G R) RX1 cX1_takeEnd 2 [some (.ref (gB G + l0)), some (.ref (gB G + l1)), some (.int l2), none] [] h 0 0 := by
  intro m
  induction m with
  | zero => intro l0 l1 l2 h X; exact nomatch (show (none : Fn Int32) = some R from X)
  | succ m ih => intro l0 l1 l2 h X; exact wX1_takeEnd_2 G hG R ih l0 l1 l2 h X
theorem wX1_takeEnd (G : GG) (hG : GT G) (R : Int32 × AH) (a0 : Nat) (a1 : Nat) (h : AH) (X : fX1_takeEnd a0 a1 h = some R) : AW (eX1_takeEnd G R) RX1 cX1_takeEnd 0 [some (.ref (gB G + a0)), some (.ref (gB G + a1)), none, none] [] h 0 0 := by
  unfold fX1_takeEnd at X
  refine r_iconst 1 _ dX1_takeEnd_0 rfl ki_0 ?_
  refine r_ist2 2 dX1_takeEnd_1 rfl rfl ?_
  exact r_cut (wX1_takeEnd_2L G hG R 1000 _ _ _ _ X) ⟨rfl, ⟨rfl, ⟨rfl, trivial⟩⟩⟩
theorem mtX1_takeEnd (G : GG) (hG : GT G) {a0 : Nat} {a1 : Nat} {h h' : AH} {v : Int32} (hc : fX1_takeEnd a0 a1 h = some (v, h')) : AMet G yX1_takeEnd cX1_takeEnd 4 (some .boolean) 2 56 0 0 [.ref (gB G + a0), .ref (gB G + a1)] h (some (.int v)) h' :=
  amet_of false [some (.ref (gB G + a0)), some (.ref (gB G + a1)), none, none] (by decide +kernel) (by decide) (Nat.le_of_ble_eq_true rfl) rfl (Nat.le_of_ble_eq_true rfl) (wX1_takeEnd G hG (v, h') _ _ h hc)
abbrev eX1_takePart (G : GG) (R : Int32 × AH) : EE := eM G 7 (some .boolean) false 2 56 0 0 (some (.int R.1)) R.2
theorem wX1_takePart_82 (G : GG) (hG : GT G) (R : Int32 × AH) (l0 : Nat) (l1 : Nat) (l2 : Int64) (h : AH) (X : fX1_takePart_82 l0 l1 l2 h = some R) : AW (eX1_takePart G R) RX1 cX1_takePart 82 [some (.ref (gB G + l0)), some (.ref (gB G + l1)), some (.long l2), none, none, none, none] [] h 0 0 := by
  unfold fX1_takePart_82 at X
  refine r_ald0 83 dX1_takePart_82 rfl ?_
  refine r_iconst 84 _ dX1_takePart_83 rfl ki_0 ?_
  refine r_ald1 85 dX1_takePart_84 rfl ?_
  refine r_gI 88 dX1_takePart_85 rfl lfX1_143 rfl X (fun x101 X => ?_)
  refine r_iadd 89 dX1_takePart_88 rfl ?_
  refine r_lld2 90 dX1_takePart_89 rfl ?_
  obtain ⟨hs, X⟩ := r_cv X
  obtain ⟨x103, h102, hc, X⟩ := bnd_ok X
  refine r_callV2 93 dX1_takePart_90 rfl lmX1_114 hs (mtX1_keepStep G hG hc) rfl ⟨(Nat.zero_le _), (Nat.zero_le _)⟩ ?_
  refine r_if_ne 98 96 dX1_takePart_93 (by decide) rfl X (fun _ X => ?_) (fun _ X => ?_)
  · refine r_ald1 99 dX1_takePart_98 rfl ?_
    refine r_dup 100 dX1_takePart_99 rfl rfl ?_
    refine r_gI 103 dX1_takePart_100 rfl lfX1_64 rfl X (fun x104 X => ?_)
    refine r_iconst 104 _ dX1_takePart_103 rfl ki_1 ?_
    refine r_iadd 105 dX1_takePart_104 rfl ?_
    refine r_pI 108 dX1_takePart_105 rfl lpX1_64 rfl X (fun h105 X => ?_)
    refine r_iconst 109 _ dX1_takePart_108 rfl ki_1 ?_
    exact r_ret1 dX1_takePart_109 (Nat.zero_le _) (Nat.zero_le _) X
  · refine r_iconst 97 _ dX1_takePart_96 rfl ki_0 ?_
    exact r_ret0 dX1_takePart_97 (Nat.zero_le _) (Nat.zero_le _) X
theorem wX1_takePart_31 (G : GG) (hG : GT G) (R : Int32 × AH) {K3 : Nat → Nat → Int64 → Int32 → AH → Fn Int32} (hK3 : ∀ (l0 : Nat) (l1 : Nat) (l2 : Int64) (l4 : Int32) (h : AH), K3 l0 l1 l2 l4 h = some R → AW (eX1_takePart G R) RX1 cX1_takePart 3 [some (.ref (gB G + l0)), some (.ref (gB G + l1)), some (.long l2), none, some (.int l4), none, none] [] h 0 0) (l0 : Nat) (l1 : Nat) (l2 : Int64) (l4 : Int32) (l5 : Int32) (s0 : Int32) (h : AH) (X : fX1_takePart_31 K3 l0 l1 l2 l4 l5 s0 h = some R) : AW (eX1_takePart G R) RX1 cX1_takePart 31 [some (.ref (gB G + l0)), some (.ref (gB G + l1)), some (.long l2), none, some (.int l4), some (.int l5), none] [.int s0] h 0 0 := by
  unfold fX1_takePart_31 at X
  refine r_ist6 33 dX1_takePart_31 rfl rfl ?_
  refine r_ald0 34 dX1_takePart_33 rfl ?_
  refine r_gR 37 dX1_takePart_34 rfl lfX1_27 rfl X (fun b101 X => ?_)
  refine r_ild4 39 dX1_takePart_37 rfl ?_
  refine r_ild6 41 dX1_takePart_39 rfl ?_
  refine r_if_eq 68 44 dX1_takePart_41 (by decide) rfl X (fun _ X => ?_) (fun _ X => ?_)
  · refine r_ald0 69 dX1_takePart_68 rfl ?_
    refine r_gR 72 dX1_takePart_69 rfl lfX1_23 rfl X (fun b102 X => ?_)
    refine r_ild5 74 dX1_takePart_72 rfl ?_
    refine r_aL 75 1 dX1_takePart_74 rfl rfl X (fun x103 X => ?_)
    refine r_zL 76 1 dX1_takePart_75 rfl rfl X (fun h104 X => ?_)
    refine r_iinc4w 79 dX1_takePart_76 rfl rfl ki_1 X (fun x105 X => ?_)
    refine r_goto 3 dX1_takePart_79 (by decide) ?_
    exact r_cut (hK3 _ _ _ _ _ X) ⟨rfl, ⟨rfl, ⟨rfl, ⟨rfl, trivial⟩⟩⟩⟩
  · refine r_ald0 45 dX1_takePart_44 rfl ?_
    refine r_gR 48 dX1_takePart_45 rfl lfX1_23 rfl X (fun b106 X => ?_)
    refine r_ild4 50 dX1_takePart_48 rfl ?_
    refine r_aL 51 1 dX1_takePart_50 rfl rfl X (fun x107 X => ?_)
    refine r_lld2 52 dX1_takePart_51 rfl ?_
    obtain ⟨x109, h108, hc, X⟩ := bnd_ok X
    refine r_callS2 55 dX1_takePart_52 rfl lmX1_108 (mtX8_times G hG hc) rfl ⟨(Nat.zero_le _), (Nat.zero_le _)⟩ ?_
    refine r_ald0 56 dX1_takePart_55 rfl ?_
    refine r_gR 59 dX1_takePart_56 rfl lfX1_23 rfl X (fun b110 X => ?_)
    refine r_ild5 61 dX1_takePart_59 rfl ?_
    refine r_aL 62 1 dX1_takePart_61 rfl rfl X (fun x111 X => ?_)
    obtain ⟨x113, h112, hc, X⟩ := bnd_ok X
    refine r_callS2 65 dX1_takePart_62 rfl lmX1_101 (mtX8_plus G hG hc) rfl ⟨(Nat.zero_le _), (Nat.zero_le _)⟩ ?_
    refine r_goto 75 dX1_takePart_65 (by decide) ?_
    refine r_zL 76 1 dX1_takePart_75 rfl rfl X (fun h114 X => ?_)
    refine r_iinc4w 79 dX1_takePart_76 rfl rfl ki_1 X (fun x115 X => ?_)
    refine r_goto 3 dX1_takePart_79 (by decide) ?_
    exact r_cut (hK3 _ _ _ _ _ X) ⟨rfl, ⟨rfl, ⟨rfl, ⟨rfl, trivial⟩⟩⟩⟩
theorem wX1_takePart_3 (G : GG) (hG : GT G) (R : Int32 × AH) {K3 : Nat → Nat → Int64 → Int32 → AH → Fn Int32} (hK3 : ∀ (l0 : Nat) (l1 : Nat) (l2 : Int64) (l4 : Int32) (h : AH), K3 l0 l1 l2 l4 h = some R → AW (eX1_takePart G R) RX1 cX1_takePart 3 [some (.ref (gB G + l0)), some (.ref (gB G + l1)), some (.long l2), none, some (.int l4), none, none] [] h 0 0) (l0 : Nat) (l1 : Nat) (l2 : Int64) (l4 : Int32) (h : AH) (X : fX1_takePart_3 K3 l0 l1 l2 l4 h = some R) : AW (eX1_takePart G R) RX1 cX1_takePart 3 [some (.ref (gB G + l0)), some (.ref (gB G + l1)), some (.long l2), none, some (.int l4), none, none] [] h 0 0 := by
  unfold fX1_takePart_3 at X
  refine r_ild4 5 dX1_takePart_3 rfl ?_
  refine r_bipush 7 _ dX1_takePart_5 rfl kb_8 ?_
  refine r_icmp_ge 82 10 dX1_takePart_7 (by decide) rfl X (fun _ X => ?_) (fun _ X => ?_)
  · exact r_cut (wX1_takePart_82 G hG R _ _ _ _ X) ⟨rfl, ⟨rfl, ⟨rfl, trivial⟩⟩⟩
  · refine r_ild4 12 dX1_takePart_10 rfl ?_
    refine r_ald1 13 dX1_takePart_12 rfl ?_
    refine r_gI 16 dX1_takePart_13 rfl lfX1_140 rfl X (fun x101 X => ?_)
    refine r_ixor 17 dX1_takePart_16 rfl ?_
    refine r_ist5w 19 dX1_takePart_17 rfl rfl X (fun x102 X => ?_)
    refine r_ild4 21 dX1_takePart_19 rfl ?_
    refine r_ild5 23 dX1_takePart_21 rfl ?_
    refine r_icmp_ge 30 26 dX1_takePart_23 (by decide) rfl X (fun _ X => ?_) (fun _ X => ?_)
    · refine r_iconst 31 _ dX1_takePart_30 rfl ki_0 ?_
      exact r_cut (wX1_takePart_31 G hG R hK3 _ _ _ _ _ _ _ X) ⟨rfl, ⟨rfl, ⟨rfl, ⟨rfl, ⟨rfl, trivial⟩⟩⟩⟩⟩
    · refine r_iconst 27 _ dX1_takePart_26 rfl ki_1 ?_
      refine r_goto 31 dX1_takePart_27 (by decide) ?_
      exact r_cut (wX1_takePart_31 G hG R hK3 _ _ _ _ _ _ _ X) ⟨rfl, ⟨rfl, ⟨rfl, ⟨rfl, ⟨rfl, trivial⟩⟩⟩⟩⟩
theorem wX1_takePart_3L (G : GG) (hG : GT G) (R : Int32 × AH) : ∀ (m : Nat) (l0 : Nat) (l1 : Nat) (l2 : Int64) (l4 : Int32) (h : AH), fX1_takePart_3L m l0 l1 l2 l4 h = some R → AW (eX1_takePart G R) RX1 cX1_takePart 3 [some (.ref (gB G + l0)), some (.ref (gB G + l1)), some (.long l2), none, some (.int l4), none, none] [] h 0 0 := by
  intro m
  induction m with
  | zero => intro l0 l1 l2 l4 h X; exact nomatch (show (none : Fn Int32) = some R from X)
  | succ m ih => intro l0 l1 l2 l4 h X; exact wX1_takePart_3 G hG R ih l0 l1 l2 l4 h X
theorem wX1_takePart (G : GG) (hG : GT G) (R : Int32 × AH) (a0 : Nat) (a1 : Nat) (x1 : Int64) (h : AH) (X : fX1_takePart a0 a1 x1 h = some R) : AW (eX1_takePart G R) RX1 cX1_takePart 0 [some (.ref (gB G + a0)), some (.ref (gB G + a1)), some (.long x1), none, none, none, none] [] h 0 0 := by
  unfold fX1_takePart at X
  refine r_iconst 1 _ dX1_takePart_0 rfl ki_0 ?_
  refine r_ist4 3 dX1_takePart_1 rfl rfl ?_
  exact r_cut (wX1_takePart_3L G hG R 1000 _ _ _ _ _ X) ⟨rfl, ⟨rfl, ⟨rfl, ⟨rfl, trivial⟩⟩⟩⟩
theorem mtX1_takePart (G : GG) (hG : GT G) {a0 : Nat} {a1 : Nat} {x1 : Int64} {h h' : AH} {v : Int32} (hc : fX1_takePart a0 a1 x1 h = some (v, h')) : AMet G yX1_takePart cX1_takePart 7 (some .boolean) 2 56 0 0 [.ref (gB G + a0), .ref (gB G + a1), .long x1] h (some (.int v)) h' :=
  amet_of false [some (.ref (gB G + a0)), some (.ref (gB G + a1)), some (.long x1), none, none, none, none] (by decide +kernel) (by decide) (Nat.le_of_ble_eq_true rfl) rfl (Nat.le_of_ble_eq_true rfl) (wX1_takePart G hG (v, h') _ _ _ h hc)
abbrev eX6_hasEnded (G : GG) (R : Int32 × AH) : EE := eM G 1 (some .boolean) false 0 0 0 0 (some (.int R.1)) R.2
theorem wX6_hasEnded (G : GG) (hG : GT G) (R : Int32 × AH) (a0 : Nat) (h : AH) (X : fX6_hasEnded a0 h = some R) : AW (eX6_hasEnded G R) RX6 cX6_hasEnded 0 [some (.ref (gB G + a0))] [] h 0 0 := by
  unfold fX6_hasEnded at X
  refine r_ald0 1 dX6_hasEnded_0 rfl ?_
  refine r_gN 4 dX6_hasEnded_1 rfl lfX6_7 rfl X (fun X => ?_) (fun b101 X => ?_)
  · refine r_ifnullN 35 dX6_hasEnded_4 (by decide) ?_
    refine r_iconst 36 _ dX6_hasEnded_35 rfl ki_0 ?_
    exact r_ret0 dX6_hasEnded_36 (Nat.zero_le _) (Nat.zero_le _) X
  · refine r_ifnull 7 dX6_hasEnded_4 rfl ?_
    refine r_ald0 8 dX6_hasEnded_7 rfl ?_
    refine r_gR 11 dX6_hasEnded_8 rfl lfX6_7 rfl X (fun b102 X => ?_)
    refine r_gI 14 dX6_hasEnded_11 rfl lfX6_27 rfl X (fun x103 X => ?_)
    refine r_if_eq 35 17 dX6_hasEnded_14 (by decide) rfl X (fun _ X => ?_) (fun _ X => ?_)
    · refine r_iconst 36 _ dX6_hasEnded_35 rfl ki_0 ?_
      exact r_ret0 dX6_hasEnded_36 (Nat.zero_le _) (Nat.zero_le _) X
    · refine r_ald0 18 dX6_hasEnded_17 rfl ?_
      refine r_gI 21 dX6_hasEnded_18 rfl lfX6_13 rfl X (fun x104 X => ?_)
      refine r_ald0 22 dX6_hasEnded_21 rfl ?_
      refine r_gR 25 dX6_hasEnded_22 rfl lfX6_7 rfl X (fun b105 X => ?_)
      refine r_gI 28 dX6_hasEnded_25 rfl lfX6_32 rfl X (fun x106 X => ?_)
      refine r_icmp_lt 35 31 dX6_hasEnded_28 (by decide) rfl X (fun _ X => ?_) (fun _ X => ?_)
      · refine r_iconst 36 _ dX6_hasEnded_35 rfl ki_0 ?_
        exact r_ret0 dX6_hasEnded_36 (Nat.zero_le _) (Nat.zero_le _) X
      · refine r_iconst 32 _ dX6_hasEnded_31 rfl ki_1 ?_
        refine r_goto 36 dX6_hasEnded_32 (by decide) ?_
        exact r_ret1 dX6_hasEnded_36 (Nat.zero_le _) (Nat.zero_le _) X
theorem mtX6_hasEnded (G : GG) (hG : GT G) {a0 : Nat} {h h' : AH} {v : Int32} (hc : fX6_hasEnded a0 h = some (v, h')) : AMet G yX6_hasEnded cX6_hasEnded 1 (some .boolean) 0 0 0 0 [.ref (gB G + a0)] h (some (.int v)) h' :=
  amet_of false [some (.ref (gB G + a0))] (by decide +kernel) (by decide) (Nat.le_of_ble_eq_true rfl) rfl (Nat.le_of_ble_eq_true rfl) (wX6_hasEnded G hG (v, h') _ h hc)
abbrev eX7_partAt (G : GG) (R : Int64 × AH) : EE := eM G 2 (some .long) false 0 0 0 0 (some (.long R.1)) R.2
theorem wX7_partAt (G : GG) (hG : GT G) (R : Int64 × AH) (a0 : Nat) (x0 : Int32) (h : AH) (X : fX7_partAt a0 x0 h = some R) : AW (eX7_partAt G R) RX7 cX7_partAt 0 [some (.ref (gB G + a0)), some (.int x0)] [] h 0 0 := by
  unfold fX7_partAt at X
  refine r_ild1 1 dX7_partAt_0 rfl ?_
  refine r_if_lt 19 4 dX7_partAt_1 (by decide) rfl X (fun _ X => ?_) (fun _ X => ?_)
  · refine r_lconst 20 _ dX7_partAt_19 rfl kl_0 ?_
    exact r_retL dX7_partAt_20 (Nat.zero_le _) (Nat.zero_le _) X
  · refine r_ild1 5 dX7_partAt_4 rfl ?_
    refine r_bipush 7 _ dX7_partAt_5 rfl kb_60 ?_
    refine r_icmp_ge 19 10 dX7_partAt_7 (by decide) rfl X (fun _ X => ?_) (fun _ X => ?_)
    · refine r_lconst 20 _ dX7_partAt_19 rfl kl_0 ?_
      exact r_retL dX7_partAt_20 (Nat.zero_le _) (Nat.zero_le _) X
    · refine r_ald0 11 dX7_partAt_10 rfl ?_
      refine r_gR 14 dX7_partAt_11 rfl lfX7_9 rfl X (fun b101 X => ?_)
      refine r_ild1 15 dX7_partAt_14 rfl ?_
      refine r_aL 16 1 dX7_partAt_15 rfl rfl X (fun x102 X => ?_)
      refine r_goto 20 dX7_partAt_16 (by decide) ?_
      exact r_retL dX7_partAt_20 (Nat.zero_le _) (Nat.zero_le _) X
theorem mtX7_partAt (G : GG) (hG : GT G) {a0 : Nat} {x0 : Int32} {h h' : AH} {v : Int64} (hc : fX7_partAt a0 x0 h = some (v, h')) : AMet G yX7_partAt cX7_partAt 2 (some .long) 0 0 0 0 [.ref (gB G + a0), .int x0] h (some (.long v)) h' :=
  amet_of false [some (.ref (gB G + a0)), some (.int x0)] (by decide +kernel) (by decide) (Nat.le_of_ble_eq_true rfl) rfl (Nat.le_of_ble_eq_true rfl) (wX7_partAt G hG (v, h') _ _ h hc)
abbrev eX1_takeFrom (G : GG) (R : Int32 × AH) : EE := eM G 2 (some .boolean) false 3 82 0 0 (some (.int R.1)) R.2
theorem wX1_takeFrom (G : GG) (hG : GT G) (R : Int32 × AH) (a0 : Nat) (a1 : Nat) (h : AH) (X : fX1_takeFrom a0 a1 h = some R) : AW (eX1_takeFrom G R) RX1 cX1_takeFrom 0 [some (.ref (gB G + a0)), some (.ref (gB G + a1))] [] h 0 0 := by
  unfold fX1_takeFrom at X
  refine r_ald1 1 dX1_takeFrom_0 rfl ?_
  refine r_gN 4 dX1_takeFrom_1 rfl lfX1_122 rfl X (fun X => ?_) (fun b101 X => ?_)
  · refine r_ifnullN 28 dX1_takeFrom_4 (by decide) ?_
    refine r_iconst 29 _ dX1_takeFrom_28 rfl ki_0 ?_
    exact r_ret0 dX1_takeFrom_29 (Nat.zero_le _) (Nat.zero_le _) X
  · refine r_ifnull 7 dX1_takeFrom_4 rfl ?_
    refine r_ald1 8 dX1_takeFrom_7 rfl ?_
    refine r_gI 11 dX1_takeFrom_8 rfl lfX1_68 rfl X (fun x102 X => ?_)
    refine r_if_ne 28 14 dX1_takeFrom_11 (by decide) rfl X (fun _ X => ?_) (fun _ X => ?_)
    · refine r_iconst 29 _ dX1_takeFrom_28 rfl ki_0 ?_
      exact r_ret0 dX1_takeFrom_29 (Nat.zero_le _) (Nat.zero_le _) X
    · refine r_ald1 15 dX1_takeFrom_14 rfl ?_
      refine r_gI 18 dX1_takeFrom_15 rfl lfX1_64 rfl X (fun x103 X => ?_)
      refine r_ald1 19 dX1_takeFrom_18 rfl ?_
      refine r_gR 22 dX1_takeFrom_19 rfl lfX1_122 rfl X (fun b104 X => ?_)
      refine r_gI 25 dX1_takeFrom_22 rfl lfX1_72 rfl X (fun x105 X => ?_)
      refine r_icmp_lt 30 28 dX1_takeFrom_25 (by decide) rfl X (fun _ X => ?_) (fun _ X => ?_)
      · refine r_ald0 31 dX1_takeFrom_30 rfl ?_
        refine r_ald1 32 dX1_takeFrom_31 rfl ?_
        refine r_ald1 33 dX1_takeFrom_32 rfl ?_
        refine r_gR 36 dX1_takeFrom_33 rfl lfX1_122 rfl X (fun b106 X => ?_)
        refine r_ald1 37 dX1_takeFrom_36 rfl ?_
        refine r_gI 40 dX1_takeFrom_37 rfl lfX1_64 rfl X (fun x107 X => ?_)
        obtain ⟨hs, X⟩ := r_cv X
        obtain ⟨x109, h108, hc, X⟩ := bnd_ok X
        refine r_callV1 43 dX1_takeFrom_40 rfl lmX1_126 hs (mtX7_partAt G hG hc) rfl ⟨(Nat.zero_le _), (Nat.zero_le _)⟩ ?_
        obtain ⟨hs, X⟩ := r_cv X
        obtain ⟨x111, h110, hc, X⟩ := bnd_ok X
        refine r_callV2 46 dX1_takeFrom_43 rfl lmX1_130 hs (mtX1_takePart G hG hc) rfl ⟨(Nat.zero_le _), (Nat.zero_le _)⟩ ?_
        refine r_if_ne 51 49 dX1_takeFrom_46 (by decide) rfl X (fun _ X => ?_) (fun _ X => ?_)
        · refine r_ald1 52 dX1_takeFrom_51 rfl ?_
          obtain ⟨hs, X⟩ := r_cv X
          obtain ⟨x113, h112, hc, X⟩ := bnd_ok X
          refine r_callV0 55 dX1_takeFrom_52 rfl lmX1_134 hs (mtX6_hasEnded G hG hc) rfl ⟨(Nat.zero_le _), (Nat.zero_le _)⟩ ?_
          refine r_if_eq 66 58 dX1_takeFrom_55 (by decide) rfl X (fun _ X => ?_) (fun _ X => ?_)
          · refine r_iconst 67 _ dX1_takeFrom_66 rfl ki_1 ?_
            refine r_goto 71 dX1_takeFrom_67 (by decide) ?_
            exact r_ret1 dX1_takeFrom_71 (Nat.zero_le _) (Nat.zero_le _) X
          · refine r_ald0 59 dX1_takeFrom_58 rfl ?_
            refine r_ald1 60 dX1_takeFrom_59 rfl ?_
            obtain ⟨hs, X⟩ := r_cv X
            obtain ⟨x115, h114, hc, X⟩ := bnd_ok X
            refine r_callV1 63 dX1_takeFrom_60 rfl lmX1_137 hs (mtX1_takeEnd G hG hc) rfl ⟨(Nat.zero_le _), (Nat.zero_le _)⟩ ?_
            refine r_if_eq 70 66 dX1_takeFrom_63 (by decide) rfl X (fun _ X => ?_) (fun _ X => ?_)
            · refine r_iconst 71 _ dX1_takeFrom_70 rfl ki_0 ?_
              exact r_ret0 dX1_takeFrom_71 (Nat.zero_le _) (Nat.zero_le _) X
            · refine r_iconst 67 _ dX1_takeFrom_66 rfl ki_1 ?_
              refine r_goto 71 dX1_takeFrom_67 (by decide) ?_
              exact r_ret1 dX1_takeFrom_71 (Nat.zero_le _) (Nat.zero_le _) X
        · refine r_iconst 50 _ dX1_takeFrom_49 rfl ki_0 ?_
          exact r_ret0 dX1_takeFrom_50 (Nat.zero_le _) (Nat.zero_le _) X
      · refine r_iconst 29 _ dX1_takeFrom_28 rfl ki_0 ?_
        exact r_ret0 dX1_takeFrom_29 (Nat.zero_le _) (Nat.zero_le _) X
theorem mtX1_takeFrom (G : GG) (hG : GT G) {a0 : Nat} {a1 : Nat} {h h' : AH} {v : Int32} (hc : fX1_takeFrom a0 a1 h = some (v, h')) : AMet G yX1_takeFrom cX1_takeFrom 2 (some .boolean) 3 82 0 0 [.ref (gB G + a0), .ref (gB G + a1)] h (some (.int v)) h' :=
  amet_of false [some (.ref (gB G + a0)), some (.ref (gB G + a1))] (by decide +kernel) (by decide) (Nat.le_of_ble_eq_true rfl) rfl (Nat.le_of_ble_eq_true rfl) (wX1_takeFrom G hG (v, h') _ _ h hc)
abbrev eX1_fillCorners (G : GG) (R : Int32 × AH) : EE := eM G 12 (some .boolean) false 2 44 0 0 (some (.int R.1)) R.2
theorem wX1_fillCorners_165 (G : GG) (hG : GT G) (R : Int32 × AH) {K165 : Nat → Nat → Int32 → AH → Fn Int32} (hK165 : ∀ (l0 : Nat) (l1 : Nat) (l11 : Int32) (h : AH), K165 l0 l1 l11 h = some R → AW (eX1_fillCorners G R) RX1 cX1_fillCorners 165 [some (.ref (gB G + l0)), some (.ref (gB G + l1)), none, none, none, none, none, none, none, none, none, some (.int l11)] [] h 0 0) (l0 : Nat) (l1 : Nat) (l11 : Int32) (h : AH) (X : fX1_fillCorners_165 K165 l0 l1 l11 h = some R) : AW (eX1_fillCorners G R) RX1 cX1_fillCorners 165 [some (.ref (gB G + l0)), some (.ref (gB G + l1)), none, none, none, none, none, none, none, none, none, some (.int l11)] [] h 0 0 := by
  unfold fX1_fillCorners_165 at X
  refine r_ild11 167 dX1_fillCorners_165 rfl ?_
  refine r_ald0 168 dX1_fillCorners_167 rfl ?_
  refine r_gI 171 dX1_fillCorners_168 rfl lfX1_36 rfl X (fun x101 X => ?_)
  refine r_icmp_ge 192 174 dX1_fillCorners_171 (by decide) rfl X (fun _ X => ?_) (fun _ X => ?_)
  · refine r_iconst 193 _ dX1_fillCorners_192 rfl ki_1 ?_
    exact r_ret1 dX1_fillCorners_193 (Nat.zero_le _) (Nat.zero_le _) X
  · refine r_ald1 175 dX1_fillCorners_174 rfl ?_
    refine r_ild11 177 dX1_fillCorners_175 rfl ?_
    refine r_aL 178 1 dX1_fillCorners_177 rfl rfl X (fun x102 X => ?_)
    obtain ⟨x104, h103, hc, X⟩ := bnd_ok X
    refine r_callS1 181 dX1_fillCorners_178 rfl lmX1_104 (mtX8_isFar G hG hc) rfl ⟨(Nat.zero_le _), (Nat.zero_le _)⟩ ?_
    refine r_if_eq 186 184 dX1_fillCorners_181 (by decide) rfl X (fun _ X => ?_) (fun _ X => ?_)
    · refine r_iinc11w 189 dX1_fillCorners_186 rfl rfl ki_1 X (fun x105 X => ?_)
      refine r_goto 165 dX1_fillCorners_189 (by decide) ?_
      exact r_cut (hK165 _ _ _ _ X) ⟨rfl, ⟨rfl, ⟨rfl, trivial⟩⟩⟩
    · refine r_iconst 185 _ dX1_fillCorners_184 rfl ki_0 ?_
      exact r_ret0 dX1_fillCorners_185 (Nat.zero_le _) (Nat.zero_le _) X
theorem wX1_fillCorners_165L (G : GG) (hG : GT G) (R : Int32 × AH) : ∀ (m : Nat) (l0 : Nat) (l1 : Nat) (l11 : Int32) (h : AH), fX1_fillCorners_165L m l0 l1 l11 h = some R → AW (eX1_fillCorners G R) RX1 cX1_fillCorners 165 [some (.ref (gB G + l0)), some (.ref (gB G + l1)), none, none, none, none, none, none, none, none, none, some (.int l11)] [] h 0 0 := by
  intro m
  induction m with
  | zero => intro l0 l1 l11 h X; exact nomatch (show (none : Fn Int32) = some R from X)
  | succ m ih => intro l0 l1 l11 h X; exact wX1_fillCorners_165 G hG R ih l0 l1 l11 h X
theorem wX1_fillCorners_65 (G : GG) (hG : GT G) (R : Int32 × AH) (l0 : Nat) (l1 : Nat) (l3 : Int64) (l5 : Int64) (l7 : Int64) (l9 : Int64) (h : AH) (X : fX1_fillCorners_65 l0 l1 l3 l5 l7 l9 h = some R) : AW (eX1_fillCorners G R) RX1 cX1_fillCorners 65 [some (.ref (gB G + l0)), some (.ref (gB G + l1)), none, some (.long l3), none, some (.long l5), none, some (.long l7), none, some (.long l9), none, none] [] h 0 0 := by
  unfold fX1_fillCorners_65 at X
  refine r_ald0 66 dX1_fillCorners_65 rfl ?_
  refine r_gR 69 dX1_fillCorners_66 rfl lfX1_14 rfl X (fun b101 X => ?_)
  refine r_gI 72 dX1_fillCorners_69 rfl lfX1_68 rfl X (fun x102 X => ?_)
  refine r_if_eq 93 75 dX1_fillCorners_72 (by decide) rfl X (fun _ X => ?_) (fun _ X => ?_)
  · refine r_ald0 94 dX1_fillCorners_93 rfl ?_
    refine r_gR 97 dX1_fillCorners_94 rfl lfX1_20 rfl X (fun b103 X => ?_)
    refine r_gI 100 dX1_fillCorners_97 rfl lfX1_68 rfl X (fun x104 X => ?_)
    refine r_if_eq 121 103 dX1_fillCorners_100 (by decide) rfl X (fun _ X => ?_) (fun _ X => ?_)
    · refine r_ald1 122 dX1_fillCorners_121 rfl ?_
      refine r_iconst 123 _ dX1_fillCorners_122 rfl ki_0 ?_
      refine r_lld3 124 dX1_fillCorners_123 rfl ?_
      refine r_lld5 126 dX1_fillCorners_124 rfl ?_
      obtain ⟨x106, h105, hc, X⟩ := bnd_ok X
      refine r_callS2 129 dX1_fillCorners_126 rfl lmX1_101 (mtX8_plus G hG hc) rfl ⟨(Nat.zero_le _), (Nat.zero_le _)⟩ ?_
      refine r_lld7 131 dX1_fillCorners_129 rfl ?_
      obtain ⟨x108, h107, hc, X⟩ := bnd_ok X
      refine r_callS2 134 dX1_fillCorners_131 rfl lmX1_101 (mtX8_plus G hG hc) rfl ⟨(Nat.zero_le _), (Nat.zero_le _)⟩ ?_
      refine r_lld9 136 dX1_fillCorners_134 rfl ?_
      obtain ⟨x110, h109, hc, X⟩ := bnd_ok X
      refine r_callS2 139 dX1_fillCorners_136 rfl lmX1_101 (mtX8_plus G hG hc) rfl ⟨(Nat.zero_le _), (Nat.zero_le _)⟩ ?_
      refine r_zL 140 1 dX1_fillCorners_139 rfl rfl X (fun h111 X => ?_)
      refine r_ald1 141 dX1_fillCorners_140 rfl ?_
      refine r_iconst 142 _ dX1_fillCorners_141 rfl ki_1 ?_
      refine r_lld3 143 dX1_fillCorners_142 rfl ?_
      refine r_lld5 145 dX1_fillCorners_143 rfl ?_
      obtain ⟨x113, h112, hc, X⟩ := bnd_ok X
      refine r_callS2 148 dX1_fillCorners_145 rfl lmX1_101 (mtX8_plus G hG hc) rfl ⟨(Nat.zero_le _), (Nat.zero_le _)⟩ ?_
      refine r_zL 149 1 dX1_fillCorners_148 rfl rfl X (fun h114 X => ?_)
      refine r_ald1 150 dX1_fillCorners_149 rfl ?_
      refine r_iconst 151 _ dX1_fillCorners_150 rfl ki_2 ?_
      refine r_lld3 152 dX1_fillCorners_151 rfl ?_
      refine r_lld7 154 dX1_fillCorners_152 rfl ?_
      obtain ⟨x116, h115, hc, X⟩ := bnd_ok X
      refine r_callS2 157 dX1_fillCorners_154 rfl lmX1_101 (mtX8_plus G hG hc) rfl ⟨(Nat.zero_le _), (Nat.zero_le _)⟩ ?_
      refine r_zL 158 1 dX1_fillCorners_157 rfl rfl X (fun h117 X => ?_)
      refine r_ald1 159 dX1_fillCorners_158 rfl ?_
      refine r_iconst 160 _ dX1_fillCorners_159 rfl ki_3 ?_
      refine r_lld3 161 dX1_fillCorners_160 rfl ?_
      refine r_zL 162 1 dX1_fillCorners_161 rfl rfl X (fun h118 X => ?_)
      refine r_iconst 163 _ dX1_fillCorners_162 rfl ki_0 ?_
      refine r_ist11 165 dX1_fillCorners_163 rfl rfl ?_
      exact r_cut (wX1_fillCorners_165L G hG R 1000 _ _ _ _ X) ⟨rfl, ⟨rfl, ⟨rfl, trivial⟩⟩⟩
    · refine r_ald1 104 dX1_fillCorners_103 rfl ?_
      refine r_iconst 105 _ dX1_fillCorners_104 rfl ki_0 ?_
      refine r_lld5 107 dX1_fillCorners_105 rfl ?_
      refine r_lld9 109 dX1_fillCorners_107 rfl ?_
      obtain ⟨x120, h119, hc, X⟩ := bnd_ok X
      refine r_callS2 112 dX1_fillCorners_109 rfl lmX1_101 (mtX8_plus G hG hc) rfl ⟨(Nat.zero_le _), (Nat.zero_le _)⟩ ?_
      refine r_zL 113 1 dX1_fillCorners_112 rfl rfl X (fun h121 X => ?_)
      refine r_ald1 114 dX1_fillCorners_113 rfl ?_
      refine r_iconst 115 _ dX1_fillCorners_114 rfl ki_1 ?_
      refine r_lld5 117 dX1_fillCorners_115 rfl ?_
      refine r_zL 118 1 dX1_fillCorners_117 rfl rfl X (fun h122 X => ?_)
      refine r_goto 162 dX1_fillCorners_118 (by decide) ?_
      refine r_iconst 163 _ dX1_fillCorners_162 rfl ki_0 ?_
      refine r_ist11 165 dX1_fillCorners_163 rfl rfl ?_
      exact r_cut (wX1_fillCorners_165L G hG R 1000 _ _ _ _ X) ⟨rfl, ⟨rfl, ⟨rfl, trivial⟩⟩⟩
  · refine r_ald1 76 dX1_fillCorners_75 rfl ?_
    refine r_iconst 77 _ dX1_fillCorners_76 rfl ki_0 ?_
    refine r_lld7 79 dX1_fillCorners_77 rfl ?_
    refine r_lld9 81 dX1_fillCorners_79 rfl ?_
    obtain ⟨x124, h123, hc, X⟩ := bnd_ok X
    refine r_callS2 84 dX1_fillCorners_81 rfl lmX1_101 (mtX8_plus G hG hc) rfl ⟨(Nat.zero_le _), (Nat.zero_le _)⟩ ?_
    refine r_zL 85 1 dX1_fillCorners_84 rfl rfl X (fun h125 X => ?_)
    refine r_ald1 86 dX1_fillCorners_85 rfl ?_
    refine r_iconst 87 _ dX1_fillCorners_86 rfl ki_1 ?_
    refine r_lld7 89 dX1_fillCorners_87 rfl ?_
    refine r_zL 90 1 dX1_fillCorners_89 rfl rfl X (fun h126 X => ?_)
    refine r_goto 162 dX1_fillCorners_90 (by decide) ?_
    refine r_iconst 163 _ dX1_fillCorners_162 rfl ki_0 ?_
    refine r_ist11 165 dX1_fillCorners_163 rfl rfl ?_
    exact r_cut (wX1_fillCorners_165L G hG R 1000 _ _ _ _ X) ⟨rfl, ⟨rfl, ⟨rfl, trivial⟩⟩⟩
theorem wX1_fillCorners (G : GG) (hG : GT G) (R : Int32 × AH) (a0 : Nat) (a1 : Nat) (x1 : Int32) (h : AH) (X : fX1_fillCorners a0 a1 x1 h = some R) : AW (eX1_fillCorners G R) RX1 cX1_fillCorners 0 [some (.ref (gB G + a0)), some (.ref (gB G + a1)), some (.int x1), none, none, none, none, none, none, none, none, none] [] h 0 0 := by
  unfold fX1_fillCorners at X
  refine r_ald0 1 dX1_fillCorners_0 rfl ?_
  refine r_gR 4 dX1_fillCorners_1 rfl lfX1_23 rfl X (fun b101 X => ?_)
  refine r_ild2 5 dX1_fillCorners_4 rfl ?_
  refine r_aL 6 1 dX1_fillCorners_5 rfl rfl X (fun x102 X => ?_)
  refine r_lst3 7 dX1_fillCorners_6 rfl rfl ?_
  refine r_ald0 8 dX1_fillCorners_7 rfl ?_
  refine r_gR 11 dX1_fillCorners_8 rfl lfX1_23 rfl X (fun b103 X => ?_)
  refine r_ild2 12 dX1_fillCorners_11 rfl ?_
  refine r_iconst 13 _ dX1_fillCorners_12 rfl ki_1 ?_
  refine r_iadd 14 dX1_fillCorners_13 rfl ?_
  refine r_aL 15 1 dX1_fillCorners_14 rfl rfl X (fun x104 X => ?_)
  refine r_lst5 17 dX1_fillCorners_15 rfl rfl ?_
  refine r_ald0 18 dX1_fillCorners_17 rfl ?_
  refine r_gR 21 dX1_fillCorners_18 rfl lfX1_23 rfl X (fun b105 X => ?_)
  refine r_ild2 22 dX1_fillCorners_21 rfl ?_
  refine r_iconst 23 _ dX1_fillCorners_22 rfl ki_2 ?_
  refine r_iadd 24 dX1_fillCorners_23 rfl ?_
  refine r_aL 25 1 dX1_fillCorners_24 rfl rfl X (fun x106 X => ?_)
  refine r_lst7 27 dX1_fillCorners_25 rfl rfl ?_
  refine r_ald0 28 dX1_fillCorners_27 rfl ?_
  refine r_gR 31 dX1_fillCorners_28 rfl lfX1_23 rfl X (fun b107 X => ?_)
  refine r_ild2 32 dX1_fillCorners_31 rfl ?_
  refine r_iconst 33 _ dX1_fillCorners_32 rfl ki_3 ?_
  refine r_iadd 34 dX1_fillCorners_33 rfl ?_
  refine r_aL 35 1 dX1_fillCorners_34 rfl rfl X (fun x108 X => ?_)
  refine r_lst9 37 dX1_fillCorners_35 rfl rfl ?_
  refine r_ald0 38 dX1_fillCorners_37 rfl ?_
  refine r_gR 41 dX1_fillCorners_38 rfl lfX1_14 rfl X (fun b109 X => ?_)
  refine r_gI 44 dX1_fillCorners_41 rfl lfX1_68 rfl X (fun x110 X => ?_)
  refine r_if_eq 65 47 dX1_fillCorners_44 (by decide) rfl X (fun _ X => ?_) (fun _ X => ?_)
  · exact r_cut (wX1_fillCorners_65 G hG R _ _ _ _ _ _ _ X) ⟨rfl, ⟨rfl, ⟨rfl, ⟨rfl, ⟨rfl, ⟨rfl, trivial⟩⟩⟩⟩⟩⟩
  · refine r_ald0 48 dX1_fillCorners_47 rfl ?_
    refine r_gR 51 dX1_fillCorners_48 rfl lfX1_20 rfl X (fun b111 X => ?_)
    refine r_gI 54 dX1_fillCorners_51 rfl lfX1_68 rfl X (fun x112 X => ?_)
    refine r_if_eq 65 57 dX1_fillCorners_54 (by decide) rfl X (fun _ X => ?_) (fun _ X => ?_)
    · exact r_cut (wX1_fillCorners_65 G hG R _ _ _ _ _ _ _ X) ⟨rfl, ⟨rfl, ⟨rfl, ⟨rfl, ⟨rfl, ⟨rfl, trivial⟩⟩⟩⟩⟩⟩
    · refine r_ald1 58 dX1_fillCorners_57 rfl ?_
      refine r_iconst 59 _ dX1_fillCorners_58 rfl ki_0 ?_
      refine r_lld9 61 dX1_fillCorners_59 rfl ?_
      refine r_zL 62 1 dX1_fillCorners_61 rfl rfl X (fun h113 X => ?_)
      refine r_goto 162 dX1_fillCorners_62 (by decide) ?_
      refine r_iconst 163 _ dX1_fillCorners_162 rfl ki_0 ?_
      refine r_ist11 165 dX1_fillCorners_163 rfl rfl ?_
      exact r_cut (wX1_fillCorners_165L G hG R 1000 _ _ _ _ X) ⟨rfl, ⟨rfl, ⟨rfl, trivial⟩⟩⟩
theorem mtX1_fillCorners (G : GG) (hG : GT G) {a0 : Nat} {a1 : Nat} {x1 : Int32} {h h' : AH} {v : Int32} (hc : fX1_fillCorners a0 a1 x1 h = some (v, h')) : AMet G yX1_fillCorners cX1_fillCorners 12 (some .boolean) 2 44 0 0 [.ref (gB G + a0), .ref (gB G + a1), .int x1] h (some (.int v)) h' :=
  amet_of false [some (.ref (gB G + a0)), some (.ref (gB G + a1)), some (.int x1), none, none, none, none, none, none, none, none, none] (by decide +kernel) (by decide) (Nat.le_of_ble_eq_true rfl) rfl (Nat.le_of_ble_eq_true rfl) (wX1_fillCorners G hG (v, h') _ _ _ h hc)
abbrev eX1_workOutCorners (G : GG) (R : Int32 × AH) : EE := eM G 1 (some .boolean) false 3 75 0 0 (some (.int R.1)) R.2
theorem wX1_workOutCorners_31 (G : GG) (hG : GT G) (R : Int32 × AH) (l0 : Nat) (s0 : Nat) (s1 : Int32) (s2 : Int32) (h : AH) (X : fX1_workOutCorners_31 l0 s0 s1 s2 h = some R) : AW (eX1_workOutCorners G R) RX1 cX1_workOutCorners 31 [some (.ref (gB G + l0))] [.int s2, .int s1, .ref (gB G + s0)] h 0 0 := by
  unfold fX1_workOutCorners_31 at X
  refine r_imul 32 dX1_workOutCorners_31 rfl ?_
  refine r_pI 35 dX1_workOutCorners_32 rfl lpX1_36 rfl X (fun h101 X => ?_)
  refine r_ald0 36 dX1_workOutCorners_35 rfl ?_
  refine r_ald0 37 dX1_workOutCorners_36 rfl ?_
  refine r_gR 40 dX1_workOutCorners_37 rfl lfX1_30 rfl X (fun b102 X => ?_)
  refine r_iconst 41 _ dX1_workOutCorners_40 rfl ki_0 ?_
  obtain ⟨hs, X⟩ := r_cv X
  obtain ⟨x104, h103, hc, X⟩ := bnd_ok X
  refine r_callV2 44 dX1_workOutCorners_41 rfl lmX1_97 hs (mtX1_fillCorners G hG hc) rfl ⟨(Nat.zero_le _), (Nat.zero_le _)⟩ ?_
  refine r_if_eq 63 47 dX1_workOutCorners_44 (by decide) rfl X (fun _ X => ?_) (fun _ X => ?_)
  · refine r_iconst 64 _ dX1_workOutCorners_63 rfl ki_0 ?_
    exact r_ret0 dX1_workOutCorners_64 (Nat.zero_le _) (Nat.zero_le _) X
  · refine r_ald0 48 dX1_workOutCorners_47 rfl ?_
    refine r_ald0 49 dX1_workOutCorners_48 rfl ?_
    refine r_gR 52 dX1_workOutCorners_49 rfl lfX1_33 rfl X (fun b105 X => ?_)
    refine r_iconst 53 _ dX1_workOutCorners_52 rfl ki_4 ?_
    obtain ⟨hs, X⟩ := r_cv X
    obtain ⟨x107, h106, hc, X⟩ := bnd_ok X
    refine r_callV2 56 dX1_workOutCorners_53 rfl lmX1_97 hs (mtX1_fillCorners G hG hc) rfl ⟨(Nat.zero_le _), (Nat.zero_le _)⟩ ?_
    refine r_if_eq 63 59 dX1_workOutCorners_56 (by decide) rfl X (fun _ X => ?_) (fun _ X => ?_)
    · refine r_iconst 64 _ dX1_workOutCorners_63 rfl ki_0 ?_
      exact r_ret0 dX1_workOutCorners_64 (Nat.zero_le _) (Nat.zero_le _) X
    · refine r_iconst 60 _ dX1_workOutCorners_59 rfl ki_1 ?_
      refine r_goto 64 dX1_workOutCorners_60 (by decide) ?_
      exact r_ret1 dX1_workOutCorners_64 (Nat.zero_le _) (Nat.zero_le _) X
theorem wX1_workOutCorners (G : GG) (hG : GT G) (R : Int32 × AH) (a0 : Nat) (h : AH) (X : fX1_workOutCorners a0 h = some R) : AW (eX1_workOutCorners G R) RX1 cX1_workOutCorners 0 [some (.ref (gB G + a0))] [] h 0 0 := by
  unfold fX1_workOutCorners at X
  refine r_ald0 1 dX1_workOutCorners_0 rfl ?_
  refine r_ald0 2 dX1_workOutCorners_1 rfl ?_
  refine r_gR 5 dX1_workOutCorners_2 rfl lfX1_14 rfl X (fun b101 X => ?_)
  refine r_gI 8 dX1_workOutCorners_5 rfl lfX1_68 rfl X (fun x102 X => ?_)
  refine r_if_eq 15 11 dX1_workOutCorners_8 (by decide) rfl X (fun _ X => ?_) (fun _ X => ?_)
  · refine r_iconst 16 _ dX1_workOutCorners_15 rfl ki_2 ?_
    refine r_ald0 17 dX1_workOutCorners_16 rfl ?_
    refine r_gR 20 dX1_workOutCorners_17 rfl lfX1_20 rfl X (fun b103 X => ?_)
    refine r_gI 23 dX1_workOutCorners_20 rfl lfX1_68 rfl X (fun x104 X => ?_)
    refine r_if_eq 30 26 dX1_workOutCorners_23 (by decide) rfl X (fun _ X => ?_) (fun _ X => ?_)
    · refine r_iconst 31 _ dX1_workOutCorners_30 rfl ki_2 ?_
      exact r_cut (wX1_workOutCorners_31 G hG R _ _ _ _ _ X) ⟨rfl, trivial⟩
    · refine r_iconst 27 _ dX1_workOutCorners_26 rfl ki_1 ?_
      refine r_goto 31 dX1_workOutCorners_27 (by decide) ?_
      exact r_cut (wX1_workOutCorners_31 G hG R _ _ _ _ _ X) ⟨rfl, trivial⟩
  · refine r_iconst 12 _ dX1_workOutCorners_11 rfl ki_1 ?_
    refine r_goto 16 dX1_workOutCorners_12 (by decide) ?_
    refine r_ald0 17 dX1_workOutCorners_16 rfl ?_
    refine r_gR 20 dX1_workOutCorners_17 rfl lfX1_20 rfl X (fun b105 X => ?_)
    refine r_gI 23 dX1_workOutCorners_20 rfl lfX1_68 rfl X (fun x106 X => ?_)
    refine r_if_eq 30 26 dX1_workOutCorners_23 (by decide) rfl X (fun _ X => ?_) (fun _ X => ?_)
    · refine r_iconst 31 _ dX1_workOutCorners_30 rfl ki_2 ?_
      exact r_cut (wX1_workOutCorners_31 G hG R _ _ _ _ _ X) ⟨rfl, trivial⟩
    · refine r_iconst 27 _ dX1_workOutCorners_26 rfl ki_1 ?_
      refine r_goto 31 dX1_workOutCorners_27 (by decide) ?_
      exact r_cut (wX1_workOutCorners_31 G hG R _ _ _ _ _ X) ⟨rfl, trivial⟩
theorem mtX1_workOutCorners (G : GG) (hG : GT G) {a0 : Nat} {h h' : AH} {v : Int32} (hc : fX1_workOutCorners a0 h = some (v, h')) : AMet G yX1_workOutCorners cX1_workOutCorners 1 (some .boolean) 3 75 0 0 [.ref (gB G + a0)] h (some (.int v)) h' :=
  amet_of false [some (.ref (gB G + a0))] (by decide +kernel) (by decide) (Nat.le_of_ble_eq_true rfl) rfl (Nat.le_of_ble_eq_true rfl) (wX1_workOutCorners G hG (v, h') _ h hc)
