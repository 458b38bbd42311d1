theorem dX9_noStream_0 : decode cX9_noStream 0 = .ok (.iload_n 1, 1) := by decide +kernel
theorem dX9_noStream_1 : decode cX9_noStream 1 = .ok (.i2l, 1) := by decide +kernel
theorem dX9_noStream_2 : decode cX9_noStream 2 = .ok (.lconst 0, 1) := by decide +kernel
theorem dX9_noStream_3 : decode cX9_noStream 3 = .ok (.ldc2_w 73, 3) := by decide +kernel
theorem dX9_noStream_6 : decode cX9_noStream 6 = .ok (.invokestatic 75, 3) := by decide +kernel
theorem dX9_noStream_9 : decode cX9_noStream 9 = .ok (.ifCond .eq 12, 3) := by decide +kernel
theorem dX9_noStream_12 : decode cX9_noStream 12 = .ok (.aload_n 0, 1) := by decide +kernel
theorem dX9_noStream_13 : decode cX9_noStream 13 = .ok (.getfield 7, 3) := by decide +kernel
theorem dX9_noStream_16 : decode cX9_noStream 16 = .ok (.iload_n 1, 1) := by decide +kernel
theorem dX9_noStream_17 : decode cX9_noStream 17 = .ok (.baload, 1) := by decide +kernel
theorem dX9_noStream_18 : decode cX9_noStream 18 = .ok (.ifCond .ne 7, 3) := by decide +kernel
theorem dX9_noStream_21 : decode cX9_noStream 21 = .ok (.iconst 1, 1) := by decide +kernel
theorem dX9_noStream_22 : decode cX9_noStream 22 = .ok (.goto 4, 3) := by decide +kernel
theorem dX9_noStream_25 : decode cX9_noStream 25 = .ok (.iconst 0, 1) := by decide +kernel
theorem dX9_noStream_26 : decode cX9_noStream 26 = .ok (.ireturn, 1) := by decide +kernel
theorem dX9_act_0 : decode cX9_act 0 = .ok (.aload_n 0, 1) := by decide +kernel
theorem dX9_act_1 : decode cX9_act 1 = .ok (.iload_n 2, 1) := by decide +kernel
theorem dX9_act_2 : decode cX9_act 2 = .ok (.invokevirtual 179, 3) := by decide +kernel
theorem dX9_act_5 : decode cX9_act 5 = .ok (.ifCond .ne 11, 3) := by decide +kernel
theorem dX9_act_8 : decode cX9_act 8 = .ok (.aload_n 0, 1) := by decide +kernel
theorem dX9_act_9 : decode cX9_act 9 = .ok (.iload_n 3, 1) := by decide +kernel
theorem dX9_act_10 : decode cX9_act 10 = .ok (.invokevirtual 179, 3) := by decide +kernel
theorem dX9_act_13 : decode cX9_act 13 = .ok (.ifCond .eq 7, 3) := by decide +kernel
theorem dX9_act_16 : decode cX9_act 16 = .ok (.ldc2_w 183, 3) := by decide +kernel
theorem dX9_act_19 : decode cX9_act 19 = .ok (.lreturn, 1) := by decide +kernel
theorem dX9_act_20 : decode cX9_act 20 = .ok (.iload_n 1, 1) := by decide +kernel
theorem dX9_act_21 : decode cX9_act 21 = .ok (.i2l, 1) := by decide +kernel
theorem dX9_act_22 : decode cX9_act 22 = .ok (.lconst 0, 1) := by decide +kernel
theorem dX9_act_23 : decode cX9_act 23 = .ok (.ldc2_w 185, 3) := by decide +kernel
theorem dX9_act_26 : decode cX9_act 26 = .ok (.invokestatic 75, 3) := by decide +kernel
theorem dX9_act_29 : decode cX9_act 29 = .ok (.ifCond .ne 7, 3) := by decide +kernel
theorem dX9_act_32 : decode cX9_act 32 = .ok (.ldc2_w 109, 3) := by decide +kernel
theorem dX9_act_35 : decode cX9_act 35 = .ok (.lreturn, 1) := by decide +kernel
theorem dX9_act_36 : decode cX9_act 36 = .ok (.iload_n 1, 1) := by decide +kernel
theorem dX9_act_37 : decode cX9_act 37 = .ok (.iconst 3, 1) := by decide +kernel
theorem dX9_act_38 : decode cX9_act 38 = .ok (.if_icmp .ne 15, 3) := by decide +kernel
theorem dX9_act_41 : decode cX9_act 41 = .ok (.aload_n 0, 1) := by decide +kernel
theorem dX9_act_42 : decode cX9_act 42 = .ok (.iload_n 3, 1) := by decide +kernel
theorem dX9_act_43 : decode cX9_act 43 = .ok (.invokevirtual 187, 3) := by decide +kernel
theorem dX9_act_46 : decode cX9_act 46 = .ok (.ifCond .eq 7, 3) := by decide +kernel
theorem dX9_act_49 : decode cX9_act 49 = .ok (.ldc2_w 143, 3) := by decide +kernel
theorem dX9_act_52 : decode cX9_act 52 = .ok (.lreturn, 1) := by decide +kernel
theorem dX9_act_53 : decode cX9_act 53 = .ok (.aload_n 0, 1) := by decide +kernel
theorem dX9_act_54 : decode cX9_act 54 = .ok (.getfield 79, 3) := by decide +kernel
theorem dX9_act_57 : decode cX9_act 57 = .ok (.bipush 40, 2) := by decide +kernel
theorem dX9_act_59 : decode cX9_act 59 = .ok (.if_icmp .ne 7, 3) := by decide +kernel
theorem dX9_act_62 : decode cX9_act 62 = .ok (.ldc2_w 111, 3) := by decide +kernel
theorem dX9_act_65 : decode cX9_act 65 = .ok (.lreturn, 1) := by decide +kernel
theorem dX9_act_66 : decode cX9_act 66 = .ok (.aload_n 0, 1) := by decide +kernel
theorem dX9_act_67 : decode cX9_act 67 = .ok (.iload_n 2, 1) := by decide +kernel
theorem dX9_act_68 : decode cX9_act 68 = .ok (.iload_n 3, 1) := by decide +kernel
theorem dX9_act_69 : decode cX9_act 69 = .ok (.invokevirtual 190, 3) := by decide +kernel
theorem dX9_act_72 : decode cX9_act 72 = .ok (.ifCond .eq 11, 3) := by decide +kernel
theorem dX9_act_75 : decode cX9_act 75 = .ok (.aload_n 0, 1) := by decide +kernel
theorem dX9_act_76 : decode cX9_act 76 = .ok (.iload_n 1, 1) := by decide +kernel
theorem dX9_act_77 : decode cX9_act 77 = .ok (.iload_n 2, 1) := by decide +kernel
theorem dX9_act_78 : decode cX9_act 78 = .ok (.iload_n 3, 1) := by decide +kernel
theorem dX9_act_79 : decode cX9_act 79 = .ok (.invokevirtual 194, 3) := by decide +kernel
theorem dX9_act_82 : decode cX9_act 82 = .ok (.lreturn, 1) := by decide +kernel
theorem dX9_act_83 : decode cX9_act 83 = .ok (.iconst 0, 1) := by decide +kernel
theorem dX9_act_84 : decode cX9_act 84 = .ok (.istore 4, 2) := by decide +kernel
theorem dX9_act_86 : decode cX9_act 86 = .ok (.iload 4, 2) := by decide +kernel
theorem dX9_act_88 : decode cX9_act 88 = .ok (.bipush 8, 2) := by decide +kernel
theorem dX9_act_90 : decode cX9_act 90 = .ok (.if_icmp .ge 17, 3) := by decide +kernel
theorem dX9_act_93 : decode cX9_act 93 = .ok (.aload_n 0, 1) := by decide +kernel
theorem dX9_act_94 : decode cX9_act 94 = .ok (.getfield 48, 3) := by decide +kernel
theorem dX9_act_97 : decode cX9_act 97 = .ok (.iload 4, 2) := by decide +kernel
theorem dX9_act_99 : decode cX9_act 99 = .ok (.lconst 0, 1) := by decide +kernel
theorem dX9_act_100 : decode cX9_act 100 = .ok (.lastore, 1) := by decide +kernel
theorem dX9_act_101 : decode cX9_act 101 = .ok (.iinc 4 1, 3) := by decide +kernel
theorem dX9_act_104 : decode cX9_act 104 = .ok (.goto (-18), 3) := by decide +kernel
theorem dX9_act_107 : decode cX9_act 107 = .ok (.iload_n 1, 1) := by decide +kernel
theorem dX9_act_108 : decode cX9_act 108 = .ok (.iconst 2, 1) := by decide +kernel
theorem dX9_act_109 : decode cX9_act 109 = .ok (.if_icmp .ge 38, 3) := by decide +kernel
theorem dX9_act_112 : decode cX9_act 112 = .ok (.aload_n 0, 1) := by decide +kernel
theorem dX9_act_113 : decode cX9_act 113 = .ok (.getfield 48, 3) := by decide +kernel
theorem dX9_act_116 : decode cX9_act 116 = .ok (.iconst 1, 1) := by decide +kernel
theorem dX9_act_117 : decode cX9_act 117 = .ok (.lconst 1, 1) := by decide +kernel
theorem dX9_act_118 : decode cX9_act 118 = .ok (.lastore, 1) := by decide +kernel
theorem dX9_act_119 : decode cX9_act 119 = .ok (.aload_n 0, 1) := by decide +kernel
theorem dX9_act_120 : decode cX9_act 120 = .ok (.getfield 48, 3) := by decide +kernel
theorem dX9_act_123 : decode cX9_act 123 = .ok (.iconst 2, 1) := by decide +kernel
theorem dX9_act_124 : decode cX9_act 124 = .ok (.iload_n 1, 1) := by decide +kernel
theorem dX9_act_125 : decode cX9_act 125 = .ok (.ifCond .ne 7, 3) := by decide +kernel
theorem dX9_act_128 : decode cX9_act 128 = .ok (.lconst 1, 1) := by decide +kernel
theorem dX9_act_129 : decode cX9_act 129 = .ok (.goto 6, 3) := by decide +kernel
theorem dX9_act_132 : decode cX9_act 132 = .ok (.ldc2_w 149, 3) := by decide +kernel
theorem dX9_act_135 : decode cX9_act 135 = .ok (.lastore, 1) := by decide +kernel
theorem dX9_act_136 : decode cX9_act 136 = .ok (.aload_n 0, 1) := by decide +kernel
theorem dX9_act_137 : decode cX9_act 137 = .ok (.getfield 48, 3) := by decide +kernel
theorem dX9_act_140 : decode cX9_act 140 = .ok (.bipush 7, 2) := by decide +kernel
theorem dX9_act_142 : decode cX9_act 142 = .ok (.lconst 1, 1) := by decide +kernel
theorem dX9_act_143 : decode cX9_act 143 = .ok (.lastore, 1) := by decide +kernel
theorem dX9_act_144 : decode cX9_act 144 = .ok (.goto 41, 3) := by decide +kernel
theorem dX9_act_147 : decode cX9_act 147 = .ok (.iload_n 1, 1) := by decide +kernel
theorem dX9_act_148 : decode cX9_act 148 = .ok (.iconst 2, 1) := by decide +kernel
theorem dX9_act_149 : decode cX9_act 149 = .ok (.if_icmp .ne 21, 3) := by decide +kernel
theorem dX9_act_152 : decode cX9_act 152 = .ok (.aload_n 0, 1) := by decide +kernel
theorem dX9_act_153 : decode cX9_act 153 = .ok (.getfield 48, 3) := by decide +kernel
theorem dX9_act_156 : decode cX9_act 156 = .ok (.iconst 0, 1) := by decide +kernel
theorem dX9_act_157 : decode cX9_act 157 = .ok (.lconst 1, 1) := by decide +kernel
theorem dX9_act_158 : decode cX9_act 158 = .ok (.lastore, 1) := by decide +kernel
theorem dX9_act_159 : decode cX9_act 159 = .ok (.aload_n 0, 1) := by decide +kernel
theorem dX9_act_160 : decode cX9_act 160 = .ok (.getfield 48, 3) := by decide +kernel
theorem dX9_act_163 : decode cX9_act 163 = .ok (.bipush 7, 2) := by decide +kernel
theorem dX9_act_165 : decode cX9_act 165 = .ok (.lconst 1, 1) := by decide +kernel
theorem dX9_act_166 : decode cX9_act 166 = .ok (.lastore, 1) := by decide +kernel
theorem dX9_act_167 : decode cX9_act 167 = .ok (.goto 18, 3) := by decide +kernel
theorem dX9_act_170 : decode cX9_act 170 = .ok (.aload_n 0, 1) := by decide +kernel
theorem dX9_act_171 : decode cX9_act 171 = .ok (.getfield 48, 3) := by decide +kernel
theorem dX9_act_174 : decode cX9_act 174 = .ok (.iconst 1, 1) := by decide +kernel
theorem dX9_act_175 : decode cX9_act 175 = .ok (.lconst 1, 1) := by decide +kernel
theorem dX9_act_176 : decode cX9_act 176 = .ok (.lastore, 1) := by decide +kernel
theorem dX9_act_177 : decode cX9_act 177 = .ok (.aload_n 0, 1) := by decide +kernel
theorem dX9_act_178 : decode cX9_act 178 = .ok (.getfield 48, 3) := by decide +kernel
theorem dX9_act_181 : decode cX9_act 181 = .ok (.bipush 6, 2) := by decide +kernel
theorem dX9_act_183 : decode cX9_act 183 = .ok (.lconst 1, 1) := by decide +kernel
theorem dX9_act_184 : decode cX9_act 184 = .ok (.lastore, 1) := by decide +kernel
theorem dX9_act_185 : decode cX9_act 185 = .ok (.aload_n 0, 1) := by decide +kernel
theorem dX9_act_186 : decode cX9_act 186 = .ok (.iload_n 2, 1) := by decide +kernel
theorem dX9_act_187 : decode cX9_act 187 = .ok (.iload_n 3, 1) := by decide +kernel
theorem dX9_act_188 : decode cX9_act 188 = .ok (.invokevirtual 198, 3) := by decide +kernel
theorem dX9_act_191 : decode cX9_act 191 = .ok (.lreturn, 1) := by decide +kernel
theorem dX9_roll_0 : decode cX9_roll 0 = .ok (.bipush 10, 2) := by decide +kernel
theorem dX9_roll_2 : decode cX9_roll 2 = .ok (.aload_n 0, 1) := by decide +kernel
theorem dX9_roll_3 : decode cX9_roll 3 = .ok (.getfield 207, 3) := by decide +kernel
theorem dX9_roll_6 : decode cX9_roll 6 = .ok (.imul, 1) := by decide +kernel
theorem dX9_roll_7 : decode cX9_roll 7 = .ok (.istore 4, 2) := by decide +kernel
theorem dX9_roll_9 : decode cX9_roll 9 = .ok (.aload_n 0, 1) := by decide +kernel
theorem dX9_roll_10 : decode cX9_roll 10 = .ok (.getfield 54, 3) := by decide +kernel
theorem dX9_roll_13 : decode cX9_roll 13 = .ok (.iload 4, 2) := by decide +kernel
theorem dX9_roll_15 : decode cX9_roll 15 = .ok (.iload_n 1, 1) := by decide +kernel
theorem dX9_roll_16 : decode cX9_roll 16 = .ok (.i2l, 1) := by decide +kernel
theorem dX9_roll_17 : decode cX9_roll 17 = .ok (.lastore, 1) := by decide +kernel
theorem dX9_roll_18 : decode cX9_roll 18 = .ok (.aload_n 0, 1) := by decide +kernel
theorem dX9_roll_19 : decode cX9_roll 19 = .ok (.getfield 54, 3) := by decide +kernel
theorem dX9_roll_22 : decode cX9_roll 22 = .ok (.iload 4, 2) := by decide +kernel
theorem dX9_roll_24 : decode cX9_roll 24 = .ok (.iconst 1, 1) := by decide +kernel
theorem dX9_roll_25 : decode cX9_roll 25 = .ok (.iadd, 1) := by decide +kernel
theorem dX9_roll_26 : decode cX9_roll 26 = .ok (.lload_n 2, 1) := by decide +kernel
theorem dX9_roll_27 : decode cX9_roll 27 = .ok (.lastore, 1) := by decide +kernel
theorem dX9_roll_28 : decode cX9_roll 28 = .ok (.iconst 0, 1) := by decide +kernel
theorem dX9_roll_29 : decode cX9_roll 29 = .ok (.istore 5, 2) := by decide +kernel
theorem dX9_roll_31 : decode cX9_roll 31 = .ok (.iload 5, 2) := by decide +kernel
theorem dX9_roll_33 : decode cX9_roll 33 = .ok (.bipush 8, 2) := by decide +kernel
theorem dX9_roll_35 : decode cX9_roll 35 = .ok (.if_icmp .ge 28, 3) := by decide +kernel
theorem dX9_roll_38 : decode cX9_roll 38 = .ok (.aload_n 0, 1) := by decide +kernel
theorem dX9_roll_39 : decode cX9_roll 39 = .ok (.getfield 54, 3) := by decide +kernel
theorem dX9_roll_42 : decode cX9_roll 42 = .ok (.iload 4, 2) := by decide +kernel
theorem dX9_roll_44 : decode cX9_roll 44 = .ok (.iconst 2, 1) := by decide +kernel
theorem dX9_roll_45 : decode cX9_roll 45 = .ok (.iadd, 1) := by decide +kernel
theorem dX9_roll_46 : decode cX9_roll 46 = .ok (.iload 5, 2) := by decide +kernel
theorem dX9_roll_48 : decode cX9_roll 48 = .ok (.iadd, 1) := by decide +kernel
theorem dX9_roll_49 : decode cX9_roll 49 = .ok (.aload_n 0, 1) := by decide +kernel
theorem dX9_roll_50 : decode cX9_roll 50 = .ok (.getfield 48, 3) := by decide +kernel
theorem dX9_roll_53 : decode cX9_roll 53 = .ok (.iload 5, 2) := by decide +kernel
theorem dX9_roll_55 : decode cX9_roll 55 = .ok (.laload, 1) := by decide +kernel
theorem dX9_roll_56 : decode cX9_roll 56 = .ok (.lastore, 1) := by decide +kernel
theorem dX9_roll_57 : decode cX9_roll 57 = .ok (.iinc 5 1, 3) := by decide +kernel
theorem dX9_roll_60 : decode cX9_roll 60 = .ok (.goto (-29), 3) := by decide +kernel
theorem dX9_roll_63 : decode cX9_roll 63 = .ok (.aload_n 0, 1) := by decide +kernel
theorem dX9_roll_64 : decode cX9_roll 64 = .ok (.dup, 1) := by decide +kernel
theorem dX9_roll_65 : decode cX9_roll 65 = .ok (.getfield 207, 3) := by decide +kernel
theorem dX9_roll_68 : decode cX9_roll 68 = .ok (.iconst 1, 1) := by decide +kernel
theorem dX9_roll_69 : decode cX9_roll 69 = .ok (.iadd, 1) := by decide +kernel
theorem dX9_roll_70 : decode cX9_roll 70 = .ok (.putfield 207, 3) := by decide +kernel
theorem dX9_roll_73 : decode cX9_roll 73 = .ok (.return_, 1) := by decide +kernel
theorem dX9_takeX_0 : decode cX9_takeX 0 = .ok (.aload_n 0, 1) := by decide +kernel
theorem dX9_takeX_1 : decode cX9_takeX 1 = .ok (.lload_n 1, 1) := by decide +kernel
theorem dX9_takeX_2 : decode cX9_takeX 2 = .ok (.invokestatic 63, 3) := by decide +kernel
theorem dX9_takeX_5 : decode cX9_takeX 5 = .ok (.ldc2_w 67, 3) := by decide +kernel
theorem dX9_takeX_8 : decode cX9_takeX 8 = .ok (.lcmp, 1) := by decide +kernel
theorem dX9_takeX_9 : decode cX9_takeX 9 = .ok (.ifCond .le 7, 3) := by decide +kernel
theorem dX9_takeX_12 : decode cX9_takeX 12 = .ok (.iconst 1, 1) := by decide +kernel
theorem dX9_takeX_13 : decode cX9_takeX 13 = .ok (.goto 4, 3) := by decide +kernel
theorem dX9_takeX_16 : decode cX9_takeX 16 = .ok (.iconst 0, 1) := by decide +kernel
theorem dX9_takeX_17 : decode cX9_takeX 17 = .ok (.putfield 69, 3) := by decide +kernel
theorem dX9_takeX_20 : decode cX9_takeX 20 = .ok (.iconst 0, 1) := by decide +kernel
theorem dX9_takeX_21 : decode cX9_takeX 21 = .ok (.istore_n 3, 1) := by decide +kernel
theorem dX9_takeX_22 : decode cX9_takeX 22 = .ok (.iload_n 3, 1) := by decide +kernel
theorem dX9_takeX_23 : decode cX9_takeX 23 = .ok (.bipush 8, 2) := by decide +kernel
theorem dX9_takeX_25 : decode cX9_takeX 25 = .ok (.if_icmp .ge 101, 3) := by decide +kernel
theorem dX9_takeX_28 : decode cX9_takeX 28 = .ok (.aload_n 0, 1) := by decide +kernel
theorem dX9_takeX_29 : decode cX9_takeX 29 = .ok (.getfield 51, 3) := by decide +kernel
theorem dX9_takeX_32 : decode cX9_takeX 32 = .ok (.iload_n 3, 1) := by decide +kernel
theorem dX9_takeX_33 : decode cX9_takeX 33 = .ok (.aload_n 0, 1) := by decide +kernel
theorem dX9_takeX_34 : decode cX9_takeX 34 = .ok (.aload_n 0, 1) := by decide +kernel
theorem dX9_takeX_35 : decode cX9_takeX 35 = .ok (.aload_n 0, 1) := by decide +kernel
theorem dX9_takeX_36 : decode cX9_takeX 36 = .ok (.getfield 48, 3) := by decide +kernel
theorem dX9_takeX_39 : decode cX9_takeX 39 = .ok (.iload_n 3, 1) := by decide +kernel
theorem dX9_takeX_40 : decode cX9_takeX 40 = .ok (.laload, 1) := by decide +kernel
theorem dX9_takeX_41 : decode cX9_takeX 41 = .ok (.lload_n 1, 1) := by decide +kernel
theorem dX9_takeX_42 : decode cX9_takeX 42 = .ok (.invokevirtual 151, 3) := by decide +kernel
theorem dX9_takeX_45 : decode cX9_takeX 45 = .ok (.aload_n 0, 1) := by decide +kernel
theorem dX9_takeX_46 : decode cX9_takeX 46 = .ok (.getfield 48, 3) := by decide +kernel
theorem dX9_takeX_49 : decode cX9_takeX 49 = .ok (.iload_n 3, 1) := by decide +kernel
theorem dX9_takeX_50 : decode cX9_takeX 50 = .ok (.iconst 2, 1) := by decide +kernel
theorem dX9_takeX_51 : decode cX9_takeX 51 = .ok (.iadd, 1) := by decide +kernel
theorem dX9_takeX_52 : decode cX9_takeX 52 = .ok (.laload, 1) := by decide +kernel
theorem dX9_takeX_53 : decode cX9_takeX 53 = .ok (.invokevirtual 154, 3) := by decide +kernel
theorem dX9_takeX_56 : decode cX9_takeX 56 = .ok (.lastore, 1) := by decide +kernel
theorem dX9_takeX_57 : decode cX9_takeX 57 = .ok (.aload_n 0, 1) := by decide +kernel
theorem dX9_takeX_58 : decode cX9_takeX 58 = .ok (.getfield 51, 3) := by decide +kernel
theorem dX9_takeX_61 : decode cX9_takeX 61 = .ok (.iload_n 3, 1) := by decide +kernel
theorem dX9_takeX_62 : decode cX9_takeX 62 = .ok (.iconst 1, 1) := by decide +kernel
theorem dX9_takeX_63 : decode cX9_takeX 63 = .ok (.iadd, 1) := by decide +kernel
theorem dX9_takeX_64 : decode cX9_takeX 64 = .ok (.aload_n 0, 1) := by decide +kernel
theorem dX9_takeX_65 : decode cX9_takeX 65 = .ok (.aload_n 0, 1) := by decide +kernel
theorem dX9_takeX_66 : decode cX9_takeX 66 = .ok (.aload_n 0, 1) := by decide +kernel
theorem dX9_takeX_67 : decode cX9_takeX 67 = .ok (.getfield 48, 3) := by decide +kernel
theorem dX9_takeX_70 : decode cX9_takeX 70 = .ok (.iload_n 3, 1) := by decide +kernel
theorem dX9_takeX_71 : decode cX9_takeX 71 = .ok (.iconst 1, 1) := by decide +kernel
theorem dX9_takeX_72 : decode cX9_takeX 72 = .ok (.iadd, 1) := by decide +kernel
theorem dX9_takeX_73 : decode cX9_takeX 73 = .ok (.laload, 1) := by decide +kernel
theorem dX9_takeX_74 : decode cX9_takeX 74 = .ok (.lload_n 1, 1) := by decide +kernel
theorem dX9_takeX_75 : decode cX9_takeX 75 = .ok (.invokevirtual 151, 3) := by decide +kernel
theorem dX9_takeX_78 : decode cX9_takeX 78 = .ok (.aload_n 0, 1) := by decide +kernel
theorem dX9_takeX_79 : decode cX9_takeX 79 = .ok (.getfield 48, 3) := by decide +kernel
theorem dX9_takeX_82 : decode cX9_takeX 82 = .ok (.iload_n 3, 1) := by decide +kernel
theorem dX9_takeX_83 : decode cX9_takeX 83 = .ok (.iconst 3, 1) := by decide +kernel
theorem dX9_takeX_84 : decode cX9_takeX 84 = .ok (.iadd, 1) := by decide +kernel
theorem dX9_takeX_85 : decode cX9_takeX 85 = .ok (.laload, 1) := by decide +kernel
theorem dX9_takeX_86 : decode cX9_takeX 86 = .ok (.invokevirtual 154, 3) := by decide +kernel
theorem dX9_takeX_89 : decode cX9_takeX 89 = .ok (.lastore, 1) := by decide +kernel
theorem dX9_takeX_90 : decode cX9_takeX 90 = .ok (.aload_n 0, 1) := by decide +kernel
theorem dX9_takeX_91 : decode cX9_takeX 91 = .ok (.getfield 51, 3) := by decide +kernel
theorem dX9_takeX_94 : decode cX9_takeX 94 = .ok (.iload_n 3, 1) := by decide +kernel
theorem dX9_takeX_95 : decode cX9_takeX 95 = .ok (.iconst 2, 1) := by decide +kernel
theorem dX9_takeX_96 : decode cX9_takeX 96 = .ok (.iadd, 1) := by decide +kernel
theorem dX9_takeX_97 : decode cX9_takeX 97 = .ok (.aload_n 0, 1) := by decide +kernel
theorem dX9_takeX_98 : decode cX9_takeX 98 = .ok (.getfield 48, 3) := by decide +kernel
theorem dX9_takeX_101 : decode cX9_takeX 101 = .ok (.iload_n 3, 1) := by decide +kernel
theorem dX9_takeX_102 : decode cX9_takeX 102 = .ok (.laload, 1) := by decide +kernel
theorem dX9_takeX_103 : decode cX9_takeX 103 = .ok (.lastore, 1) := by decide +kernel
theorem dX9_takeX_104 : decode cX9_takeX 104 = .ok (.aload_n 0, 1) := by decide +kernel
theorem dX9_takeX_105 : decode cX9_takeX 105 = .ok (.getfield 51, 3) := by decide +kernel
theorem dX9_takeX_108 : decode cX9_takeX 108 = .ok (.iload_n 3, 1) := by decide +kernel
theorem dX9_takeX_109 : decode cX9_takeX 109 = .ok (.iconst 3, 1) := by decide +kernel
theorem dX9_takeX_110 : decode cX9_takeX 110 = .ok (.iadd, 1) := by decide +kernel
theorem dX9_takeX_111 : decode cX9_takeX 111 = .ok (.aload_n 0, 1) := by decide +kernel
theorem dX9_takeX_112 : decode cX9_takeX 112 = .ok (.getfield 48, 3) := by decide +kernel
theorem dX9_takeX_115 : decode cX9_takeX 115 = .ok (.iload_n 3, 1) := by decide +kernel
theorem dX9_takeX_116 : decode cX9_takeX 116 = .ok (.iconst 1, 1) := by decide +kernel
theorem dX9_takeX_117 : decode cX9_takeX 117 = .ok (.iadd, 1) := by decide +kernel
theorem dX9_takeX_118 : decode cX9_takeX 118 = .ok (.laload, 1) := by decide +kernel
theorem dX9_takeX_119 : decode cX9_takeX 119 = .ok (.lastore, 1) := by decide +kernel
theorem dX9_takeX_120 : decode cX9_takeX 120 = .ok (.iinc 3 4, 3) := by decide +kernel
theorem dX9_takeX_123 : decode cX9_takeX 123 = .ok (.goto (-101), 3) := by decide +kernel
theorem dX9_takeX_126 : decode cX9_takeX 126 = .ok (.aload_n 0, 1) := by decide +kernel
theorem dX9_takeX_127 : decode cX9_takeX 127 = .ok (.invokevirtual 210, 3) := by decide +kernel
theorem dX9_takeX_130 : decode cX9_takeX 130 = .ok (.ireturn, 1) := by decide +kernel
theorem dX9_takeY_0 : decode cX9_takeY 0 = .ok (.aload_n 0, 1) := by decide +kernel
theorem dX9_takeY_1 : decode cX9_takeY 1 = .ok (.lload_n 1, 1) := by decide +kernel
theorem dX9_takeY_2 : decode cX9_takeY 2 = .ok (.invokestatic 63, 3) := by decide +kernel
theorem dX9_takeY_5 : decode cX9_takeY 5 = .ok (.ldc2_w 67, 3) := by decide +kernel
theorem dX9_takeY_8 : decode cX9_takeY 8 = .ok (.lcmp, 1) := by decide +kernel
theorem dX9_takeY_9 : decode cX9_takeY 9 = .ok (.ifCond .le 7, 3) := by decide +kernel
theorem dX9_takeY_12 : decode cX9_takeY 12 = .ok (.iconst 1, 1) := by decide +kernel
theorem dX9_takeY_13 : decode cX9_takeY 13 = .ok (.goto 4, 3) := by decide +kernel
theorem dX9_takeY_16 : decode cX9_takeY 16 = .ok (.iconst 0, 1) := by decide +kernel
theorem dX9_takeY_17 : decode cX9_takeY 17 = .ok (.putfield 69, 3) := by decide +kernel
theorem dX9_takeY_20 : decode cX9_takeY 20 = .ok (.iconst 0, 1) := by decide +kernel
theorem dX9_takeY_21 : decode cX9_takeY 21 = .ok (.istore_n 3, 1) := by decide +kernel
theorem dX9_takeY_22 : decode cX9_takeY 22 = .ok (.iload_n 3, 1) := by decide +kernel
theorem dX9_takeY_23 : decode cX9_takeY 23 = .ok (.bipush 8, 2) := by decide +kernel
theorem dX9_takeY_25 : decode cX9_takeY 25 = .ok (.if_icmp .ge 101, 3) := by decide +kernel
theorem dX9_takeY_28 : decode cX9_takeY 28 = .ok (.aload_n 0, 1) := by decide +kernel
theorem dX9_takeY_29 : decode cX9_takeY 29 = .ok (.getfield 51, 3) := by decide +kernel
theorem dX9_takeY_32 : decode cX9_takeY 32 = .ok (.iload_n 3, 1) := by decide +kernel
theorem dX9_takeY_33 : decode cX9_takeY 33 = .ok (.aload_n 0, 1) := by decide +kernel
theorem dX9_takeY_34 : decode cX9_takeY 34 = .ok (.aload_n 0, 1) := by decide +kernel
theorem dX9_takeY_35 : decode cX9_takeY 35 = .ok (.aload_n 0, 1) := by decide +kernel
theorem dX9_takeY_36 : decode cX9_takeY 36 = .ok (.getfield 48, 3) := by decide +kernel
theorem dX9_takeY_39 : decode cX9_takeY 39 = .ok (.iload_n 3, 1) := by decide +kernel
theorem dX9_takeY_40 : decode cX9_takeY 40 = .ok (.laload, 1) := by decide +kernel
theorem dX9_takeY_41 : decode cX9_takeY 41 = .ok (.lload_n 1, 1) := by decide +kernel
theorem dX9_takeY_42 : decode cX9_takeY 42 = .ok (.invokevirtual 151, 3) := by decide +kernel
theorem dX9_takeY_45 : decode cX9_takeY 45 = .ok (.aload_n 0, 1) := by decide +kernel
theorem dX9_takeY_46 : decode cX9_takeY 46 = .ok (.getfield 48, 3) := by decide +kernel
theorem dX9_takeY_49 : decode cX9_takeY 49 = .ok (.iload_n 3, 1) := by decide +kernel
theorem dX9_takeY_50 : decode cX9_takeY 50 = .ok (.iconst 1, 1) := by decide +kernel
theorem dX9_takeY_51 : decode cX9_takeY 51 = .ok (.iadd, 1) := by decide +kernel
theorem dX9_takeY_52 : decode cX9_takeY 52 = .ok (.laload, 1) := by decide +kernel
theorem dX9_takeY_53 : decode cX9_takeY 53 = .ok (.invokevirtual 154, 3) := by decide +kernel
theorem dX9_takeY_56 : decode cX9_takeY 56 = .ok (.lastore, 1) := by decide +kernel
theorem dX9_takeY_57 : decode cX9_takeY 57 = .ok (.aload_n 0, 1) := by decide +kernel
theorem dX9_takeY_58 : decode cX9_takeY 58 = .ok (.getfield 51, 3) := by decide +kernel
theorem dX9_takeY_61 : decode cX9_takeY 61 = .ok (.iload_n 3, 1) := by decide +kernel
theorem dX9_takeY_62 : decode cX9_takeY 62 = .ok (.iconst 1, 1) := by decide +kernel
theorem dX9_takeY_63 : decode cX9_takeY 63 = .ok (.iadd, 1) := by decide +kernel
theorem dX9_takeY_64 : decode cX9_takeY 64 = .ok (.aload_n 0, 1) := by decide +kernel
theorem dX9_takeY_65 : decode cX9_takeY 65 = .ok (.getfield 48, 3) := by decide +kernel
theorem dX9_takeY_68 : decode cX9_takeY 68 = .ok (.iload_n 3, 1) := by decide +kernel
theorem dX9_takeY_69 : decode cX9_takeY 69 = .ok (.laload, 1) := by decide +kernel
theorem dX9_takeY_70 : decode cX9_takeY 70 = .ok (.lastore, 1) := by decide +kernel
theorem dX9_takeY_71 : decode cX9_takeY 71 = .ok (.aload_n 0, 1) := by decide +kernel
theorem dX9_takeY_72 : decode cX9_takeY 72 = .ok (.getfield 51, 3) := by decide +kernel
theorem dX9_takeY_75 : decode cX9_takeY 75 = .ok (.iload_n 3, 1) := by decide +kernel
theorem dX9_takeY_76 : decode cX9_takeY 76 = .ok (.iconst 2, 1) := by decide +kernel
theorem dX9_takeY_77 : decode cX9_takeY 77 = .ok (.iadd, 1) := by decide +kernel
theorem dX9_takeY_78 : decode cX9_takeY 78 = .ok (.aload_n 0, 1) := by decide +kernel
theorem dX9_takeY_79 : decode cX9_takeY 79 = .ok (.aload_n 0, 1) := by decide +kernel
theorem dX9_takeY_80 : decode cX9_takeY 80 = .ok (.aload_n 0, 1) := by decide +kernel
theorem dX9_takeY_81 : decode cX9_takeY 81 = .ok (.getfield 48, 3) := by decide +kernel
theorem dX9_takeY_84 : decode cX9_takeY 84 = .ok (.iload_n 3, 1) := by decide +kernel
theorem dX9_takeY_85 : decode cX9_takeY 85 = .ok (.iconst 2, 1) := by decide +kernel
theorem dX9_takeY_86 : decode cX9_takeY 86 = .ok (.iadd, 1) := by decide +kernel
theorem dX9_takeY_87 : decode cX9_takeY 87 = .ok (.laload, 1) := by decide +kernel
theorem dX9_takeY_88 : decode cX9_takeY 88 = .ok (.lload_n 1, 1) := by decide +kernel
theorem dX9_takeY_89 : decode cX9_takeY 89 = .ok (.invokevirtual 151, 3) := by decide +kernel
theorem dX9_takeY_92 : decode cX9_takeY 92 = .ok (.aload_n 0, 1) := by decide +kernel
theorem dX9_takeY_93 : decode cX9_takeY 93 = .ok (.getfield 48, 3) := by decide +kernel
theorem dX9_takeY_96 : decode cX9_takeY 96 = .ok (.iload_n 3, 1) := by decide +kernel
theorem dX9_takeY_97 : decode cX9_takeY 97 = .ok (.iconst 3, 1) := by decide +kernel
theorem dX9_takeY_98 : decode cX9_takeY 98 = .ok (.iadd, 1) := by decide +kernel
theorem dX9_takeY_99 : decode cX9_takeY 99 = .ok (.laload, 1) := by decide +kernel
theorem dX9_takeY_100 : decode cX9_takeY 100 = .ok (.invokevirtual 154, 3) := by decide +kernel
theorem dX9_takeY_103 : decode cX9_takeY 103 = .ok (.lastore, 1) := by decide +kernel
theorem dX9_takeY_104 : decode cX9_takeY 104 = .ok (.aload_n 0, 1) := by decide +kernel
theorem dX9_takeY_105 : decode cX9_takeY 105 = .ok (.getfield 51, 3) := by decide +kernel
theorem dX9_takeY_108 : decode cX9_takeY 108 = .ok (.iload_n 3, 1) := by decide +kernel
theorem dX9_takeY_109 : decode cX9_takeY 109 = .ok (.iconst 3, 1) := by decide +kernel
theorem dX9_takeY_110 : decode cX9_takeY 110 = .ok (.iadd, 1) := by decide +kernel
theorem dX9_takeY_111 : decode cX9_takeY 111 = .ok (.aload_n 0, 1) := by decide +kernel
theorem dX9_takeY_112 : decode cX9_takeY 112 = .ok (.getfield 48, 3) := by decide +kernel
theorem dX9_takeY_115 : decode cX9_takeY 115 = .ok (.iload_n 3, 1) := by decide +kernel
theorem dX9_takeY_116 : decode cX9_takeY 116 = .ok (.iconst 2, 1) := by decide +kernel
theorem dX9_takeY_117 : decode cX9_takeY 117 = .ok (.iadd, 1) := by decide +kernel
theorem dX9_takeY_118 : decode cX9_takeY 118 = .ok (.laload, 1) := by decide +kernel
theorem dX9_takeY_119 : decode cX9_takeY 119 = .ok (.lastore, 1) := by decide +kernel
theorem dX9_takeY_120 : decode cX9_takeY 120 = .ok (.iinc 3 4, 3) := by decide +kernel
theorem dX9_takeY_123 : decode cX9_takeY 123 = .ok (.goto (-101), 3) := by decide +kernel
theorem dX9_takeY_126 : decode cX9_takeY 126 = .ok (.aload_n 0, 1) := by decide +kernel
theorem dX9_takeY_127 : decode cX9_takeY 127 = .ok (.invokevirtual 210, 3) := by decide +kernel
theorem dX9_takeY_130 : decode cX9_takeY 130 = .ok (.ireturn, 1) := by decide +kernel
theorem dX9_make_0 : decode cX9_make 0 = .ok (.aload_n 0, 1) := by decide +kernel
theorem dX9_make_1 : decode cX9_make 1 = .ok (.iconst 3, 1) := by decide +kernel
theorem dX9_make_2 : decode cX9_make 2 = .ok (.invokevirtual 83, 3) := by decide +kernel
theorem dX9_make_5 : decode cX9_make 5 = .ok (.istore_n 3, 1) := by decide +kernel
theorem dX9_make_6 : decode cX9_make 6 = .ok (.aload_n 0, 1) := by decide +kernel
theorem dX9_make_7 : decode cX9_make 7 = .ok (.iconst 0, 1) := by decide +kernel
theorem dX9_make_8 : decode cX9_make 8 = .ok (.putfield 207, 3) := by decide +kernel
theorem dX9_make_11 : decode cX9_make 11 = .ok (.iconst 0, 1) := by decide +kernel
theorem dX9_make_12 : decode cX9_make 12 = .ok (.istore 4, 2) := by decide +kernel
theorem dX9_make_14 : decode cX9_make 14 = .ok (.iconst 0, 1) := by decide +kernel
theorem dX9_make_15 : decode cX9_make 15 = .ok (.istore 5, 2) := by decide +kernel
theorem dX9_make_17 : decode cX9_make 17 = .ok (.iconst 0, 1) := by decide +kernel
theorem dX9_make_18 : decode cX9_make 18 = .ok (.istore 6, 2) := by decide +kernel
theorem dX9_make_20 : decode cX9_make 20 = .ok (.iconst 0, 1) := by decide +kernel
theorem dX9_make_21 : decode cX9_make 21 = .ok (.istore 7, 2) := by decide +kernel
theorem dX9_make_23 : decode cX9_make 23 = .ok (.iconst 1, 1) := by decide +kernel
theorem dX9_make_24 : decode cX9_make 24 = .ok (.istore 8, 2) := by decide +kernel
theorem dX9_make_26 : decode cX9_make 26 = .ok (.iload 8, 2) := by decide +kernel
theorem dX9_make_28 : decode cX9_make 28 = .ok (.ifCond .eq 400, 3) := by decide +kernel
theorem dX9_make_31 : decode cX9_make 31 = .ok (.aload_n 0, 1) := by decide +kernel
theorem dX9_make_32 : decode cX9_make 32 = .ok (.getfield 17, 3) := by decide +kernel
theorem dX9_make_35 : decode cX9_make 35 = .ok (.iload_n 3, 1) := by decide +kernel
theorem dX9_make_36 : decode cX9_make 36 = .ok (.iaload, 1) := by decide +kernel
theorem dX9_make_37 : decode cX9_make 37 = .ok (.bipush 60, 2) := by decide +kernel
theorem dX9_make_39 : decode cX9_make 39 = .ok (.if_icmp .ge 389, 3) := by decide +kernel
theorem dX9_make_42 : decode cX9_make 42 = .ok (.iload 4, 2) := by decide +kernel
theorem dX9_make_44 : decode cX9_make 44 = .ok (.ifCond .le 12, 3) := by decide +kernel
theorem dX9_make_47 : decode cX9_make 47 = .ok (.iload 5, 2) := by decide +kernel
theorem dX9_make_49 : decode cX9_make 49 = .ok (.ifCond .le 7, 3) := by decide +kernel
theorem dX9_make_52 : decode cX9_make 52 = .ok (.iconst 1, 1) := by decide +kernel
theorem dX9_make_53 : decode cX9_make 53 = .ok (.goto 4, 3) := by decide +kernel
theorem dX9_make_56 : decode cX9_make 56 = .ok (.iconst 0, 1) := by decide +kernel
theorem dX9_make_57 : decode cX9_make 57 = .ok (.istore 9, 2) := by decide +kernel
theorem dX9_make_59 : decode cX9_make 59 = .ok (.iload 9, 2) := by decide +kernel
theorem dX9_make_61 : decode cX9_make 61 = .ok (.ifCond .eq 11, 3) := by decide +kernel
theorem dX9_make_64 : decode cX9_make 64 = .ok (.aload_n 0, 1) := by decide +kernel
theorem dX9_make_65 : decode cX9_make 65 = .ok (.iload 6, 2) := by decide +kernel
theorem dX9_make_67 : decode cX9_make 67 = .ok (.iload 7, 2) := by decide +kernel
theorem dX9_make_69 : decode cX9_make 69 = .ok (.invokevirtual 221, 3) := by decide +kernel
theorem dX9_make_72 : decode cX9_make 72 = .ok (.iload 9, 2) := by decide +kernel
theorem dX9_make_74 : decode cX9_make 74 = .ok (.ifCond .eq 16, 3) := by decide +kernel
theorem dX9_make_77 : decode cX9_make 77 = .ok (.aload_n 0, 1) := by decide +kernel
theorem dX9_make_78 : decode cX9_make 78 = .ok (.getfield 69, 3) := by decide +kernel
theorem dX9_make_81 : decode cX9_make 81 = .ok (.ifCond .eq 9, 3) := by decide +kernel
theorem dX9_make_84 : decode cX9_make 84 = .ok (.iconst 0, 1) := by decide +kernel
theorem dX9_make_85 : decode cX9_make 85 = .ok (.istore 8, 2) := by decide +kernel
theorem dX9_make_87 : decode cX9_make 87 = .ok (.goto 338, 3) := by decide +kernel
theorem dX9_make_90 : decode cX9_make 90 = .ok (.iload 9, 2) := by decide +kernel
theorem dX9_make_92 : decode cX9_make 92 = .ok (.ifCond .eq 51, 3) := by decide +kernel
theorem dX9_make_95 : decode cX9_make 95 = .ok (.iload 6, 2) := by decide +kernel
theorem dX9_make_97 : decode cX9_make 97 = .ok (.ifCond .eq 46, 3) := by decide +kernel
theorem dX9_make_100 : decode cX9_make 100 = .ok (.iload 7, 2) := by decide +kernel
theorem dX9_make_102 : decode cX9_make 102 = .ok (.ifCond .eq 41, 3) := by decide +kernel
theorem dX9_make_105 : decode cX9_make 105 = .ok (.aload_n 0, 1) := by decide +kernel
theorem dX9_make_106 : decode cX9_make 106 = .ok (.getfield 48, 3) := by decide +kernel
theorem dX9_make_109 : decode cX9_make 109 = .ok (.bipush 7, 2) := by decide +kernel
theorem dX9_make_111 : decode cX9_make 111 = .ok (.laload, 1) := by decide +kernel
theorem dX9_make_112 : decode cX9_make 112 = .ok (.lconst 0, 1) := by decide +kernel
theorem dX9_make_113 : decode cX9_make 113 = .ok (.lcmp, 1) := by decide +kernel
theorem dX9_make_114 : decode cX9_make 114 = .ok (.ifCond .ne 29, 3) := by decide +kernel
theorem dX9_make_117 : decode cX9_make 117 = .ok (.aload_n 0, 1) := by decide +kernel
theorem dX9_make_118 : decode cX9_make 118 = .ok (.getfield 20, 3) := by decide +kernel
theorem dX9_make_121 : decode cX9_make 121 = .ok (.iload_n 3, 1) := by decide +kernel
theorem dX9_make_122 : decode cX9_make 122 = .ok (.aload_n 0, 1) := by decide +kernel
theorem dX9_make_123 : decode cX9_make 123 = .ok (.getfield 17, 3) := by decide +kernel
theorem dX9_make_126 : decode cX9_make 126 = .ok (.iload_n 3, 1) := by decide +kernel
theorem dX9_make_127 : decode cX9_make 127 = .ok (.iaload, 1) := by decide +kernel
theorem dX9_make_128 : decode cX9_make 128 = .ok (.ifCond .le 7, 3) := by decide +kernel
theorem dX9_make_131 : decode cX9_make 131 = .ok (.iconst 1, 1) := by decide +kernel
theorem dX9_make_132 : decode cX9_make 132 = .ok (.goto 4, 3) := by decide +kernel
theorem dX9_make_135 : decode cX9_make 135 = .ok (.iconst 0, 1) := by decide +kernel
theorem dX9_make_136 : decode cX9_make 136 = .ok (.bastore, 1) := by decide +kernel
theorem dX9_make_137 : decode cX9_make 137 = .ok (.iconst 0, 1) := by decide +kernel
theorem dX9_make_138 : decode cX9_make 138 = .ok (.istore 8, 2) := by decide +kernel
theorem dX9_make_140 : decode cX9_make 140 = .ok (.goto 285, 3) := by decide +kernel
theorem dX9_make_143 : decode cX9_make 143 = .ok (.iload 9, 2) := by decide +kernel
theorem dX9_make_145 : decode cX9_make 145 = .ok (.ifCond .eq 57, 3) := by decide +kernel
theorem dX9_make_148 : decode cX9_make 148 = .ok (.aload_n 0, 1) := by decide +kernel
theorem dX9_make_149 : decode cX9_make 149 = .ok (.invokevirtual 225, 3) := by decide +kernel
theorem dX9_make_152 : decode cX9_make 152 = .ok (.ifCond .eq 50, 3) := by decide +kernel
theorem dX9_make_155 : decode cX9_make 155 = .ok (.aload_n 0, 1) := by decide +kernel
theorem dX9_make_156 : decode cX9_make 156 = .ok (.getfield 57, 3) := by decide +kernel
theorem dX9_make_159 : decode cX9_make 159 = .ok (.iconst 0, 1) := by decide +kernel
theorem dX9_make_160 : decode cX9_make 160 = .ok (.laload, 1) := by decide +kernel
theorem dX9_make_161 : decode cX9_make 161 = .ok (.aload_n 0, 1) := by decide +kernel
theorem dX9_make_162 : decode cX9_make 162 = .ok (.getfield 60, 3) := by decide +kernel
theorem dX9_make_165 : decode cX9_make 165 = .ok (.iconst 0, 1) := by decide +kernel
theorem dX9_make_166 : decode cX9_make 166 = .ok (.laload, 1) := by decide +kernel
theorem dX9_make_167 : decode cX9_make 167 = .ok (.invokestatic 91, 3) := by decide +kernel
theorem dX9_make_170 : decode cX9_make 170 = .ok (.lstore 10, 2) := by decide +kernel
theorem dX9_make_172 : decode cX9_make 172 = .ok (.aload_n 0, 1) := by decide +kernel
theorem dX9_make_173 : decode cX9_make 173 = .ok (.lload 10, 2) := by decide +kernel
theorem dX9_make_175 : decode cX9_make 175 = .ok (.invokevirtual 228, 3) := by decide +kernel
theorem dX9_make_178 : decode cX9_make 178 = .ok (.istore 8, 2) := by decide +kernel
theorem dX9_make_180 : decode cX9_make 180 = .ok (.iload 8, 2) := by decide +kernel
theorem dX9_make_182 : decode cX9_make 182 = .ok (.ifCond .eq 17, 3) := by decide +kernel
theorem dX9_make_185 : decode cX9_make 185 = .ok (.aload_n 0, 1) := by decide +kernel
theorem dX9_make_186 : decode cX9_make 186 = .ok (.iload_n 3, 1) := by decide +kernel
theorem dX9_make_187 : decode cX9_make 187 = .ok (.lload 10, 2) := by decide +kernel
theorem dX9_make_189 : decode cX9_make 189 = .ok (.invokevirtual 94, 3) := by decide +kernel
theorem dX9_make_192 : decode cX9_make 192 = .ok (.aload_n 0, 1) := by decide +kernel
theorem dX9_make_193 : decode cX9_make 193 = .ok (.iconst 4, 1) := by decide +kernel
theorem dX9_make_194 : decode cX9_make 194 = .ok (.lload 10, 2) := by decide +kernel
theorem dX9_make_196 : decode cX9_make 196 = .ok (.invokevirtual 232, 3) := by decide +kernel
theorem dX9_make_199 : decode cX9_make 199 = .ok (.goto 226, 3) := by decide +kernel
theorem dX9_make_202 : decode cX9_make 202 = .ok (.iload 6, 2) := by decide +kernel
theorem dX9_make_204 : decode cX9_make 204 = .ok (.ifCond .ne 114, 3) := by decide +kernel
theorem dX9_make_207 : decode cX9_make 207 = .ok (.iload 7, 2) := by decide +kernel
theorem dX9_make_209 : decode cX9_make 209 = .ok (.ifCond .ne 10, 3) := by decide +kernel
theorem dX9_make_212 : decode cX9_make 212 = .ok (.iload 4, 2) := by decide +kernel
theorem dX9_make_214 : decode cX9_make 214 = .ok (.iload 5, 2) := by decide +kernel
theorem dX9_make_216 : decode cX9_make 216 = .ok (.if_icmp .gt 102, 3) := by decide +kernel
theorem dX9_make_219 : decode cX9_make 219 = .ok (.iload 4, 2) := by decide +kernel
theorem dX9_make_221 : decode cX9_make 221 = .ok (.aload_n 0, 1) := by decide +kernel
theorem dX9_make_222 : decode cX9_make 222 = .ok (.getfield 17, 3) := by decide +kernel
theorem dX9_make_225 : decode cX9_make 225 = .ok (.iload_n 1, 1) := by decide +kernel
theorem dX9_make_226 : decode cX9_make 226 = .ok (.iaload, 1) := by decide +kernel
theorem dX9_make_227 : decode cX9_make 227 = .ok (.if_icmp .ge 85, 3) := by decide +kernel
theorem dX9_make_230 : decode cX9_make 230 = .ok (.aload_n 0, 1) := by decide +kernel
theorem dX9_make_231 : decode cX9_make 231 = .ok (.getfield 23, 3) := by decide +kernel
theorem dX9_make_234 : decode cX9_make 234 = .ok (.bipush 60, 2) := by decide +kernel
theorem dX9_make_236 : decode cX9_make 236 = .ok (.iload_n 1, 1) := by decide +kernel
theorem dX9_make_237 : decode cX9_make 237 = .ok (.imul, 1) := by decide +kernel
theorem dX9_make_238 : decode cX9_make 238 = .ok (.iload 4, 2) := by decide +kernel
theorem dX9_make_240 : decode cX9_make 240 = .ok (.iadd, 1) := by decide +kernel
theorem dX9_make_241 : decode cX9_make 241 = .ok (.laload, 1) := by decide +kernel
theorem dX9_make_242 : decode cX9_make 242 = .ok (.lstore 10, 2) := by decide +kernel
theorem dX9_make_244 : decode cX9_make 244 = .ok (.aload_n 0, 1) := by decide +kernel
theorem dX9_make_245 : decode cX9_make 245 = .ok (.lload 10, 2) := by decide +kernel
theorem dX9_make_247 : decode cX9_make 247 = .ok (.invokevirtual 235, 3) := by decide +kernel
theorem dX9_make_250 : decode cX9_make 250 = .ok (.istore 8, 2) := by decide +kernel
theorem dX9_make_252 : decode cX9_make 252 = .ok (.iload 8, 2) := by decide +kernel
theorem dX9_make_254 : decode cX9_make 254 = .ok (.ifCond .eq 40, 3) := by decide +kernel
theorem dX9_make_257 : decode cX9_make 257 = .ok (.iinc 4 1, 3) := by decide +kernel
theorem dX9_make_260 : decode cX9_make 260 = .ok (.aload_n 0, 1) := by decide +kernel
theorem dX9_make_261 : decode cX9_make 261 = .ok (.iconst 0, 1) := by decide +kernel
theorem dX9_make_262 : decode cX9_make 262 = .ok (.lload 10, 2) := by decide +kernel
theorem dX9_make_264 : decode cX9_make 264 = .ok (.invokevirtual 232, 3) := by decide +kernel
theorem dX9_make_267 : decode cX9_make 267 = .ok (.aload_n 0, 1) := by decide +kernel
theorem dX9_make_268 : decode cX9_make 268 = .ok (.getfield 20, 3) := by decide +kernel
theorem dX9_make_271 : decode cX9_make 271 = .ok (.iload_n 1, 1) := by decide +kernel
theorem dX9_make_272 : decode cX9_make 272 = .ok (.baload, 1) := by decide +kernel
theorem dX9_make_273 : decode cX9_make 273 = .ok (.ifCond .eq 18, 3) := by decide +kernel
theorem dX9_make_276 : decode cX9_make 276 = .ok (.iload 4, 2) := by decide +kernel
theorem dX9_make_278 : decode cX9_make 278 = .ok (.aload_n 0, 1) := by decide +kernel
theorem dX9_make_279 : decode cX9_make 279 = .ok (.getfield 17, 3) := by decide +kernel
theorem dX9_make_282 : decode cX9_make 282 = .ok (.iload_n 1, 1) := by decide +kernel
theorem dX9_make_283 : decode cX9_make 283 = .ok (.iaload, 1) := by decide +kernel
theorem dX9_make_284 : decode cX9_make 284 = .ok (.if_icmp .ne 7, 3) := by decide +kernel
theorem dX9_make_287 : decode cX9_make 287 = .ok (.iconst 1, 1) := by decide +kernel
theorem dX9_make_288 : decode cX9_make 288 = .ok (.goto 4, 3) := by decide +kernel
theorem dX9_make_291 : decode cX9_make 291 = .ok (.iconst 0, 1) := by decide +kernel
theorem dX9_make_292 : decode cX9_make 292 = .ok (.istore 6, 2) := by decide +kernel
theorem dX9_make_294 : decode cX9_make 294 = .ok (.iload 6, 2) := by decide +kernel
theorem dX9_make_296 : decode cX9_make 296 = .ok (.ifCond .eq 13, 3) := by decide +kernel
theorem dX9_make_299 : decode cX9_make 299 = .ok (.aload_n 0, 1) := by decide +kernel
theorem dX9_make_300 : decode cX9_make 300 = .ok (.invokevirtual 238, 3) := by decide +kernel
theorem dX9_make_303 : decode cX9_make 303 = .ok (.aload_n 0, 1) := by decide +kernel
theorem dX9_make_304 : decode cX9_make 304 = .ok (.iconst 2, 1) := by decide +kernel
theorem dX9_make_305 : decode cX9_make 305 = .ok (.lconst 0, 1) := by decide +kernel
theorem dX9_make_306 : decode cX9_make 306 = .ok (.invokevirtual 232, 3) := by decide +kernel
theorem dX9_make_309 : decode cX9_make 309 = .ok (.goto 116, 3) := by decide +kernel
theorem dX9_make_312 : decode cX9_make 312 = .ok (.iconst 0, 1) := by decide +kernel
theorem dX9_make_313 : decode cX9_make 313 = .ok (.istore 8, 2) := by decide +kernel
theorem dX9_make_315 : decode cX9_make 315 = .ok (.goto 110, 3) := by decide +kernel
theorem dX9_make_318 : decode cX9_make 318 = .ok (.iload 7, 2) := by decide +kernel
theorem dX9_make_320 : decode cX9_make 320 = .ok (.ifCond .eq 9, 3) := by decide +kernel
theorem dX9_make_323 : decode cX9_make 323 = .ok (.iconst 0, 1) := by decide +kernel
theorem dX9_make_324 : decode cX9_make 324 = .ok (.istore 8, 2) := by decide +kernel
theorem dX9_make_326 : decode cX9_make 326 = .ok (.goto 99, 3) := by decide +kernel
theorem dX9_make_329 : decode cX9_make 329 = .ok (.iload 5, 2) := by decide +kernel
theorem dX9_make_331 : decode cX9_make 331 = .ok (.aload_n 0, 1) := by decide +kernel
theorem dX9_make_332 : decode cX9_make 332 = .ok (.getfield 17, 3) := by decide +kernel
theorem dX9_make_335 : decode cX9_make 335 = .ok (.iload_n 2, 1) := by decide +kernel
theorem dX9_make_336 : decode cX9_make 336 = .ok (.iaload, 1) := by decide +kernel
theorem dX9_make_337 : decode cX9_make 337 = .ok (.if_icmp .ge 85, 3) := by decide +kernel
theorem dX9_make_340 : decode cX9_make 340 = .ok (.aload_n 0, 1) := by decide +kernel
theorem dX9_make_341 : decode cX9_make 341 = .ok (.getfield 23, 3) := by decide +kernel
theorem dX9_make_344 : decode cX9_make 344 = .ok (.bipush 60, 2) := by decide +kernel
theorem dX9_make_346 : decode cX9_make 346 = .ok (.iload_n 2, 1) := by decide +kernel
theorem dX9_make_347 : decode cX9_make 347 = .ok (.imul, 1) := by decide +kernel
theorem dX9_make_348 : decode cX9_make 348 = .ok (.iload 5, 2) := by decide +kernel
theorem dX9_make_350 : decode cX9_make 350 = .ok (.iadd, 1) := by decide +kernel
theorem dX9_make_351 : decode cX9_make 351 = .ok (.laload, 1) := by decide +kernel
theorem dX9_make_352 : decode cX9_make 352 = .ok (.lstore 10, 2) := by decide +kernel
theorem dX9_make_354 : decode cX9_make 354 = .ok (.aload_n 0, 1) := by decide +kernel
theorem dX9_make_355 : decode cX9_make 355 = .ok (.lload 10, 2) := by decide +kernel
theorem dX9_make_357 : decode cX9_make 357 = .ok (.invokevirtual 241, 3) := by decide +kernel
theorem dX9_make_360 : decode cX9_make 360 = .ok (.istore 8, 2) := by decide +kernel
theorem dX9_make_362 : decode cX9_make 362 = .ok (.iload 8, 2) := by decide +kernel
theorem dX9_make_364 : decode cX9_make 364 = .ok (.ifCond .eq 40, 3) := by decide +kernel
theorem dX9_make_367 : decode cX9_make 367 = .ok (.iinc 5 1, 3) := by decide +kernel
theorem dX9_make_370 : decode cX9_make 370 = .ok (.aload_n 0, 1) := by decide +kernel
theorem dX9_make_371 : decode cX9_make 371 = .ok (.iconst 1, 1) := by decide +kernel
theorem dX9_make_372 : decode cX9_make 372 = .ok (.lload 10, 2) := by decide +kernel
theorem dX9_make_374 : decode cX9_make 374 = .ok (.invokevirtual 232, 3) := by decide +kernel
theorem dX9_make_377 : decode cX9_make 377 = .ok (.aload_n 0, 1) := by decide +kernel
theorem dX9_make_378 : decode cX9_make 378 = .ok (.getfield 20, 3) := by decide +kernel
theorem dX9_make_381 : decode cX9_make 381 = .ok (.iload_n 2, 1) := by decide +kernel
theorem dX9_make_382 : decode cX9_make 382 = .ok (.baload, 1) := by decide +kernel
theorem dX9_make_383 : decode cX9_make 383 = .ok (.ifCond .eq 18, 3) := by decide +kernel
theorem dX9_make_386 : decode cX9_make 386 = .ok (.iload 5, 2) := by decide +kernel
theorem dX9_make_388 : decode cX9_make 388 = .ok (.aload_n 0, 1) := by decide +kernel
theorem dX9_make_389 : decode cX9_make 389 = .ok (.getfield 17, 3) := by decide +kernel
theorem dX9_make_392 : decode cX9_make 392 = .ok (.iload_n 2, 1) := by decide +kernel
theorem dX9_make_393 : decode cX9_make 393 = .ok (.iaload, 1) := by decide +kernel
theorem dX9_make_394 : decode cX9_make 394 = .ok (.if_icmp .ne 7, 3) := by decide +kernel
theorem dX9_make_397 : decode cX9_make 397 = .ok (.iconst 1, 1) := by decide +kernel
theorem dX9_make_398 : decode cX9_make 398 = .ok (.goto 4, 3) := by decide +kernel
theorem dX9_make_401 : decode cX9_make 401 = .ok (.iconst 0, 1) := by decide +kernel
theorem dX9_make_402 : decode cX9_make 402 = .ok (.istore 7, 2) := by decide +kernel
theorem dX9_make_404 : decode cX9_make 404 = .ok (.iload 7, 2) := by decide +kernel
theorem dX9_make_406 : decode cX9_make 406 = .ok (.ifCond .eq 13, 3) := by decide +kernel
theorem dX9_make_409 : decode cX9_make 409 = .ok (.aload_n 0, 1) := by decide +kernel
theorem dX9_make_410 : decode cX9_make 410 = .ok (.invokevirtual 244, 3) := by decide +kernel
theorem dX9_make_413 : decode cX9_make 413 = .ok (.aload_n 0, 1) := by decide +kernel
theorem dX9_make_414 : decode cX9_make 414 = .ok (.iconst 3, 1) := by decide +kernel
theorem dX9_make_415 : decode cX9_make 415 = .ok (.lconst 0, 1) := by decide +kernel
theorem dX9_make_416 : decode cX9_make 416 = .ok (.invokevirtual 232, 3) := by decide +kernel
theorem dX9_make_419 : decode cX9_make 419 = .ok (.goto 6, 3) := by decide +kernel
theorem dX9_make_422 : decode cX9_make 422 = .ok (.iconst 0, 1) := by decide +kernel
theorem dX9_make_423 : decode cX9_make 423 = .ok (.istore 8, 2) := by decide +kernel
theorem dX9_make_425 : decode cX9_make 425 = .ok (.goto (-399), 3) := by decide +kernel
theorem dX9_make_428 : decode cX9_make 428 = .ok (.aload_n 0, 1) := by decide +kernel
theorem dX9_make_429 : decode cX9_make 429 = .ok (.getfield 27, 3) := by decide +kernel
theorem dX9_make_432 : decode cX9_make 432 = .ok (.iload_n 3, 1) := by decide +kernel
theorem dX9_make_433 : decode cX9_make 433 = .ok (.iload 4, 2) := by decide +kernel
theorem dX9_make_435 : decode cX9_make 435 = .ok (.iload 5, 2) := by decide +kernel
theorem dX9_make_437 : decode cX9_make 437 = .ok (.iadd, 1) := by decide +kernel
theorem dX9_make_438 : decode cX9_make 438 = .ok (.iastore, 1) := by decide +kernel
theorem dX9_make_439 : decode cX9_make 439 = .ok (.iload_n 3, 1) := by decide +kernel
theorem dX9_make_440 : decode cX9_make 440 = .ok (.i2l, 1) := by decide +kernel
theorem dX9_make_441 : decode cX9_make 441 = .ok (.lreturn, 1) := by decide +kernel
theorem dX9_beginNear_0 : decode cX9_beginNear 0 = .ok (.aload_n 0, 1) := by decide +kernel
theorem dX9_beginNear_1 : decode cX9_beginNear 1 = .ok (.iconst 0, 1) := by decide +kernel
theorem dX9_beginNear_2 : decode cX9_beginNear 2 = .ok (.putfield 69, 3) := by decide +kernel
theorem dX9_beginNear_5 : decode cX9_beginNear 5 = .ok (.aload_n 0, 1) := by decide +kernel
theorem dX9_beginNear_6 : decode cX9_beginNear 6 = .ok (.lconst 1, 1) := by decide +kernel
theorem dX9_beginNear_7 : decode cX9_beginNear 7 = .ok (.putfield 259, 3) := by decide +kernel
theorem dX9_beginNear_10 : decode cX9_beginNear 10 = .ok (.aload_n 0, 1) := by decide +kernel
theorem dX9_beginNear_11 : decode cX9_beginNear 11 = .ok (.lconst 0, 1) := by decide +kernel
theorem dX9_beginNear_12 : decode cX9_beginNear 12 = .ok (.putfield 262, 3) := by decide +kernel
theorem dX9_beginNear_15 : decode cX9_beginNear 15 = .ok (.aload_n 0, 1) := by decide +kernel
theorem dX9_beginNear_16 : decode cX9_beginNear 16 = .ok (.lconst 0, 1) := by decide +kernel
theorem dX9_beginNear_17 : decode cX9_beginNear 17 = .ok (.putfield 265, 3) := by decide +kernel
theorem dX9_beginNear_20 : decode cX9_beginNear 20 = .ok (.aload_n 0, 1) := by decide +kernel
theorem dX9_beginNear_21 : decode cX9_beginNear 21 = .ok (.lconst 1, 1) := by decide +kernel
theorem dX9_beginNear_22 : decode cX9_beginNear 22 = .ok (.putfield 268, 3) := by decide +kernel
theorem dX9_beginNear_25 : decode cX9_beginNear 25 = .ok (.return_, 1) := by decide +kernel
theorem dX9_goNear_0 : decode cX9_goNear 0 = .ok (.aload_n 0, 1) := by decide +kernel
theorem dX9_goNear_1 : decode cX9_goNear 1 = .ok (.aload_n 0, 1) := by decide +kernel
theorem dX9_goNear_2 : decode cX9_goNear 2 = .ok (.getfield 265, 3) := by decide +kernel
theorem dX9_goNear_5 : decode cX9_goNear 5 = .ok (.putfield 271, 3) := by decide +kernel
theorem dX9_goNear_8 : decode cX9_goNear 8 = .ok (.aload_n 0, 1) := by decide +kernel
theorem dX9_goNear_9 : decode cX9_goNear 9 = .ok (.aload_n 0, 1) := by decide +kernel
theorem dX9_goNear_10 : decode cX9_goNear 10 = .ok (.getfield 268, 3) := by decide +kernel
theorem dX9_goNear_13 : decode cX9_goNear 13 = .ok (.putfield 274, 3) := by decide +kernel
theorem dX9_goNear_16 : decode cX9_goNear 16 = .ok (.aload_n 0, 1) := by decide +kernel
theorem dX9_goNear_17 : decode cX9_goNear 17 = .ok (.aload_n 0, 1) := by decide +kernel
theorem dX9_goNear_18 : decode cX9_goNear 18 = .ok (.lload_n 1, 1) := by decide +kernel
theorem dX9_goNear_19 : decode cX9_goNear 19 = .ok (.aload_n 0, 1) := by decide +kernel
theorem dX9_goNear_20 : decode cX9_goNear 20 = .ok (.getfield 259, 3) := by decide +kernel
theorem dX9_goNear_23 : decode cX9_goNear 23 = .ok (.invokevirtual 151, 3) := by decide +kernel
theorem dX9_goNear_26 : decode cX9_goNear 26 = .ok (.aload_n 0, 1) := by decide +kernel
theorem dX9_goNear_27 : decode cX9_goNear 27 = .ok (.getfield 265, 3) := by decide +kernel
theorem dX9_goNear_30 : decode cX9_goNear 30 = .ok (.invokevirtual 154, 3) := by decide +kernel
theorem dX9_goNear_33 : decode cX9_goNear 33 = .ok (.lstore_n 3, 1) := by decide +kernel
theorem dX9_goNear_34 : decode cX9_goNear 34 = .ok (.aload_n 0, 1) := by decide +kernel
theorem dX9_goNear_35 : decode cX9_goNear 35 = .ok (.aload_n 0, 1) := by decide +kernel
theorem dX9_goNear_36 : decode cX9_goNear 36 = .ok (.lload_n 1, 1) := by decide +kernel
theorem dX9_goNear_37 : decode cX9_goNear 37 = .ok (.aload_n 0, 1) := by decide +kernel
theorem dX9_goNear_38 : decode cX9_goNear 38 = .ok (.getfield 262, 3) := by decide +kernel
theorem dX9_goNear_41 : decode cX9_goNear 41 = .ok (.invokevirtual 151, 3) := by decide +kernel
theorem dX9_goNear_44 : decode cX9_goNear 44 = .ok (.aload_n 0, 1) := by decide +kernel
theorem dX9_goNear_45 : decode cX9_goNear 45 = .ok (.getfield 268, 3) := by decide +kernel
theorem dX9_goNear_48 : decode cX9_goNear 48 = .ok (.invokevirtual 154, 3) := by decide +kernel
theorem dX9_goNear_51 : decode cX9_goNear 51 = .ok (.lstore 5, 2) := by decide +kernel
theorem dX9_goNear_53 : decode cX9_goNear 53 = .ok (.aload_n 0, 1) := by decide +kernel
theorem dX9_goNear_54 : decode cX9_goNear 54 = .ok (.aload_n 0, 1) := by decide +kernel
theorem dX9_goNear_55 : decode cX9_goNear 55 = .ok (.getfield 259, 3) := by decide +kernel
theorem dX9_goNear_58 : decode cX9_goNear 58 = .ok (.putfield 265, 3) := by decide +kernel
theorem dX9_goNear_61 : decode cX9_goNear 61 = .ok (.aload_n 0, 1) := by decide +kernel
theorem dX9_goNear_62 : decode cX9_goNear 62 = .ok (.aload_n 0, 1) := by decide +kernel
theorem dX9_goNear_63 : decode cX9_goNear 63 = .ok (.getfield 262, 3) := by decide +kernel
theorem dX9_goNear_66 : decode cX9_goNear 66 = .ok (.putfield 268, 3) := by decide +kernel
theorem dX9_goNear_69 : decode cX9_goNear 69 = .ok (.aload_n 0, 1) := by decide +kernel
theorem dX9_goNear_70 : decode cX9_goNear 70 = .ok (.lload_n 3, 1) := by decide +kernel
theorem dX9_goNear_71 : decode cX9_goNear 71 = .ok (.putfield 259, 3) := by decide +kernel
theorem dX9_goNear_74 : decode cX9_goNear 74 = .ok (.aload_n 0, 1) := by decide +kernel
theorem dX9_goNear_75 : decode cX9_goNear 75 = .ok (.lload 5, 2) := by decide +kernel
theorem dX9_goNear_77 : decode cX9_goNear 77 = .ok (.putfield 262, 3) := by decide +kernel
theorem dX9_goNear_80 : decode cX9_goNear 80 = .ok (.return_, 1) := by decide +kernel
theorem dX9_against_0 : decode cX9_against 0 = .ok (.lload_n 2, 1) := by decide +kernel
theorem dX9_against_1 : decode cX9_against 1 = .ok (.lstore 6, 2) := by decide +kernel
theorem dX9_against_3 : decode cX9_against 3 = .ok (.lload 4, 2) := by decide +kernel
theorem dX9_against_5 : decode cX9_against 5 = .ok (.lstore 8, 2) := by decide +kernel
theorem dX9_against_7 : decode cX9_against 7 = .ok (.iconst 0, 1) := by decide +kernel
theorem dX9_against_8 : decode cX9_against 8 = .ok (.istore 10, 2) := by decide +kernel
theorem dX9_against_10 : decode cX9_against 10 = .ok (.iload 10, 2) := by decide +kernel
theorem dX9_against_12 : decode cX9_against 12 = .ok (.bipush 60, 2) := by decide +kernel
theorem dX9_against_14 : decode cX9_against 14 = .ok (.if_icmp .gt 164, 3) := by decide +kernel
theorem dX9_against_17 : decode cX9_against 17 = .ok (.iload 10, 2) := by decide +kernel
theorem dX9_against_19 : decode cX9_against 19 = .ok (.aload_n 0, 1) := by decide +kernel
theorem dX9_against_20 : decode cX9_against 20 = .ok (.getfield 17, 3) := by decide +kernel
theorem dX9_against_23 : decode cX9_against 23 = .ok (.iload_n 1, 1) := by decide +kernel
theorem dX9_against_24 : decode cX9_against 24 = .ok (.iaload, 1) := by decide +kernel
theorem dX9_against_25 : decode cX9_against 25 = .ok (.if_icmp .ge 7, 3) := by decide +kernel
theorem dX9_against_28 : decode cX9_against 28 = .ok (.iconst 1, 1) := by decide +kernel
theorem dX9_against_29 : decode cX9_against 29 = .ok (.goto 4, 3) := by decide +kernel
theorem dX9_against_32 : decode cX9_against 32 = .ok (.iconst 0, 1) := by decide +kernel
theorem dX9_against_33 : decode cX9_against 33 = .ok (.istore 11, 2) := by decide +kernel
theorem dX9_against_35 : decode cX9_against 35 = .ok (.iload 11, 2) := by decide +kernel
theorem dX9_against_37 : decode cX9_against 37 = .ok (.ifCond .ne 14, 3) := by decide +kernel
theorem dX9_against_40 : decode cX9_against 40 = .ok (.aload_n 0, 1) := by decide +kernel
theorem dX9_against_41 : decode cX9_against 41 = .ok (.getfield 20, 3) := by decide +kernel
theorem dX9_against_44 : decode cX9_against 44 = .ok (.iload_n 1, 1) := by decide +kernel
theorem dX9_against_45 : decode cX9_against 45 = .ok (.baload, 1) := by decide +kernel
theorem dX9_against_46 : decode cX9_against 46 = .ok (.ifCond .ne 5, 3) := by decide +kernel
theorem dX9_against_49 : decode cX9_against 49 = .ok (.iconst 2, 1) := by decide +kernel
theorem dX9_against_50 : decode cX9_against 50 = .ok (.ireturn, 1) := by decide +kernel
theorem dX9_against_51 : decode cX9_against 51 = .ok (.iload 11, 2) := by decide +kernel
theorem dX9_against_53 : decode cX9_against 53 = .ok (.ifCond .ne 12, 3) := by decide +kernel
theorem dX9_against_56 : decode cX9_against 56 = .ok (.lload 8, 2) := by decide +kernel
theorem dX9_against_58 : decode cX9_against 58 = .ok (.lconst 0, 1) := by decide +kernel
theorem dX9_against_59 : decode cX9_against 59 = .ok (.lcmp, 1) := by decide +kernel
theorem dX9_against_60 : decode cX9_against 60 = .ok (.ifCond .ne 5, 3) := by decide +kernel
theorem dX9_against_63 : decode cX9_against 63 = .ok (.iconst 0, 1) := by decide +kernel
theorem dX9_against_64 : decode cX9_against 64 = .ok (.ireturn, 1) := by decide +kernel
theorem dX9_against_65 : decode cX9_against 65 = .ok (.iload 11, 2) := by decide +kernel
theorem dX9_against_67 : decode cX9_against 67 = .ok (.ifCond .eq 18, 3) := by decide +kernel
theorem dX9_against_70 : decode cX9_against 70 = .ok (.aload_n 0, 1) := by decide +kernel
theorem dX9_against_71 : decode cX9_against 71 = .ok (.getfield 23, 3) := by decide +kernel
theorem dX9_against_74 : decode cX9_against 74 = .ok (.bipush 60, 2) := by decide +kernel
theorem dX9_against_76 : decode cX9_against 76 = .ok (.iload_n 1, 1) := by decide +kernel
theorem dX9_against_77 : decode cX9_against 77 = .ok (.imul, 1) := by decide +kernel
theorem dX9_against_78 : decode cX9_against 78 = .ok (.iload 10, 2) := by decide +kernel
theorem dX9_against_80 : decode cX9_against 80 = .ok (.iadd, 1) := by decide +kernel
theorem dX9_against_81 : decode cX9_against 81 = .ok (.laload, 1) := by decide +kernel
theorem dX9_against_82 : decode cX9_against 82 = .ok (.goto 6, 3) := by decide +kernel
theorem dX9_against_85 : decode cX9_against 85 = .ok (.ldc2_w 257, 3) := by decide +kernel
theorem dX9_against_88 : decode cX9_against 88 = .ok (.lstore 12, 2) := by decide +kernel
theorem dX9_against_90 : decode cX9_against 90 = .ok (.lload 8, 2) := by decide +kernel
theorem dX9_against_92 : decode cX9_against 92 = .ok (.lconst 0, 1) := by decide +kernel
theorem dX9_against_93 : decode cX9_against 93 = .ok (.lcmp, 1) := by decide +kernel
theorem dX9_against_94 : decode cX9_against 94 = .ok (.ifCond .ne 9, 3) := by decide +kernel
theorem dX9_against_97 : decode cX9_against 97 = .ok (.ldc2_w 257, 3) := by decide +kernel
theorem dX9_against_100 : decode cX9_against 100 = .ok (.goto 10, 3) := by decide +kernel
theorem dX9_against_103 : decode cX9_against 103 = .ok (.lload 6, 2) := by decide +kernel
theorem dX9_against_105 : decode cX9_against 105 = .ok (.lload 8, 2) := by decide +kernel
theorem dX9_against_107 : decode cX9_against 107 = .ok (.invokestatic 91, 3) := by decide +kernel
theorem dX9_against_110 : decode cX9_against 110 = .ok (.lstore 14, 2) := by decide +kernel
theorem dX9_against_112 : decode cX9_against 112 = .ok (.lload 12, 2) := by decide +kernel
theorem dX9_against_114 : decode cX9_against 114 = .ok (.lload 14, 2) := by decide +kernel
theorem dX9_against_116 : decode cX9_against 116 = .ok (.lcmp, 1) := by decide +kernel
theorem dX9_against_117 : decode cX9_against 117 = .ok (.ifCond .eq 37, 3) := by decide +kernel
theorem dX9_against_120 : decode cX9_against 120 = .ok (.lload 12, 2) := by decide +kernel
theorem dX9_against_122 : decode cX9_against 122 = .ok (.lload 14, 2) := by decide +kernel
theorem dX9_against_124 : decode cX9_against 124 = .ok (.lcmp, 1) := by decide +kernel
theorem dX9_against_125 : decode cX9_against 125 = .ok (.ifCond .ge 7, 3) := by decide +kernel
theorem dX9_against_128 : decode cX9_against 128 = .ok (.iconst 1, 1) := by decide +kernel
theorem dX9_against_129 : decode cX9_against 129 = .ok (.goto 4, 3) := by decide +kernel
theorem dX9_against_132 : decode cX9_against 132 = .ok (.iconst 0, 1) := by decide +kernel
theorem dX9_against_133 : decode cX9_against 133 = .ok (.iload 10, 2) := by decide +kernel
theorem dX9_against_135 : decode cX9_against 135 = .ok (.iconst 2, 1) := by decide +kernel
theorem dX9_against_136 : decode cX9_against 136 = .ok (.irem, 1) := by decide +kernel
theorem dX9_against_137 : decode cX9_against 137 = .ok (.ifCond .ne 7, 3) := by decide +kernel
theorem dX9_against_140 : decode cX9_against 140 = .ok (.iconst 1, 1) := by decide +kernel
theorem dX9_against_141 : decode cX9_against 141 = .ok (.goto 4, 3) := by decide +kernel
theorem dX9_against_144 : decode cX9_against 144 = .ok (.iconst 0, 1) := by decide +kernel
theorem dX9_against_145 : decode cX9_against 145 = .ok (.if_icmp .ne 7, 3) := by decide +kernel
theorem dX9_against_148 : decode cX9_against 148 = .ok (.iconst (-1), 1) := by decide +kernel
theorem dX9_against_149 : decode cX9_against 149 = .ok (.goto 4, 3) := by decide +kernel
theorem dX9_against_152 : decode cX9_against 152 = .ok (.iconst 1, 1) := by decide +kernel
theorem dX9_against_153 : decode cX9_against 153 = .ok (.ireturn, 1) := by decide +kernel
theorem dX9_against_154 : decode cX9_against 154 = .ok (.lload 6, 2) := by decide +kernel
theorem dX9_against_156 : decode cX9_against 156 = .ok (.lload 14, 2) := by decide +kernel
theorem dX9_against_158 : decode cX9_against 158 = .ok (.lload 8, 2) := by decide +kernel
theorem dX9_against_160 : decode cX9_against 160 = .ok (.lmul, 1) := by decide +kernel
theorem dX9_against_161 : decode cX9_against 161 = .ok (.lsub, 1) := by decide +kernel
theorem dX9_against_162 : decode cX9_against 162 = .ok (.lstore 16, 2) := by decide +kernel
theorem dX9_against_164 : decode cX9_against 164 = .ok (.lload 8, 2) := by decide +kernel
theorem dX9_against_166 : decode cX9_against 166 = .ok (.lstore 6, 2) := by decide +kernel
theorem dX9_against_168 : decode cX9_against 168 = .ok (.lload 16, 2) := by decide +kernel
theorem dX9_against_170 : decode cX9_against 170 = .ok (.lstore 8, 2) := by decide +kernel
theorem dX9_against_172 : decode cX9_against 172 = .ok (.iinc 10 1, 3) := by decide +kernel
theorem dX9_against_175 : decode cX9_against 175 = .ok (.goto (-165), 3) := by decide +kernel
theorem dX9_against_178 : decode cX9_against 178 = .ok (.iconst 2, 1) := by decide +kernel
theorem dX9_against_179 : decode cX9_against 179 = .ok (.ireturn, 1) := by decide +kernel
abbrev eX9_roll (G : GG) (R : Unit × AH) : EE := eM G 6 none false 0 0 0 0 none R.2
theorem wX9_roll_63 (G : GG) (hG : GT G) (R : Unit × AH) (l0 : Nat) (h : AH) (X : fX9_roll_63 l0 h = some R) : AW (eX9_roll G R) RX9 cX9_roll 63 [some (.ref (gB G + l0)), none, none, none, none, none] [] h 0 0 := by
  unfold fX9_roll_63 at X
  refine r_ald0 64 dX9_roll_63 rfl ?_
  refine r_dup 65 dX9_roll_64 rfl rfl ?_
  refine r_gI 68 dX9_roll_65 rfl lfX9_207 rfl X (fun x101 X => ?_)
  refine r_iconst 69 _ dX9_roll_68 rfl ki_1 ?_
  refine r_iadd 70 dX9_roll_69 rfl ?_
  refine r_pI 73 dX9_roll_70 rfl lpX9_207 rfl X (fun h102 X => ?_)
  exact r_retV dX9_roll_73 (Nat.zero_le _) (Nat.zero_le _) X
theorem wX9_roll_31 (G : GG) (hG : GT G) (R : Unit × AH) {K31 : Nat → Int32 → Int32 → AH → Fn Unit} (hK31 : ∀ (l0 : Nat) (l4 : Int32) (l5 : Int32) (h : AH), K31 l0 l4 l5 h = some R → AW (eX9_roll G R) RX9 cX9_roll 31 [some (.ref (gB G + l0)), none, none, none, some (.int l4), some (.int l5)] [] h 0 0) (l0 : Nat) (l4 : Int32) (l5 : Int32) (h : AH) (X : fX9_roll_31 K31 l0 l4 l5 h = some R) : AW (eX9_roll G R) RX9 cX9_roll 31 [some (.ref (gB G + l0)), none, none, none, some (.int l4), some (.int l5)] [] h 0 0 := by
  unfold fX9_roll_31 at X
  refine r_ild5 33 dX9_roll_31 rfl ?_
  refine r_bipush 35 _ dX9_roll_33 rfl kb_8 ?_
  refine r_icmp_ge 63 38 dX9_roll_35 (by decide) rfl X (fun _ X => ?_) (fun _ X => ?_)
  · exact r_cut (wX9_roll_63 G hG R _ _ X) ⟨rfl, trivial⟩
  · refine r_ald0 39 dX9_roll_38 rfl ?_
    refine r_gR 42 dX9_roll_39 rfl lfX9_54 rfl X (fun b101 X => ?_)
    refine r_ild4 44 dX9_roll_42 rfl ?_
    refine r_iconst 45 _ dX9_roll_44 rfl ki_2 ?_
    refine r_iadd 46 dX9_roll_45 rfl ?_
    refine r_ild5 48 dX9_roll_46 rfl ?_
    refine r_iadd 49 dX9_roll_48 rfl ?_
    refine r_ald0 50 dX9_roll_49 rfl ?_
    refine r_gR 53 dX9_roll_50 rfl lfX9_48 rfl X (fun b102 X => ?_)
    refine r_ild5 55 dX9_roll_53 rfl ?_
    refine r_aL 56 1 dX9_roll_55 rfl rfl X (fun x103 X => ?_)
    refine r_zL 57 1 dX9_roll_56 rfl rfl X (fun h104 X => ?_)
    refine r_iinc5w 60 dX9_roll_57 rfl rfl ki_1 X (fun x105 X => ?_)
    refine r_goto 31 dX9_roll_60 (by decide) ?_
    exact r_cut (hK31 _ _ _ _ X) ⟨rfl, ⟨rfl, ⟨rfl, trivial⟩⟩⟩
theorem wX9_roll_31L (G : GG) (hG : GT G) (R : Unit × AH) : ∀ (m : Nat) (l0 : Nat) (l4 : Int32) (l5 : Int32) (h : AH), fX9_roll_31L m l0 l4 l5 h = some R → AW (eX9_roll G R) RX9 cX9_roll 31 [some (.ref (gB G + l0)), none, none, none, some (.int l4), some (.int l5)] [] h 0 0 := by
  intro m
  induction m with
  | zero => intro l0 l4 l5 h X; exact nomatch (show (none : Fn Unit) = some R from X)
  | succ m ih => intro l0 l4 l5 h X; exact wX9_roll_31 G hG R ih l0 l4 l5 h X
theorem wX9_roll (G : GG) (hG : GT G) (R : Unit × AH) (a0 : Nat) (x0 : Int32) (x1 : Int64) (h : AH) (X : fX9_roll a0 x0 x1 h = some R) : AW (eX9_roll G R) RX9 cX9_roll 0 [some (.ref (gB G + a0)), some (.int x0), some (.long x1), none, none, none] [] h 0 0 := by
  unfold fX9_roll at X
  refine r_bipush 2 _ dX9_roll_0 rfl kb_10 ?_
  refine r_ald0 3 dX9_roll_2 rfl ?_
  refine r_gI 6 dX9_roll_3 rfl lfX9_207 rfl X (fun x101 X => ?_)
  refine r_imul 7 dX9_roll_6 rfl ?_
  refine r_ist4w 9 dX9_roll_7 rfl rfl X (fun x102 X => ?_)
  refine r_ald0 10 dX9_roll_9 rfl ?_
  refine r_gR 13 dX9_roll_10 rfl lfX9_54 rfl X (fun b103 X => ?_)
  refine r_ild4 15 dX9_roll_13 rfl ?_
  refine r_ild1 16 dX9_roll_15 rfl ?_
  refine r_i2l 17 dX9_roll_16 rfl ?_
  refine r_zL 18 1 dX9_roll_17 rfl rfl X (fun h104 X => ?_)
  refine r_ald0 19 dX9_roll_18 rfl ?_
  refine r_gR 22 dX9_roll_19 rfl lfX9_54 rfl X (fun b105 X => ?_)
  refine r_ild4 24 dX9_roll_22 rfl ?_
  refine r_iconst 25 _ dX9_roll_24 rfl ki_1 ?_
  refine r_iadd 26 dX9_roll_25 rfl ?_
  refine r_lld2 27 dX9_roll_26 rfl ?_
  refine r_zL 28 1 dX9_roll_27 rfl rfl X (fun h106 X => ?_)
  refine r_iconst 29 _ dX9_roll_28 rfl ki_0 ?_
  refine r_ist5 31 dX9_roll_29 rfl rfl ?_
  exact r_cut (wX9_roll_31L G hG R 1000 _ _ _ _ X) ⟨rfl, ⟨rfl, ⟨rfl, trivial⟩⟩⟩
theorem mtX9_roll (G : GG) (hG : GT G) {a0 : Nat} {x0 : Int32} {x1 : Int64} {h h' : AH} {v : Unit} (hc : fX9_roll a0 x0 x1 h = some (v, h')) : AMet G yX9_roll cX9_roll 6 none 0 0 0 0 [.ref (gB G + a0), .int x0, .long x1] h none h' :=
  amet_of false [some (.ref (gB G + a0)), some (.int x0), some (.long x1), none, none, none] (by decide +kernel) (by decide) (Nat.le_of_ble_eq_true rfl) rfl (Nat.le_of_ble_eq_true rfl) (wX9_roll G hG (v, h') _ _ _ h hc)
abbrev eX9_takeX (G : GG) (R : Int32 × AH) : EE := eM G 4 (some .boolean) false 3 73 0 0 (some (.int R.1)) R.2
theorem wX9_takeX_22 (G : GG) (hG : GT G) (R : Int32 × AH) {K22 : Nat → Int64 → Int32 → AH → Fn Int32} (hK22 : ∀ (l0 : Nat) (l1 : Int64) (l3 : Int32) (h : AH), K22 l0 l1 l3 h = some R → AW (eX9_takeX G R) RX9 cX9_takeX 22 [some (.ref (gB G + l0)), some (.long l1), none, some (.int l3)] [] h 0 0) (l0 : Nat) (l1 : Int64) (l3 : Int32) (h : AH) (X : fX9_takeX_22 K22 l0 l1 l3 h = some R) : AW (eX9_takeX G R) RX9 cX9_takeX 22 [some (.ref (gB G + l0)), some (.long l1), none, some (.int l3)] [] h 0 0 := by
  unfold fX9_takeX_22 at X
  refine r_ild3 23 dX9_takeX_22 rfl ?_
  refine r_bipush 25 _ dX9_takeX_23 rfl kb_8 ?_
  refine r_icmp_ge 126 28 dX9_takeX_25 (by decide) rfl X (fun _ X => ?_) (fun _ X => ?_)
  · refine r_ald0 127 dX9_takeX_126 rfl ?_
    obtain ⟨hs, X⟩ := r_cv X
    obtain ⟨x102, h101, hc, X⟩ := bnd_ok X
    refine r_callV0 130 dX9_takeX_127 rfl lmX9_210 hs (mtX9_become G hG hc) rfl ⟨(Nat.zero_le _), (Nat.zero_le _)⟩ ?_
    exact r_retZ dX9_takeX_130 (Nat.zero_le _) (Nat.zero_le _) X
  · refine r_ald0 29 dX9_takeX_28 rfl ?_
    refine r_gR 32 dX9_takeX_29 rfl lfX9_51 rfl X (fun b103 X => ?_)
    refine r_ild3 33 dX9_takeX_32 rfl ?_
    refine r_ald0 34 dX9_takeX_33 rfl ?_
    refine r_ald0 35 dX9_takeX_34 rfl ?_
    refine r_ald0 36 dX9_takeX_35 rfl ?_
    refine r_gR 39 dX9_takeX_36 rfl lfX9_48 rfl X (fun b104 X => ?_)
    refine r_ild3 40 dX9_takeX_39 rfl ?_
    refine r_aL 41 1 dX9_takeX_40 rfl rfl X (fun x105 X => ?_)
    refine r_lld1 42 dX9_takeX_41 rfl ?_
    obtain ⟨hs, X⟩ := r_cv X
    obtain ⟨x107, h106, hc, X⟩ := bnd_ok X
    refine r_callV2 45 dX9_takeX_42 rfl lmX9_151 hs (mtX9_mul G hG hc) rfl ⟨(Nat.zero_le _), (Nat.zero_le _)⟩ ?_
    refine r_ald0 46 dX9_takeX_45 rfl ?_
    refine r_gR 49 dX9_takeX_46 rfl lfX9_48 rfl X (fun b108 X => ?_)
    refine r_ild3 50 dX9_takeX_49 rfl ?_
    refine r_iconst 51 _ dX9_takeX_50 rfl ki_2 ?_
    refine r_iadd 52 dX9_takeX_51 rfl ?_
    refine r_aL 53 1 dX9_takeX_52 rfl rfl X (fun x109 X => ?_)
    obtain ⟨hs, X⟩ := r_cv X
    obtain ⟨x111, h110, hc, X⟩ := bnd_ok X
    refine r_callV2 56 dX9_takeX_53 rfl lmX9_154 hs (mtX9_add G hG hc) rfl ⟨(Nat.zero_le _), (Nat.zero_le _)⟩ ?_
    refine r_zL 57 1 dX9_takeX_56 rfl rfl X (fun h112 X => ?_)
    refine r_ald0 58 dX9_takeX_57 rfl ?_
    refine r_gR 61 dX9_takeX_58 rfl lfX9_51 rfl X (fun b113 X => ?_)
    refine r_ild3 62 dX9_takeX_61 rfl ?_
    refine r_iconst 63 _ dX9_takeX_62 rfl ki_1 ?_
    refine r_iadd 64 dX9_takeX_63 rfl ?_
    refine r_ald0 65 dX9_takeX_64 rfl ?_
    refine r_ald0 66 dX9_takeX_65 rfl ?_
    refine r_ald0 67 dX9_takeX_66 rfl ?_
    refine r_gR 70 dX9_takeX_67 rfl lfX9_48 rfl X (fun b114 X => ?_)
    refine r_ild3 71 dX9_takeX_70 rfl ?_
    refine r_iconst 72 _ dX9_takeX_71 rfl ki_1 ?_
    refine r_iadd 73 dX9_takeX_72 rfl ?_
    refine r_aL 74 1 dX9_takeX_73 rfl rfl X (fun x115 X => ?_)
    refine r_lld1 75 dX9_takeX_74 rfl ?_
    obtain ⟨hs, X⟩ := r_cv X
    obtain ⟨x117, h116, hc, X⟩ := bnd_ok X
    refine r_callV2 78 dX9_takeX_75 rfl lmX9_151 hs (mtX9_mul G hG hc) rfl ⟨(Nat.zero_le _), (Nat.zero_le _)⟩ ?_
    refine r_ald0 79 dX9_takeX_78 rfl ?_
    refine r_gR 82 dX9_takeX_79 rfl lfX9_48 rfl X (fun b118 X => ?_)
    refine r_ild3 83 dX9_takeX_82 rfl ?_
    refine r_iconst 84 _ dX9_takeX_83 rfl ki_3 ?_
    refine r_iadd 85 dX9_takeX_84 rfl ?_
    refine r_aL 86 1 dX9_takeX_85 rfl rfl X (fun x119 X => ?_)
    obtain ⟨hs, X⟩ := r_cv X
    obtain ⟨x121, h120, hc, X⟩ := bnd_ok X
    refine r_callV2 89 dX9_takeX_86 rfl lmX9_154 hs (mtX9_add G hG hc) rfl ⟨(Nat.zero_le _), (Nat.zero_le _)⟩ ?_
    refine r_zL 90 1 dX9_takeX_89 rfl rfl X (fun h122 X => ?_)
    refine r_ald0 91 dX9_takeX_90 rfl ?_
    refine r_gR 94 dX9_takeX_91 rfl lfX9_51 rfl X (fun b123 X => ?_)
    refine r_ild3 95 dX9_takeX_94 rfl ?_
    refine r_iconst 96 _ dX9_takeX_95 rfl ki_2 ?_
    refine r_iadd 97 dX9_takeX_96 rfl ?_
    refine r_ald0 98 dX9_takeX_97 rfl ?_
    refine r_gR 101 dX9_takeX_98 rfl lfX9_48 rfl X (fun b124 X => ?_)
    refine r_ild3 102 dX9_takeX_101 rfl ?_
    refine r_aL 103 1 dX9_takeX_102 rfl rfl X (fun x125 X => ?_)
    refine r_zL 104 1 dX9_takeX_103 rfl rfl X (fun h126 X => ?_)
    refine r_ald0 105 dX9_takeX_104 rfl ?_
    refine r_gR 108 dX9_takeX_105 rfl lfX9_51 rfl X (fun b127 X => ?_)
    refine r_ild3 109 dX9_takeX_108 rfl ?_
    refine r_iconst 110 _ dX9_takeX_109 rfl ki_3 ?_
    refine r_iadd 111 dX9_takeX_110 rfl ?_
    refine r_ald0 112 dX9_takeX_111 rfl ?_
    refine r_gR 115 dX9_takeX_112 rfl lfX9_48 rfl X (fun b128 X => ?_)
    refine r_ild3 116 dX9_takeX_115 rfl ?_
    refine r_iconst 117 _ dX9_takeX_116 rfl ki_1 ?_
    refine r_iadd 118 dX9_takeX_117 rfl ?_
    refine r_aL 119 1 dX9_takeX_118 rfl rfl X (fun x129 X => ?_)
    refine r_zL 120 1 dX9_takeX_119 rfl rfl X (fun h130 X => ?_)
    refine r_iinc3w 123 dX9_takeX_120 rfl rfl ki_4 X (fun x131 X => ?_)
    refine r_goto 22 dX9_takeX_123 (by decide) ?_
    exact r_cut (hK22 _ _ _ _ X) ⟨rfl, ⟨rfl, ⟨rfl, trivial⟩⟩⟩
theorem wX9_takeX_22L (G : GG) (hG : GT G) (R : Int32 × AH) : ∀ (m : Nat) (l0 : Nat) (l1 : Int64) (l3 : Int32) (h : AH), fX9_takeX_22L m l0 l1 l3 h = some R → AW (eX9_takeX G R) RX9 cX9_takeX 22 [some (.ref (gB G + l0)), some (.long l1), none, some (.int l3)] [] h 0 0 := by
  intro m
  induction m with
  | zero => intro l0 l1 l3 h X; exact nomatch (show (none : Fn Int32) = some R from X)
  | succ m ih => intro l0 l1 l3 h X; exact wX9_takeX_22 G hG R ih l0 l1 l3 h X
theorem wX9_takeX (G : GG) (hG : GT G) (R : Int32 × AH) (a0 : Nat) (x0 : Int64) (h : AH) (X : fX9_takeX a0 x0 h = some R) : AW (eX9_takeX G R) RX9 cX9_takeX 0 [some (.ref (gB G + a0)), some (.long x0), none, none] [] h 0 0 := by
  unfold fX9_takeX at X
  refine r_ald0 1 dX9_takeX_0 rfl ?_
  refine r_lld1 2 dX9_takeX_1 rfl ?_
  obtain ⟨x102, h101, hc, X⟩ := bnd_ok X
  refine r_callS1 5 dX9_takeX_2 rfl lmX9_63 (mtX9_size G hG hc) rfl ⟨(Nat.zero_le _), (Nat.zero_le _)⟩ ?_
  refine r_ldc2 8 dX9_takeX_5 rfl lkX9_67 ?_
  refine r_lif_le 16 12 dX9_takeX_8 dX9_takeX_9 (by decide) rfl X (fun _ X => ?_) (fun _ X => ?_)
  · refine r_iconst 17 _ dX9_takeX_16 rfl ki_0 ?_
    refine r_pZ 20 dX9_takeX_17 rfl lpX9_69 rfl X (fun h103 X => ?_)
    refine r_iconst 21 _ dX9_takeX_20 rfl ki_0 ?_
    refine r_ist3 22 dX9_takeX_21 rfl rfl ?_
    exact r_cut (wX9_takeX_22L G hG R 1000 _ _ _ _ X) ⟨rfl, ⟨rfl, ⟨rfl, trivial⟩⟩⟩
  · refine r_iconst 13 _ dX9_takeX_12 rfl ki_1 ?_
    refine r_goto 17 dX9_takeX_13 (by decide) ?_
    refine r_pZ 20 dX9_takeX_17 rfl lpX9_69 rfl X (fun h104 X => ?_)
    refine r_iconst 21 _ dX9_takeX_20 rfl ki_0 ?_
    refine r_ist3 22 dX9_takeX_21 rfl rfl ?_
    exact r_cut (wX9_takeX_22L G hG R 1000 _ _ _ _ X) ⟨rfl, ⟨rfl, ⟨rfl, trivial⟩⟩⟩
theorem mtX9_takeX (G : GG) (hG : GT G) {a0 : Nat} {x0 : Int64} {h h' : AH} {v : Int32} (hc : fX9_takeX a0 x0 h = some (v, h')) : AMet G yX9_takeX cX9_takeX 4 (some .boolean) 3 73 0 0 [.ref (gB G + a0), .long x0] h (some (.int v)) h' :=
  amet_of false [some (.ref (gB G + a0)), some (.long x0), none, none] (by decide +kernel) (by decide) (Nat.le_of_ble_eq_true rfl) rfl (Nat.le_of_ble_eq_true rfl) (wX9_takeX G hG (v, h') _ _ h hc)
abbrev eX9_takeY (G : GG) (R : Int32 × AH) : EE := eM G 4 (some .boolean) false 3 73 0 0 (some (.int R.1)) R.2
theorem wX9_takeY_22 (G : GG) (hG : GT G) (R : Int32 × AH) {K22 : Nat → Int64 → Int32 → AH → Fn Int32} (hK22 : ∀ (l0 : Nat) (l1 : Int64) (l3 : Int32) (h : AH), K22 l0 l1 l3 h = some R → AW (eX9_takeY G R) RX9 cX9_takeY 22 [some (.ref (gB G + l0)), some (.long l1), none, some (.int l3)] [] h 0 0) (l0 : Nat) (l1 : Int64) (l3 : Int32) (h : AH) (X : fX9_takeY_22 K22 l0 l1 l3 h = some R) : AW (eX9_takeY G R) RX9 cX9_takeY 22 [some (.ref (gB G + l0)), some (.long l1), none, some (.int l3)] [] h 0 0 := by
  unfold fX9_takeY_22 at X
  refine r_ild3 23 dX9_takeY_22 rfl ?_
  refine r_bipush 25 _ dX9_takeY_23 rfl kb_8 ?_
  refine r_icmp_ge 126 28 dX9_takeY_25 (by decide) rfl X (fun _ X => ?_) (fun _ X => ?_)
  · refine r_ald0 127 dX9_takeY_126 rfl ?_
    obtain ⟨hs, X⟩ := r_cv X
    obtain ⟨x102, h101, hc, X⟩ := bnd_ok X
    refine r_callV0 130 dX9_takeY_127 rfl lmX9_210 hs (mtX9_become G hG hc) rfl ⟨(Nat.zero_le _), (Nat.zero_le _)⟩ ?_
    exact r_retZ dX9_takeY_130 (Nat.zero_le _) (Nat.zero_le _) X
  · refine r_ald0 29 dX9_takeY_28 rfl ?_
    refine r_gR 32 dX9_takeY_29 rfl lfX9_51 rfl X (fun b103 X => ?_)
    refine r_ild3 33 dX9_takeY_32 rfl ?_
    refine r_ald0 34 dX9_takeY_33 rfl ?_
    refine r_ald0 35 dX9_takeY_34 rfl ?_
    refine r_ald0 36 dX9_takeY_35 rfl ?_
    refine r_gR 39 dX9_takeY_36 rfl lfX9_48 rfl X (fun b104 X => ?_)
    refine r_ild3 40 dX9_takeY_39 rfl ?_
    refine r_aL 41 1 dX9_takeY_40 rfl rfl X (fun x105 X => ?_)
    refine r_lld1 42 dX9_takeY_41 rfl ?_
    obtain ⟨hs, X⟩ := r_cv X
    obtain ⟨x107, h106, hc, X⟩ := bnd_ok X
    refine r_callV2 45 dX9_takeY_42 rfl lmX9_151 hs (mtX9_mul G hG hc) rfl ⟨(Nat.zero_le _), (Nat.zero_le _)⟩ ?_
    refine r_ald0 46 dX9_takeY_45 rfl ?_
    refine r_gR 49 dX9_takeY_46 rfl lfX9_48 rfl X (fun b108 X => ?_)
    refine r_ild3 50 dX9_takeY_49 rfl ?_
    refine r_iconst 51 _ dX9_takeY_50 rfl ki_1 ?_
    refine r_iadd 52 dX9_takeY_51 rfl ?_
    refine r_aL 53 1 dX9_takeY_52 rfl rfl X (fun x109 X => ?_)
    obtain ⟨hs, X⟩ := r_cv X
    obtain ⟨x111, h110, hc, X⟩ := bnd_ok X
    refine r_callV2 56 dX9_takeY_53 rfl lmX9_154 hs (mtX9_add G hG hc) rfl ⟨(Nat.zero_le _), (Nat.zero_le _)⟩ ?_
    refine r_zL 57 1 dX9_takeY_56 rfl rfl X (fun h112 X => ?_)
    refine r_ald0 58 dX9_takeY_57 rfl ?_
    refine r_gR 61 dX9_takeY_58 rfl lfX9_51 rfl X (fun b113 X => ?_)
    refine r_ild3 62 dX9_takeY_61 rfl ?_
    refine r_iconst 63 _ dX9_takeY_62 rfl ki_1 ?_
    refine r_iadd 64 dX9_takeY_63 rfl ?_
    refine r_ald0 65 dX9_takeY_64 rfl ?_
    refine r_gR 68 dX9_takeY_65 rfl lfX9_48 rfl X (fun b114 X => ?_)
    refine r_ild3 69 dX9_takeY_68 rfl ?_
    refine r_aL 70 1 dX9_takeY_69 rfl rfl X (fun x115 X => ?_)
    refine r_zL 71 1 dX9_takeY_70 rfl rfl X (fun h116 X => ?_)
    refine r_ald0 72 dX9_takeY_71 rfl ?_
    refine r_gR 75 dX9_takeY_72 rfl lfX9_51 rfl X (fun b117 X => ?_)
    refine r_ild3 76 dX9_takeY_75 rfl ?_
    refine r_iconst 77 _ dX9_takeY_76 rfl ki_2 ?_
    refine r_iadd 78 dX9_takeY_77 rfl ?_
    refine r_ald0 79 dX9_takeY_78 rfl ?_
    refine r_ald0 80 dX9_takeY_79 rfl ?_
    refine r_ald0 81 dX9_takeY_80 rfl ?_
    refine r_gR 84 dX9_takeY_81 rfl lfX9_48 rfl X (fun b118 X => ?_)
    refine r_ild3 85 dX9_takeY_84 rfl ?_
    refine r_iconst 86 _ dX9_takeY_85 rfl ki_2 ?_
    refine r_iadd 87 dX9_takeY_86 rfl ?_
    refine r_aL 88 1 dX9_takeY_87 rfl rfl X (fun x119 X => ?_)
    refine r_lld1 89 dX9_takeY_88 rfl ?_
    obtain ⟨hs, X⟩ := r_cv X
    obtain ⟨x121, h120, hc, X⟩ := bnd_ok X
    refine r_callV2 92 dX9_takeY_89 rfl lmX9_151 hs (mtX9_mul G hG hc) rfl ⟨(Nat.zero_le _), (Nat.zero_le _)⟩ ?_
    refine r_ald0 93 dX9_takeY_92 rfl ?_
    refine r_gR 96 dX9_takeY_93 rfl lfX9_48 rfl X (fun b122 X => ?_)
    refine r_ild3 97 dX9_takeY_96 rfl ?_
    refine r_iconst 98 _ dX9_takeY_97 rfl ki_3 ?_
    refine r_iadd 99 dX9_takeY_98 rfl ?_
    refine r_aL 100 1 dX9_takeY_99 rfl rfl X (fun x123 X => ?_)
    obtain ⟨hs, X⟩ := r_cv X
    obtain ⟨x125, h124, hc, X⟩ := bnd_ok X
    refine r_callV2 103 dX9_takeY_100 rfl lmX9_154 hs (mtX9_add G hG hc) rfl ⟨(Nat.zero_le _), (Nat.zero_le _)⟩ ?_
    refine r_zL 104 1 dX9_takeY_103 rfl rfl X (fun h126 X => ?_)
    refine r_ald0 105 dX9_takeY_104 rfl ?_
    refine r_gR 108 dX9_takeY_105 rfl lfX9_51 rfl X (fun b127 X => ?_)
    refine r_ild3 109 dX9_takeY_108 rfl ?_
    refine r_iconst 110 _ dX9_takeY_109 rfl ki_3 ?_
    refine r_iadd 111 dX9_takeY_110 rfl ?_
    refine r_ald0 112 dX9_takeY_111 rfl ?_
    refine r_gR 115 dX9_takeY_112 rfl lfX9_48 rfl X (fun b128 X => ?_)
    refine r_ild3 116 dX9_takeY_115 rfl ?_
    refine r_iconst 117 _ dX9_takeY_116 rfl ki_2 ?_
    refine r_iadd 118 dX9_takeY_117 rfl ?_
    refine r_aL 119 1 dX9_takeY_118 rfl rfl X (fun x129 X => ?_)
    refine r_zL 120 1 dX9_takeY_119 rfl rfl X (fun h130 X => ?_)
    refine r_iinc3w 123 dX9_takeY_120 rfl rfl ki_4 X (fun x131 X => ?_)
    refine r_goto 22 dX9_takeY_123 (by decide) ?_
    exact r_cut (hK22 _ _ _ _ X) ⟨rfl, ⟨rfl, ⟨rfl, trivial⟩⟩⟩
theorem wX9_takeY_22L (G : GG) (hG : GT G) (R : Int32 × AH) : ∀ (m : Nat) (l0 : Nat) (l1 : Int64) (l3 : Int32) (h : AH), fX9_takeY_22L m l0 l1 l3 h = some R → AW (eX9_takeY G R) RX9 cX9_takeY 22 [some (.ref (gB G + l0)), some (.long l1), none, some (.int l3)] [] h 0 0 := by
  intro m
  induction m with
  | zero => intro l0 l1 l3 h X; exact nomatch (show (none : Fn Int32) = some R from X)
  | succ m ih => intro l0 l1 l3 h X; exact wX9_takeY_22 G hG R ih l0 l1 l3 h X
theorem wX9_takeY (G : GG) (hG : GT G) (R : Int32 × AH) (a0 : Nat) (x0 : Int64) (h : AH) (X : fX9_takeY a0 x0 h = some R) : AW (eX9_takeY G R) RX9 cX9_takeY 0 [some (.ref (gB G + a0)), some (.long x0), none, none] [] h 0 0 := by
  unfold fX9_takeY at X
  refine r_ald0 1 dX9_takeY_0 rfl ?_
  refine r_lld1 2 dX9_takeY_1 rfl ?_
  obtain ⟨x102, h101, hc, X⟩ := bnd_ok X
  refine r_callS1 5 dX9_takeY_2 rfl lmX9_63 (mtX9_size G hG hc) rfl ⟨(Nat.zero_le _), (Nat.zero_le _)⟩ ?_
  refine r_ldc2 8 dX9_takeY_5 rfl lkX9_67 ?_
  refine r_lif_le 16 12 dX9_takeY_8 dX9_takeY_9 (by decide) rfl X (fun _ X => ?_) (fun _ X => ?_)
  · refine r_iconst 17 _ dX9_takeY_16 rfl ki_0 ?_
    refine r_pZ 20 dX9_takeY_17 rfl lpX9_69 rfl X (fun h103 X => ?_)
    refine r_iconst 21 _ dX9_takeY_20 rfl ki_0 ?_
    refine r_ist3 22 dX9_takeY_21 rfl rfl ?_
    exact r_cut (wX9_takeY_22L G hG R 1000 _ _ _ _ X) ⟨rfl, ⟨rfl, ⟨rfl, trivial⟩⟩⟩
  · refine r_iconst 13 _ dX9_takeY_12 rfl ki_1 ?_
    refine r_goto 17 dX9_takeY_13 (by decide) ?_
    refine r_pZ 20 dX9_takeY_17 rfl lpX9_69 rfl X (fun h104 X => ?_)
    refine r_iconst 21 _ dX9_takeY_20 rfl ki_0 ?_
    refine r_ist3 22 dX9_takeY_21 rfl rfl ?_
    exact r_cut (wX9_takeY_22L G hG R 1000 _ _ _ _ X) ⟨rfl, ⟨rfl, ⟨rfl, trivial⟩⟩⟩
theorem mtX9_takeY (G : GG) (hG : GT G) {a0 : Nat} {x0 : Int64} {h h' : AH} {v : Int32} (hc : fX9_takeY a0 x0 h = some (v, h')) : AMet G yX9_takeY cX9_takeY 4 (some .boolean) 3 73 0 0 [.ref (gB G + a0), .long x0] h (some (.int v)) h' :=
  amet_of false [some (.ref (gB G + a0)), some (.long x0), none, none] (by decide +kernel) (by decide) (Nat.le_of_ble_eq_true rfl) rfl (Nat.le_of_ble_eq_true rfl) (wX9_takeY G hG (v, h') _ _ h hc)
abbrev eX9_make (G : GG) (R : Int64 × AH) : EE := eM G 12 (some .long) false 4 96 0 0 (some (.long R.1)) R.2
theorem wX9_make_428 (G : GG) (hG : GT G) (R : Int64 × AH) (l0 : Nat) (l3 : Int32) (l4 : Int32) (l5 : Int32) (h : AH) (X : fX9_make_428 l0 l3 l4 l5 h = some R) : AW (eX9_make G R) RX9 cX9_make 428 [some (.ref (gB G + l0)), none, none, some (.int l3), some (.int l4), some (.int l5), none, none, none, none, none, none] [] h 0 0 := by
  unfold fX9_make_428 at X
  refine r_ald0 429 dX9_make_428 rfl ?_
  refine r_gR 432 dX9_make_429 rfl lfX9_27 rfl X (fun b101 X => ?_)
  refine r_ild3 433 dX9_make_432 rfl ?_
  refine r_ild4 435 dX9_make_433 rfl ?_
  refine r_ild5 437 dX9_make_435 rfl ?_
  refine r_iadd 438 dX9_make_437 rfl ?_
  refine r_zI 439 0 dX9_make_438 rfl rfl X (fun h102 X => ?_)
  refine r_ild3 440 dX9_make_439 rfl ?_
  refine r_i2l 441 dX9_make_440 rfl ?_
  exact r_retL dX9_make_441 (Nat.zero_le _) (Nat.zero_le _) X
theorem wX9_make_404 (G : GG) (hG : GT G) (R : Int64 × AH) {K26 : Nat → Int32 → Int32 → Int32 → Int32 → Int32 → Int32 → Int32 → Int32 → AH → Fn Int64} (hK26 : ∀ (l0 : Nat) (l1 : Int32) (l2 : Int32) (l3 : Int32) (l4 : Int32) (l5 : Int32) (l6 : Int32) (l7 : Int32) (l8 : Int32) (h : AH), K26 l0 l1 l2 l3 l4 l5 l6 l7 l8 h = some R → AW (eX9_make G R) RX9 cX9_make 26 [some (.ref (gB G + l0)), some (.int l1), some (.int l2), some (.int l3), some (.int l4), some (.int l5), some (.int l6), some (.int l7), some (.int l8), none, none, none] [] h 0 0) (l0 : Nat) (l1 : Int32) (l2 : Int32) (l3 : Int32) (l4 : Int32) (l5 : Int32) (l6 : Int32) (l7 : Int32) (l8 : Int32) (h : AH) (X : fX9_make_404 K26 l0 l1 l2 l3 l4 l5 l6 l7 l8 h = some R) : AW (eX9_make G R) RX9 cX9_make 404 [some (.ref (gB G + l0)), some (.int l1), some (.int l2), some (.int l3), some (.int l4), some (.int l5), some (.int l6), some (.int l7), some (.int l8), none, none, none] [] h 0 0 := by
  unfold fX9_make_404 at X
  refine r_ild7 406 dX9_make_404 rfl ?_
  refine r_if_eq 419 409 dX9_make_406 (by decide) rfl X (fun _ X => ?_) (fun _ X => ?_)
  · refine r_goto 425 dX9_make_419 (by decide) ?_
    refine r_goto 26 dX9_make_425 (by decide) ?_
    exact r_cut (hK26 _ _ _ _ _ _ _ _ _ _ X) ⟨rfl, ⟨rfl, ⟨rfl, ⟨rfl, ⟨rfl, ⟨rfl, ⟨rfl, ⟨rfl, ⟨rfl, trivial⟩⟩⟩⟩⟩⟩⟩⟩⟩
  · refine r_ald0 410 dX9_make_409 rfl ?_
    obtain ⟨hs, X⟩ := r_cv X
    obtain ⟨_, h101, hc, X⟩ := bnd_ok X
    refine r_callV0v 413 dX9_make_410 rfl lmX9_244 hs (mtX9_outY G hG hc) rfl ⟨(Nat.zero_le _), (Nat.zero_le _)⟩ ?_
    refine r_ald0 414 dX9_make_413 rfl ?_
    refine r_iconst 415 _ dX9_make_414 rfl ki_3 ?_
    refine r_lconst 416 _ dX9_make_415 rfl kl_0 ?_
    obtain ⟨hs, X⟩ := r_cv X
    obtain ⟨_, h102, hc, X⟩ := bnd_ok X
    refine r_callV2v 419 dX9_make_416 rfl lmX9_232 hs (mtX9_roll G hG hc) rfl ⟨(Nat.zero_le _), (Nat.zero_le _)⟩ ?_
    refine r_goto 425 dX9_make_419 (by decide) ?_
    refine r_goto 26 dX9_make_425 (by decide) ?_
    exact r_cut (hK26 _ _ _ _ _ _ _ _ _ _ X) ⟨rfl, ⟨rfl, ⟨rfl, ⟨rfl, ⟨rfl, ⟨rfl, ⟨rfl, ⟨rfl, ⟨rfl, trivial⟩⟩⟩⟩⟩⟩⟩⟩⟩
theorem wX9_make_318 (G : GG) (hG : GT G) (R : Int64 × AH) {K26 : Nat → Int32 → Int32 → Int32 → Int32 → Int32 → Int32 → Int32 → Int32 → AH → Fn Int64} (hK26 : ∀ (l0 : Nat) (l1 : Int32) (l2 : Int32) (l3 : Int32) (l4 : Int32) (l5 : Int32) (l6 : Int32) (l7 : Int32) (l8 : Int32) (h : AH), K26 l0 l1 l2 l3 l4 l5 l6 l7 l8 h = some R → AW (eX9_make G R) RX9 cX9_make 26 [some (.ref (gB G + l0)), some (.int l1), some (.int l2), some (.int l3), some (.int l4), some (.int l5), some (.int l6), some (.int l7), some (.int l8), none, none, none] [] h 0 0) (l0 : Nat) (l1 : Int32) (l2 : Int32) (l3 : Int32) (l4 : Int32) (l5 : Int32) (l6 : Int32) (l7 : Int32) (h : AH) (X : fX9_make_318 K26 l0 l1 l2 l3 l4 l5 l6 l7 h = some R) : AW (eX9_make G R) RX9 cX9_make 318 [some (.ref (gB G + l0)), some (.int l1), some (.int l2), some (.int l3), some (.int l4), some (.int l5), some (.int l6), some (.int l7), none, none, none, none] [] h 0 0 := by
  unfold fX9_make_318 at X
  refine r_ild7 320 dX9_make_318 rfl ?_
  refine r_if_eq 329 323 dX9_make_320 (by decide) rfl X (fun _ X => ?_) (fun _ X => ?_)
  · refine r_ild5 331 dX9_make_329 rfl ?_
    refine r_ald0 332 dX9_make_331 rfl ?_
    refine r_gR 335 dX9_make_332 rfl lfX9_17 rfl X (fun b101 X => ?_)
    refine r_ild2 336 dX9_make_335 rfl ?_
    refine r_aI 337 0 dX9_make_336 rfl rfl X (fun x102 X => ?_)
    refine r_icmp_ge 422 340 dX9_make_337 (by decide) rfl X (fun _ X => ?_) (fun _ X => ?_)
    · refine r_iconst 423 _ dX9_make_422 rfl ki_0 ?_
      refine r_ist8 425 dX9_make_423 rfl rfl ?_
      refine r_goto 26 dX9_make_425 (by decide) ?_
      exact r_cut (hK26 _ _ _ _ _ _ _ _ _ _ X) ⟨rfl, ⟨rfl, ⟨rfl, ⟨rfl, ⟨rfl, ⟨rfl, ⟨rfl, ⟨rfl, ⟨rfl, trivial⟩⟩⟩⟩⟩⟩⟩⟩⟩
    · refine r_ald0 341 dX9_make_340 rfl ?_
      refine r_gR 344 dX9_make_341 rfl lfX9_23 rfl X (fun b103 X => ?_)
      refine r_bipush 346 _ dX9_make_344 rfl kb_60 ?_
      refine r_ild2 347 dX9_make_346 rfl ?_
      refine r_imul 348 dX9_make_347 rfl ?_
      refine r_ild5 350 dX9_make_348 rfl ?_
      refine r_iadd 351 dX9_make_350 rfl ?_
      refine r_aL 352 1 dX9_make_351 rfl rfl X (fun x104 X => ?_)
      refine r_lst10 354 dX9_make_352 rfl rfl ?_
      refine r_ald0 355 dX9_make_354 rfl ?_
      refine r_lld10 357 dX9_make_355 rfl ?_
      obtain ⟨hs, X⟩ := r_cv X
      obtain ⟨x106, h105, hc, X⟩ := bnd_ok X
      refine r_callV1 360 dX9_make_357 rfl lmX9_241 hs (mtX9_takeY G hG hc) rfl ⟨(Nat.zero_le _), (Nat.zero_le _)⟩ ?_
      refine r_ist8 362 dX9_make_360 rfl rfl ?_
      refine r_ild8 364 dX9_make_362 rfl ?_
      refine r_if_eq 404 367 dX9_make_364 (by decide) rfl X (fun _ X => ?_) (fun _ X => ?_)
      · exact r_cut (wX9_make_404 G hG R hK26 _ _ _ _ _ _ _ _ _ _ X) ⟨rfl, ⟨rfl, ⟨rfl, ⟨rfl, ⟨rfl, ⟨rfl, ⟨rfl, ⟨rfl, ⟨rfl, trivial⟩⟩⟩⟩⟩⟩⟩⟩⟩
      · refine r_iinc5w 370 dX9_make_367 rfl rfl ki_1 X (fun x107 X => ?_)
        refine r_ald0 371 dX9_make_370 rfl ?_
        refine r_iconst 372 _ dX9_make_371 rfl ki_1 ?_
        refine r_lld10 374 dX9_make_372 rfl ?_
        obtain ⟨hs, X⟩ := r_cv X
        obtain ⟨_, h108, hc, X⟩ := bnd_ok X
        refine r_callV2v 377 dX9_make_374 rfl lmX9_232 hs (mtX9_roll G hG hc) rfl ⟨(Nat.zero_le _), (Nat.zero_le _)⟩ ?_
        refine r_ald0 378 dX9_make_377 rfl ?_
        refine r_gR 381 dX9_make_378 rfl lfX9_20 rfl X (fun b109 X => ?_)
        refine r_ild2 382 dX9_make_381 rfl ?_
        refine r_aZ 383 2 dX9_make_382 rfl rfl X (fun x110 X => ?_)
        refine r_if_eq 401 386 dX9_make_383 (by decide) rfl X (fun _ X => ?_) (fun _ X => ?_)
        · refine r_iconst 402 _ dX9_make_401 rfl ki_0 ?_
          refine r_ist7 404 dX9_make_402 rfl rfl ?_
          exact r_cut (wX9_make_404 G hG R hK26 _ _ _ _ _ _ _ _ _ _ X) ⟨rfl, ⟨rfl, ⟨rfl, ⟨rfl, ⟨rfl, ⟨rfl, ⟨rfl, ⟨rfl, ⟨rfl, trivial⟩⟩⟩⟩⟩⟩⟩⟩⟩
        · refine r_ild5 388 dX9_make_386 rfl ?_
          refine r_ald0 389 dX9_make_388 rfl ?_
          refine r_gR 392 dX9_make_389 rfl lfX9_17 rfl X (fun b111 X => ?_)
          refine r_ild2 393 dX9_make_392 rfl ?_
          refine r_aI 394 0 dX9_make_393 rfl rfl X (fun x112 X => ?_)
          refine r_icmp_ne 401 397 dX9_make_394 (by decide) rfl X (fun _ X => ?_) (fun _ X => ?_)
          · refine r_iconst 402 _ dX9_make_401 rfl ki_0 ?_
            refine r_ist7 404 dX9_make_402 rfl rfl ?_
            exact r_cut (wX9_make_404 G hG R hK26 _ _ _ _ _ _ _ _ _ _ X) ⟨rfl, ⟨rfl, ⟨rfl, ⟨rfl, ⟨rfl, ⟨rfl, ⟨rfl, ⟨rfl, ⟨rfl, trivial⟩⟩⟩⟩⟩⟩⟩⟩⟩
          · refine r_iconst 398 _ dX9_make_397 rfl ki_1 ?_
            refine r_goto 402 dX9_make_398 (by decide) ?_
            refine r_ist7 404 dX9_make_402 rfl rfl ?_
            exact r_cut (wX9_make_404 G hG R hK26 _ _ _ _ _ _ _ _ _ _ X) ⟨rfl, ⟨rfl, ⟨rfl, ⟨rfl, ⟨rfl, ⟨rfl, ⟨rfl, ⟨rfl, ⟨rfl, trivial⟩⟩⟩⟩⟩⟩⟩⟩⟩
  · refine r_iconst 324 _ dX9_make_323 rfl ki_0 ?_
    refine r_ist8 326 dX9_make_324 rfl rfl ?_
    refine r_goto 425 dX9_make_326 (by decide) ?_
    refine r_goto 26 dX9_make_425 (by decide) ?_
    exact r_cut (hK26 _ _ _ _ _ _ _ _ _ _ X) ⟨rfl, ⟨rfl, ⟨rfl, ⟨rfl, ⟨rfl, ⟨rfl, ⟨rfl, ⟨rfl, ⟨rfl, trivial⟩⟩⟩⟩⟩⟩⟩⟩⟩
theorem wX9_make_294 (G : GG) (hG : GT G) (R : Int64 × AH) {K26 : Nat → Int32 → Int32 → Int32 → Int32 → Int32 → Int32 → Int32 → Int32 → AH → Fn Int64} (hK26 : ∀ (l0 : Nat) (l1 : Int32) (l2 : Int32) (l3 : Int32) (l4 : Int32) (l5 : Int32) (l6 : Int32) (l7 : Int32) (l8 : Int32) (h : AH), K26 l0 l1 l2 l3 l4 l5 l6 l7 l8 h = some R → AW (eX9_make G R) RX9 cX9_make 26 [some (.ref (gB G + l0)), some (.int l1), some (.int l2), some (.int l3), some (.int l4), some (.int l5), some (.int l6), some (.int l7), some (.int l8), none, none, none] [] h 0 0) (l0 : Nat) (l1 : Int32) (l2 : Int32) (l3 : Int32) (l4 : Int32) (l5 : Int32) (l6 : Int32) (l7 : Int32) (l8 : Int32) (h : AH) (X : fX9_make_294 K26 l0 l1 l2 l3 l4 l5 l6 l7 l8 h = some R) : AW (eX9_make G R) RX9 cX9_make 294 [some (.ref (gB G + l0)), some (.int l1), some (.int l2), some (.int l3), some (.int l4), some (.int l5), some (.int l6), some (.int l7), some (.int l8), none, none, none] [] h 0 0 := by
  unfold fX9_make_294 at X
  refine r_ild6 296 dX9_make_294 rfl ?_
  refine r_if_eq 309 299 dX9_make_296 (by decide) rfl X (fun _ X => ?_) (fun _ X => ?_)
  · refine r_goto 425 dX9_make_309 (by decide) ?_
    refine r_goto 26 dX9_make_425 (by decide) ?_
    exact r_cut (hK26 _ _ _ _ _ _ _ _ _ _ X) ⟨rfl, ⟨rfl, ⟨rfl, ⟨rfl, ⟨rfl, ⟨rfl, ⟨rfl, ⟨rfl, ⟨rfl, trivial⟩⟩⟩⟩⟩⟩⟩⟩⟩
  · refine r_ald0 300 dX9_make_299 rfl ?_
    obtain ⟨hs, X⟩ := r_cv X
    obtain ⟨_, h101, hc, X⟩ := bnd_ok X
    refine r_callV0v 303 dX9_make_300 rfl lmX9_238 hs (mtX9_outX G hG hc) rfl ⟨(Nat.zero_le _), (Nat.zero_le _)⟩ ?_
    refine r_ald0 304 dX9_make_303 rfl ?_
    refine r_iconst 305 _ dX9_make_304 rfl ki_2 ?_
    refine r_lconst 306 _ dX9_make_305 rfl kl_0 ?_
    obtain ⟨hs, X⟩ := r_cv X
    obtain ⟨_, h102, hc, X⟩ := bnd_ok X
    refine r_callV2v 309 dX9_make_306 rfl lmX9_232 hs (mtX9_roll G hG hc) rfl ⟨(Nat.zero_le _), (Nat.zero_le _)⟩ ?_
    refine r_goto 425 dX9_make_309 (by decide) ?_
    refine r_goto 26 dX9_make_425 (by decide) ?_
    exact r_cut (hK26 _ _ _ _ _ _ _ _ _ _ X) ⟨rfl, ⟨rfl, ⟨rfl, ⟨rfl, ⟨rfl, ⟨rfl, ⟨rfl, ⟨rfl, ⟨rfl, trivial⟩⟩⟩⟩⟩⟩⟩⟩⟩
theorem wX9_make_219 (G : GG) (hG : GT G) (R : Int64 × AH) {K26 : Nat → Int32 → Int32 → Int32 → Int32 → Int32 → Int32 → Int32 → Int32 → AH → Fn Int64} (hK26 : ∀ (l0 : Nat) (l1 : Int32) (l2 : Int32) (l3 : Int32) (l4 : Int32) (l5 : Int32) (l6 : Int32) (l7 : Int32) (l8 : Int32) (h : AH), K26 l0 l1 l2 l3 l4 l5 l6 l7 l8 h = some R → AW (eX9_make G R) RX9 cX9_make 26 [some (.ref (gB G + l0)), some (.int l1), some (.int l2), some (.int l3), some (.int l4), some (.int l5), some (.int l6), some (.int l7), some (.int l8), none, none, none] [] h 0 0) (l0 : Nat) (l1 : Int32) (l2 : Int32) (l3 : Int32) (l4 : Int32) (l5 : Int32) (l6 : Int32) (l7 : Int32) (h : AH) (X : fX9_make_219 K26 l0 l1 l2 l3 l4 l5 l6 l7 h = some R) : AW (eX9_make G R) RX9 cX9_make 219 [some (.ref (gB G + l0)), some (.int l1), some (.int l2), some (.int l3), some (.int l4), some (.int l5), some (.int l6), some (.int l7), none, none, none, none] [] h 0 0 := by
  unfold fX9_make_219 at X
  refine r_ild4 221 dX9_make_219 rfl ?_
  refine r_ald0 222 dX9_make_221 rfl ?_
  refine r_gR 225 dX9_make_222 rfl lfX9_17 rfl X (fun b101 X => ?_)
  refine r_ild1 226 dX9_make_225 rfl ?_
  refine r_aI 227 0 dX9_make_226 rfl rfl X (fun x102 X => ?_)
  refine r_icmp_ge 312 230 dX9_make_227 (by decide) rfl X (fun _ X => ?_) (fun _ X => ?_)
  · refine r_iconst 313 _ dX9_make_312 rfl ki_0 ?_
    refine r_ist8 315 dX9_make_313 rfl rfl ?_
    refine r_goto 425 dX9_make_315 (by decide) ?_
    refine r_goto 26 dX9_make_425 (by decide) ?_
    exact r_cut (hK26 _ _ _ _ _ _ _ _ _ _ X) ⟨rfl, ⟨rfl, ⟨rfl, ⟨rfl, ⟨rfl, ⟨rfl, ⟨rfl, ⟨rfl, ⟨rfl, trivial⟩⟩⟩⟩⟩⟩⟩⟩⟩
  · refine r_ald0 231 dX9_make_230 rfl ?_
    refine r_gR 234 dX9_make_231 rfl lfX9_23 rfl X (fun b103 X => ?_)
    refine r_bipush 236 _ dX9_make_234 rfl kb_60 ?_
    refine r_ild1 237 dX9_make_236 rfl ?_
    refine r_imul 238 dX9_make_237 rfl ?_
    refine r_ild4 240 dX9_make_238 rfl ?_
    refine r_iadd 241 dX9_make_240 rfl ?_
    refine r_aL 242 1 dX9_make_241 rfl rfl X (fun x104 X => ?_)
    refine r_lst10 244 dX9_make_242 rfl rfl ?_
    refine r_ald0 245 dX9_make_244 rfl ?_
    refine r_lld10 247 dX9_make_245 rfl ?_
    obtain ⟨hs, X⟩ := r_cv X
    obtain ⟨x106, h105, hc, X⟩ := bnd_ok X
    refine r_callV1 250 dX9_make_247 rfl lmX9_235 hs (mtX9_takeX G hG hc) rfl ⟨(Nat.zero_le _), (Nat.zero_le _)⟩ ?_
    refine r_ist8 252 dX9_make_250 rfl rfl ?_
    refine r_ild8 254 dX9_make_252 rfl ?_
    refine r_if_eq 294 257 dX9_make_254 (by decide) rfl X (fun _ X => ?_) (fun _ X => ?_)
    · exact r_cut (wX9_make_294 G hG R hK26 _ _ _ _ _ _ _ _ _ _ X) ⟨rfl, ⟨rfl, ⟨rfl, ⟨rfl, ⟨rfl, ⟨rfl, ⟨rfl, ⟨rfl, ⟨rfl, trivial⟩⟩⟩⟩⟩⟩⟩⟩⟩
    · refine r_iinc4w 260 dX9_make_257 rfl rfl ki_1 X (fun x107 X => ?_)
      refine r_ald0 261 dX9_make_260 rfl ?_
      refine r_iconst 262 _ dX9_make_261 rfl ki_0 ?_
      refine r_lld10 264 dX9_make_262 rfl ?_
      obtain ⟨hs, X⟩ := r_cv X
      obtain ⟨_, h108, hc, X⟩ := bnd_ok X
      refine r_callV2v 267 dX9_make_264 rfl lmX9_232 hs (mtX9_roll G hG hc) rfl ⟨(Nat.zero_le _), (Nat.zero_le _)⟩ ?_
      refine r_ald0 268 dX9_make_267 rfl ?_
      refine r_gR 271 dX9_make_268 rfl lfX9_20 rfl X (fun b109 X => ?_)
      refine r_ild1 272 dX9_make_271 rfl ?_
      refine r_aZ 273 2 dX9_make_272 rfl rfl X (fun x110 X => ?_)
      refine r_if_eq 291 276 dX9_make_273 (by decide) rfl X (fun _ X => ?_) (fun _ X => ?_)
      · refine r_iconst 292 _ dX9_make_291 rfl ki_0 ?_
        refine r_ist6 294 dX9_make_292 rfl rfl ?_
        exact r_cut (wX9_make_294 G hG R hK26 _ _ _ _ _ _ _ _ _ _ X) ⟨rfl, ⟨rfl, ⟨rfl, ⟨rfl, ⟨rfl, ⟨rfl, ⟨rfl, ⟨rfl, ⟨rfl, trivial⟩⟩⟩⟩⟩⟩⟩⟩⟩
      · refine r_ild4 278 dX9_make_276 rfl ?_
        refine r_ald0 279 dX9_make_278 rfl ?_
        refine r_gR 282 dX9_make_279 rfl lfX9_17 rfl X (fun b111 X => ?_)
        refine r_ild1 283 dX9_make_282 rfl ?_
        refine r_aI 284 0 dX9_make_283 rfl rfl X (fun x112 X => ?_)
        refine r_icmp_ne 291 287 dX9_make_284 (by decide) rfl X (fun _ X => ?_) (fun _ X => ?_)
        · refine r_iconst 292 _ dX9_make_291 rfl ki_0 ?_
          refine r_ist6 294 dX9_make_292 rfl rfl ?_
          exact r_cut (wX9_make_294 G hG R hK26 _ _ _ _ _ _ _ _ _ _ X) ⟨rfl, ⟨rfl, ⟨rfl, ⟨rfl, ⟨rfl, ⟨rfl, ⟨rfl, ⟨rfl, ⟨rfl, trivial⟩⟩⟩⟩⟩⟩⟩⟩⟩
        · refine r_iconst 288 _ dX9_make_287 rfl ki_1 ?_
          refine r_goto 292 dX9_make_288 (by decide) ?_
          refine r_ist6 294 dX9_make_292 rfl rfl ?_
          exact r_cut (wX9_make_294 G hG R hK26 _ _ _ _ _ _ _ _ _ _ X) ⟨rfl, ⟨rfl, ⟨rfl, ⟨rfl, ⟨rfl, ⟨rfl, ⟨rfl, ⟨rfl, ⟨rfl, trivial⟩⟩⟩⟩⟩⟩⟩⟩⟩
theorem wX9_make_143 (G : GG) (hG : GT G) (R : Int64 × AH) {K26 : Nat → Int32 → Int32 → Int32 → Int32 → Int32 → Int32 → Int32 → Int32 → AH → Fn Int64} (hK26 : ∀ (l0 : Nat) (l1 : Int32) (l2 : Int32) (l3 : Int32) (l4 : Int32) (l5 : Int32) (l6 : Int32) (l7 : Int32) (l8 : Int32) (h : AH), K26 l0 l1 l2 l3 l4 l5 l6 l7 l8 h = some R → AW (eX9_make G R) RX9 cX9_make 26 [some (.ref (gB G + l0)), some (.int l1), some (.int l2), some (.int l3), some (.int l4), some (.int l5), some (.int l6), some (.int l7), some (.int l8), none, none, none] [] h 0 0) (l0 : Nat) (l1 : Int32) (l2 : Int32) (l3 : Int32) (l4 : Int32) (l5 : Int32) (l6 : Int32) (l7 : Int32) (l9 : Int32) (h : AH) (X : fX9_make_143 K26 l0 l1 l2 l3 l4 l5 l6 l7 l9 h = some R) : AW (eX9_make G R) RX9 cX9_make 143 [some (.ref (gB G + l0)), some (.int l1), some (.int l2), some (.int l3), some (.int l4), some (.int l5), some (.int l6), some (.int l7), none, some (.int l9), none, none] [] h 0 0 := by
  unfold fX9_make_143 at X
  refine r_ild9 145 dX9_make_143 rfl ?_
  refine r_if_eq 202 148 dX9_make_145 (by decide) rfl X (fun _ X => ?_) (fun _ X => ?_)
  · refine r_ild6 204 dX9_make_202 rfl ?_
    refine r_if_ne 318 207 dX9_make_204 (by decide) rfl X (fun _ X => ?_) (fun _ X => ?_)
    · exact r_cut (wX9_make_318 G hG R hK26 _ _ _ _ _ _ _ _ _ X) ⟨rfl, ⟨rfl, ⟨rfl, ⟨rfl, ⟨rfl, ⟨rfl, ⟨rfl, ⟨rfl, trivial⟩⟩⟩⟩⟩⟩⟩⟩
    · refine r_ild7 209 dX9_make_207 rfl ?_
      refine r_if_ne 219 212 dX9_make_209 (by decide) rfl X (fun _ X => ?_) (fun _ X => ?_)
      · exact r_cut (wX9_make_219 G hG R hK26 _ _ _ _ _ _ _ _ _ X) ⟨rfl, ⟨rfl, ⟨rfl, ⟨rfl, ⟨rfl, ⟨rfl, ⟨rfl, ⟨rfl, trivial⟩⟩⟩⟩⟩⟩⟩⟩
      · refine r_ild4 214 dX9_make_212 rfl ?_
        refine r_ild5 216 dX9_make_214 rfl ?_
        refine r_icmp_gt 318 219 dX9_make_216 (by decide) rfl X (fun _ X => ?_) (fun _ X => ?_)
        · exact r_cut (wX9_make_318 G hG R hK26 _ _ _ _ _ _ _ _ _ X) ⟨rfl, ⟨rfl, ⟨rfl, ⟨rfl, ⟨rfl, ⟨rfl, ⟨rfl, ⟨rfl, trivial⟩⟩⟩⟩⟩⟩⟩⟩
        · exact r_cut (wX9_make_219 G hG R hK26 _ _ _ _ _ _ _ _ _ X) ⟨rfl, ⟨rfl, ⟨rfl, ⟨rfl, ⟨rfl, ⟨rfl, ⟨rfl, ⟨rfl, trivial⟩⟩⟩⟩⟩⟩⟩⟩
  · refine r_ald0 149 dX9_make_148 rfl ?_
    obtain ⟨hs, X⟩ := r_cv X
    obtain ⟨x102, h101, hc, X⟩ := bnd_ok X
    refine r_callV0 152 dX9_make_149 rfl lmX9_225 hs (mtX9_agree G hG hc) rfl ⟨(Nat.zero_le _), (Nat.zero_le _)⟩ ?_
    refine r_if_eq 202 155 dX9_make_152 (by decide) rfl X (fun _ X => ?_) (fun _ X => ?_)
    · refine r_ild6 204 dX9_make_202 rfl ?_
      refine r_if_ne 318 207 dX9_make_204 (by decide) rfl X (fun _ X => ?_) (fun _ X => ?_)
      · exact r_cut (wX9_make_318 G hG R hK26 _ _ _ _ _ _ _ _ _ X) ⟨rfl, ⟨rfl, ⟨rfl, ⟨rfl, ⟨rfl, ⟨rfl, ⟨rfl, ⟨rfl, trivial⟩⟩⟩⟩⟩⟩⟩⟩
      · refine r_ild7 209 dX9_make_207 rfl ?_
        refine r_if_ne 219 212 dX9_make_209 (by decide) rfl X (fun _ X => ?_) (fun _ X => ?_)
        · exact r_cut (wX9_make_219 G hG R hK26 _ _ _ _ _ _ _ _ _ X) ⟨rfl, ⟨rfl, ⟨rfl, ⟨rfl, ⟨rfl, ⟨rfl, ⟨rfl, ⟨rfl, trivial⟩⟩⟩⟩⟩⟩⟩⟩
        · refine r_ild4 214 dX9_make_212 rfl ?_
          refine r_ild5 216 dX9_make_214 rfl ?_
          refine r_icmp_gt 318 219 dX9_make_216 (by decide) rfl X (fun _ X => ?_) (fun _ X => ?_)
          · exact r_cut (wX9_make_318 G hG R hK26 _ _ _ _ _ _ _ _ _ X) ⟨rfl, ⟨rfl, ⟨rfl, ⟨rfl, ⟨rfl, ⟨rfl, ⟨rfl, ⟨rfl, trivial⟩⟩⟩⟩⟩⟩⟩⟩
          · exact r_cut (wX9_make_219 G hG R hK26 _ _ _ _ _ _ _ _ _ X) ⟨rfl, ⟨rfl, ⟨rfl, ⟨rfl, ⟨rfl, ⟨rfl, ⟨rfl, ⟨rfl, trivial⟩⟩⟩⟩⟩⟩⟩⟩
    · refine r_ald0 156 dX9_make_155 rfl ?_
      refine r_gR 159 dX9_make_156 rfl lfX9_57 rfl X (fun b103 X => ?_)
      refine r_iconst 160 _ dX9_make_159 rfl ki_0 ?_
      refine r_aL 161 1 dX9_make_160 rfl rfl X (fun x104 X => ?_)
      refine r_ald0 162 dX9_make_161 rfl ?_
      refine r_gR 165 dX9_make_162 rfl lfX9_60 rfl X (fun b105 X => ?_)
      refine r_iconst 166 _ dX9_make_165 rfl ki_0 ?_
      refine r_aL 167 1 dX9_make_166 rfl rfl X (fun x106 X => ?_)
      obtain ⟨x108, h107, hc, X⟩ := bnd_ok X
      refine r_callS2 170 dX9_make_167 rfl lmX9_91 (mtX9_floor G hG hc) rfl ⟨(Nat.zero_le _), (Nat.zero_le _)⟩ ?_
      refine r_lst10 172 dX9_make_170 rfl rfl ?_
      refine r_ald0 173 dX9_make_172 rfl ?_
      refine r_lld10 175 dX9_make_173 rfl ?_
      obtain ⟨hs, X⟩ := r_cv X
      obtain ⟨x110, h109, hc, X⟩ := bnd_ok X
      refine r_callV1 178 dX9_make_175 rfl lmX9_228 hs (mtX9_giveOne G hG hc) rfl ⟨(Nat.zero_le _), (Nat.zero_le _)⟩ ?_
      refine r_ist8 180 dX9_make_178 rfl rfl ?_
      refine r_ild8 182 dX9_make_180 rfl ?_
      refine r_if_eq 199 185 dX9_make_182 (by decide) rfl X (fun _ X => ?_) (fun _ X => ?_)
      · refine r_goto 425 dX9_make_199 (by decide) ?_
        refine r_goto 26 dX9_make_425 (by decide) ?_
        exact r_cut (hK26 _ _ _ _ _ _ _ _ _ _ X) ⟨rfl, ⟨rfl, ⟨rfl, ⟨rfl, ⟨rfl, ⟨rfl, ⟨rfl, ⟨rfl, ⟨rfl, trivial⟩⟩⟩⟩⟩⟩⟩⟩⟩
      · refine r_ald0 186 dX9_make_185 rfl ?_
        refine r_ild3 187 dX9_make_186 rfl ?_
        refine r_lld10 189 dX9_make_187 rfl ?_
        obtain ⟨hs, X⟩ := r_cv X
        obtain ⟨_, h111, hc, X⟩ := bnd_ok X
        refine r_callV2v 192 dX9_make_189 rfl lmX9_94 hs (mtX9_give G hG hc) rfl ⟨(Nat.zero_le _), (Nat.zero_le _)⟩ ?_
        refine r_ald0 193 dX9_make_192 rfl ?_
        refine r_iconst 194 _ dX9_make_193 rfl ki_4 ?_
        refine r_lld10 196 dX9_make_194 rfl ?_
        obtain ⟨hs, X⟩ := r_cv X
        obtain ⟨_, h112, hc, X⟩ := bnd_ok X
        refine r_callV2v 199 dX9_make_196 rfl lmX9_232 hs (mtX9_roll G hG hc) rfl ⟨(Nat.zero_le _), (Nat.zero_le _)⟩ ?_
        refine r_goto 425 dX9_make_199 (by decide) ?_
        refine r_goto 26 dX9_make_425 (by decide) ?_
        exact r_cut (hK26 _ _ _ _ _ _ _ _ _ _ X) ⟨rfl, ⟨rfl, ⟨rfl, ⟨rfl, ⟨rfl, ⟨rfl, ⟨rfl, ⟨rfl, ⟨rfl, trivial⟩⟩⟩⟩⟩⟩⟩⟩⟩
theorem wX9_make_90 (G : GG) (hG : GT G) (R : Int64 × AH) {K26 : Nat → Int32 → Int32 → Int32 → Int32 → Int32 → Int32 → Int32 → Int32 → AH → Fn Int64} (hK26 : ∀ (l0 : Nat) (l1 : Int32) (l2 : Int32) (l3 : Int32) (l4 : Int32) (l5 : Int32) (l6 : Int32) (l7 : Int32) (l8 : Int32) (h : AH), K26 l0 l1 l2 l3 l4 l5 l6 l7 l8 h = some R → AW (eX9_make G R) RX9 cX9_make 26 [some (.ref (gB G + l0)), some (.int l1), some (.int l2), some (.int l3), some (.int l4), some (.int l5), some (.int l6), some (.int l7), some (.int l8), none, none, none] [] h 0 0) (l0 : Nat) (l1 : Int32) (l2 : Int32) (l3 : Int32) (l4 : Int32) (l5 : Int32) (l6 : Int32) (l7 : Int32) (l9 : Int32) (h : AH) (X : fX9_make_90 K26 l0 l1 l2 l3 l4 l5 l6 l7 l9 h = some R) : AW (eX9_make G R) RX9 cX9_make 90 [some (.ref (gB G + l0)), some (.int l1), some (.int l2), some (.int l3), some (.int l4), some (.int l5), some (.int l6), some (.int l7), none, some (.int l9), none, none] [] h 0 0 := by
  unfold fX9_make_90 at X
  refine r_ild9 92 dX9_make_90 rfl ?_
  refine r_if_eq 143 95 dX9_make_92 (by decide) rfl X (fun _ X => ?_) (fun _ X => ?_)
  · exact r_cut (wX9_make_143 G hG R hK26 _ _ _ _ _ _ _ _ _ _ X) ⟨rfl, ⟨rfl, ⟨rfl, ⟨rfl, ⟨rfl, ⟨rfl, ⟨rfl, ⟨rfl, ⟨rfl, trivial⟩⟩⟩⟩⟩⟩⟩⟩⟩
  · refine r_ild6 97 dX9_make_95 rfl ?_
    refine r_if_eq 143 100 dX9_make_97 (by decide) rfl X (fun _ X => ?_) (fun _ X => ?_)
    · exact r_cut (wX9_make_143 G hG R hK26 _ _ _ _ _ _ _ _ _ _ X) ⟨rfl, ⟨rfl, ⟨rfl, ⟨rfl, ⟨rfl, ⟨rfl, ⟨rfl, ⟨rfl, ⟨rfl, trivial⟩⟩⟩⟩⟩⟩⟩⟩⟩
    · refine r_ild7 102 dX9_make_100 rfl ?_
      refine r_if_eq 143 105 dX9_make_102 (by decide) rfl X (fun _ X => ?_) (fun _ X => ?_)
      · exact r_cut (wX9_make_143 G hG R hK26 _ _ _ _ _ _ _ _ _ _ X) ⟨rfl, ⟨rfl, ⟨rfl, ⟨rfl, ⟨rfl, ⟨rfl, ⟨rfl, ⟨rfl, ⟨rfl, trivial⟩⟩⟩⟩⟩⟩⟩⟩⟩
      · refine r_ald0 106 dX9_make_105 rfl ?_
        refine r_gR 109 dX9_make_106 rfl lfX9_48 rfl X (fun b101 X => ?_)
        refine r_bipush 111 _ dX9_make_109 rfl kb_7 ?_
        refine r_aL 112 1 dX9_make_111 rfl rfl X (fun x102 X => ?_)
        refine r_lconst 113 _ dX9_make_112 rfl kl_0 ?_
        refine r_lif_ne 143 117 dX9_make_113 dX9_make_114 (by decide) rfl X (fun _ X => ?_) (fun _ X => ?_)
        · exact r_cut (wX9_make_143 G hG R hK26 _ _ _ _ _ _ _ _ _ _ X) ⟨rfl, ⟨rfl, ⟨rfl, ⟨rfl, ⟨rfl, ⟨rfl, ⟨rfl, ⟨rfl, ⟨rfl, trivial⟩⟩⟩⟩⟩⟩⟩⟩⟩
        · refine r_ald0 118 dX9_make_117 rfl ?_
          refine r_gR 121 dX9_make_118 rfl lfX9_20 rfl X (fun b103 X => ?_)
          refine r_ild3 122 dX9_make_121 rfl ?_
          refine r_ald0 123 dX9_make_122 rfl ?_
          refine r_gR 126 dX9_make_123 rfl lfX9_17 rfl X (fun b104 X => ?_)
          refine r_ild3 127 dX9_make_126 rfl ?_
          refine r_aI 128 0 dX9_make_127 rfl rfl X (fun x105 X => ?_)
          refine r_if_le 135 131 dX9_make_128 (by decide) rfl X (fun _ X => ?_) (fun _ X => ?_)
          · refine r_iconst 136 _ dX9_make_135 rfl ki_0 ?_
            refine r_zZ 137 2 dX9_make_136 rfl rfl X (fun h106 X => ?_)
            refine r_iconst 138 _ dX9_make_137 rfl ki_0 ?_
            refine r_ist8 140 dX9_make_138 rfl rfl ?_
            refine r_goto 425 dX9_make_140 (by decide) ?_
            refine r_goto 26 dX9_make_425 (by decide) ?_
            exact r_cut (hK26 _ _ _ _ _ _ _ _ _ _ X) ⟨rfl, ⟨rfl, ⟨rfl, ⟨rfl, ⟨rfl, ⟨rfl, ⟨rfl, ⟨rfl, ⟨rfl, trivial⟩⟩⟩⟩⟩⟩⟩⟩⟩
          · refine r_iconst 132 _ dX9_make_131 rfl ki_1 ?_
            refine r_goto 136 dX9_make_132 (by decide) ?_
            refine r_zZ 137 2 dX9_make_136 rfl rfl X (fun h107 X => ?_)
            refine r_iconst 138 _ dX9_make_137 rfl ki_0 ?_
            refine r_ist8 140 dX9_make_138 rfl rfl ?_
            refine r_goto 425 dX9_make_140 (by decide) ?_
            refine r_goto 26 dX9_make_425 (by decide) ?_
            exact r_cut (hK26 _ _ _ _ _ _ _ _ _ _ X) ⟨rfl, ⟨rfl, ⟨rfl, ⟨rfl, ⟨rfl, ⟨rfl, ⟨rfl, ⟨rfl, ⟨rfl, trivial⟩⟩⟩⟩⟩⟩⟩⟩⟩
theorem wX9_make_57 (G : GG) (hG : GT G) (R : Int64 × AH) {K26 : Nat → Int32 → Int32 → Int32 → Int32 → Int32 → Int32 → Int32 → Int32 → AH → Fn Int64} (hK26 : ∀ (l0 : Nat) (l1 : Int32) (l2 : Int32) (l3 : Int32) (l4 : Int32) (l5 : Int32) (l6 : Int32) (l7 : Int32) (l8 : Int32) (h : AH), K26 l0 l1 l2 l3 l4 l5 l6 l7 l8 h = some R → AW (eX9_make G R) RX9 cX9_make 26 [some (.ref (gB G + l0)), some (.int l1), some (.int l2), some (.int l3), some (.int l4), some (.int l5), some (.int l6), some (.int l7), some (.int l8), none, none, none] [] h 0 0) (l0 : Nat) (l1 : Int32) (l2 : Int32) (l3 : Int32) (l4 : Int32) (l5 : Int32) (l6 : Int32) (l7 : Int32) (s0 : Int32) (h : AH) (X : fX9_make_57 K26 l0 l1 l2 l3 l4 l5 l6 l7 s0 h = some R) : AW (eX9_make G R) RX9 cX9_make 57 [some (.ref (gB G + l0)), some (.int l1), some (.int l2), some (.int l3), some (.int l4), some (.int l5), some (.int l6), some (.int l7), none, none, none, none] [.int s0] h 0 0 := by
  unfold fX9_make_57 at X
  refine r_ist9 59 dX9_make_57 rfl rfl ?_
  refine r_ild9 61 dX9_make_59 rfl ?_
  refine r_if_eq 72 64 dX9_make_61 (by decide) rfl X (fun _ X => ?_) (fun _ X => ?_)
  · refine r_ild9 74 dX9_make_72 rfl ?_
    refine r_if_eq 90 77 dX9_make_74 (by decide) rfl X (fun _ X => ?_) (fun _ X => ?_)
    · exact r_cut (wX9_make_90 G hG R hK26 _ _ _ _ _ _ _ _ _ _ X) ⟨rfl, ⟨rfl, ⟨rfl, ⟨rfl, ⟨rfl, ⟨rfl, ⟨rfl, ⟨rfl, ⟨rfl, trivial⟩⟩⟩⟩⟩⟩⟩⟩⟩
    · refine r_ald0 78 dX9_make_77 rfl ?_
      refine r_gI 81 dX9_make_78 rfl lfX9_69 rfl X (fun x101 X => ?_)
      refine r_if_eq 90 84 dX9_make_81 (by decide) rfl X (fun _ X => ?_) (fun _ X => ?_)
      · exact r_cut (wX9_make_90 G hG R hK26 _ _ _ _ _ _ _ _ _ _ X) ⟨rfl, ⟨rfl, ⟨rfl, ⟨rfl, ⟨rfl, ⟨rfl, ⟨rfl, ⟨rfl, ⟨rfl, trivial⟩⟩⟩⟩⟩⟩⟩⟩⟩
      · refine r_iconst 85 _ dX9_make_84 rfl ki_0 ?_
        refine r_ist8 87 dX9_make_85 rfl rfl ?_
        refine r_goto 425 dX9_make_87 (by decide) ?_
        refine r_goto 26 dX9_make_425 (by decide) ?_
        exact r_cut (hK26 _ _ _ _ _ _ _ _ _ _ X) ⟨rfl, ⟨rfl, ⟨rfl, ⟨rfl, ⟨rfl, ⟨rfl, ⟨rfl, ⟨rfl, ⟨rfl, trivial⟩⟩⟩⟩⟩⟩⟩⟩⟩
  · refine r_ald0 65 dX9_make_64 rfl ?_
    refine r_ild6 67 dX9_make_65 rfl ?_
    refine r_ild7 69 dX9_make_67 rfl ?_
    obtain ⟨hs, X⟩ := r_cv X
    obtain ⟨_, h102, hc, X⟩ := bnd_ok X
    refine r_callV2v 72 dX9_make_69 rfl lmX9_221 hs (mtX9_findCorners G hG hc) rfl ⟨(Nat.zero_le _), (Nat.zero_le _)⟩ ?_
    refine r_ild9 74 dX9_make_72 rfl ?_
    refine r_if_eq 90 77 dX9_make_74 (by decide) rfl X (fun _ X => ?_) (fun _ X => ?_)
    · exact r_cut (wX9_make_90 G hG R hK26 _ _ _ _ _ _ _ _ _ _ X) ⟨rfl, ⟨rfl, ⟨rfl, ⟨rfl, ⟨rfl, ⟨rfl, ⟨rfl, ⟨rfl, ⟨rfl, trivial⟩⟩⟩⟩⟩⟩⟩⟩⟩
    · refine r_ald0 78 dX9_make_77 rfl ?_
      refine r_gI 81 dX9_make_78 rfl lfX9_69 rfl X (fun x103 X => ?_)
      refine r_if_eq 90 84 dX9_make_81 (by decide) rfl X (fun _ X => ?_) (fun _ X => ?_)
      · exact r_cut (wX9_make_90 G hG R hK26 _ _ _ _ _ _ _ _ _ _ X) ⟨rfl, ⟨rfl, ⟨rfl, ⟨rfl, ⟨rfl, ⟨rfl, ⟨rfl, ⟨rfl, ⟨rfl, trivial⟩⟩⟩⟩⟩⟩⟩⟩⟩
      · refine r_iconst 85 _ dX9_make_84 rfl ki_0 ?_
        refine r_ist8 87 dX9_make_85 rfl rfl ?_
        refine r_goto 425 dX9_make_87 (by decide) ?_
        refine r_goto 26 dX9_make_425 (by decide) ?_
        exact r_cut (hK26 _ _ _ _ _ _ _ _ _ _ X) ⟨rfl, ⟨rfl, ⟨rfl, ⟨rfl, ⟨rfl, ⟨rfl, ⟨rfl, ⟨rfl, ⟨rfl, trivial⟩⟩⟩⟩⟩⟩⟩⟩⟩
theorem wX9_make_26 (G : GG) (hG : GT G) (R : Int64 × AH) {K26 : Nat → Int32 → Int32 → Int32 → Int32 → Int32 → Int32 → Int32 → Int32 → AH → Fn Int64} (hK26 : ∀ (l0 : Nat) (l1 : Int32) (l2 : Int32) (l3 : Int32) (l4 : Int32) (l5 : Int32) (l6 : Int32) (l7 : Int32) (l8 : Int32) (h : AH), K26 l0 l1 l2 l3 l4 l5 l6 l7 l8 h = some R → AW (eX9_make G R) RX9 cX9_make 26 [some (.ref (gB G + l0)), some (.int l1), some (.int l2), some (.int l3), some (.int l4), some (.int l5), some (.int l6), some (.int l7), some (.int l8), none, none, none] [] h 0 0) (l0 : Nat) (l1 : Int32) (l2 : Int32) (l3 : Int32) (l4 : Int32) (l5 : Int32) (l6 : Int32) (l7 : Int32) (l8 : Int32) (h : AH) (X : fX9_make_26 K26 l0 l1 l2 l3 l4 l5 l6 l7 l8 h = some R) : AW (eX9_make G R) RX9 cX9_make 26 [some (.ref (gB G + l0)), some (.int l1), some (.int l2), some (.int l3), some (.int l4), some (.int l5), some (.int l6), some (.int l7), some (.int l8), none, none, none] [] h 0 0 := by
  unfold fX9_make_26 at X
  refine r_ild8 28 dX9_make_26 rfl ?_
  refine r_if_eq 428 31 dX9_make_28 (by decide) rfl X (fun _ X => ?_) (fun _ X => ?_)
  · exact r_cut (wX9_make_428 G hG R _ _ _ _ _ X) ⟨rfl, ⟨rfl, ⟨rfl, ⟨rfl, trivial⟩⟩⟩⟩
  · refine r_ald0 32 dX9_make_31 rfl ?_
    refine r_gR 35 dX9_make_32 rfl lfX9_17 rfl X (fun b101 X => ?_)
    refine r_ild3 36 dX9_make_35 rfl ?_
    refine r_aI 37 0 dX9_make_36 rfl rfl X (fun x102 X => ?_)
    refine r_bipush 39 _ dX9_make_37 rfl kb_60 ?_
    refine r_icmp_ge 428 42 dX9_make_39 (by decide) rfl X (fun _ X => ?_) (fun _ X => ?_)
    · exact r_cut (wX9_make_428 G hG R _ _ _ _ _ X) ⟨rfl, ⟨rfl, ⟨rfl, ⟨rfl, trivial⟩⟩⟩⟩
    · refine r_ild4 44 dX9_make_42 rfl ?_
      refine r_if_le 56 47 dX9_make_44 (by decide) rfl X (fun _ X => ?_) (fun _ X => ?_)
      · refine r_iconst 57 _ dX9_make_56 rfl ki_0 ?_
        exact r_cut (wX9_make_57 G hG R hK26 _ _ _ _ _ _ _ _ _ _ X) ⟨rfl, ⟨rfl, ⟨rfl, ⟨rfl, ⟨rfl, ⟨rfl, ⟨rfl, ⟨rfl, trivial⟩⟩⟩⟩⟩⟩⟩⟩
      · refine r_ild5 49 dX9_make_47 rfl ?_
        refine r_if_le 56 52 dX9_make_49 (by decide) rfl X (fun _ X => ?_) (fun _ X => ?_)
        · refine r_iconst 57 _ dX9_make_56 rfl ki_0 ?_
          exact r_cut (wX9_make_57 G hG R hK26 _ _ _ _ _ _ _ _ _ _ X) ⟨rfl, ⟨rfl, ⟨rfl, ⟨rfl, ⟨rfl, ⟨rfl, ⟨rfl, ⟨rfl, trivial⟩⟩⟩⟩⟩⟩⟩⟩
        · refine r_iconst 53 _ dX9_make_52 rfl ki_1 ?_
          refine r_goto 57 dX9_make_53 (by decide) ?_
          exact r_cut (wX9_make_57 G hG R hK26 _ _ _ _ _ _ _ _ _ _ X) ⟨rfl, ⟨rfl, ⟨rfl, ⟨rfl, ⟨rfl, ⟨rfl, ⟨rfl, ⟨rfl, trivial⟩⟩⟩⟩⟩⟩⟩⟩
theorem wX9_make_26L (G : GG) (hG : GT G) (R : Int64 × AH) : ∀ (m : Nat) (l0 : Nat) (l1 : Int32) (l2 : Int32) (l3 : Int32) (l4 : Int32) (l5 : Int32) (l6 : Int32) (l7 : Int32) (l8 : Int32) (h : AH), fX9_make_26L m l0 l1 l2 l3 l4 l5 l6 l7 l8 h = some R → AW (eX9_make G R) RX9 cX9_make 26 [some (.ref (gB G + l0)), some (.int l1), some (.int l2), some (.int l3), some (.int l4), some (.int l5), some (.int l6), some (.int l7), some (.int l8), none, none, none] [] h 0 0 := by
  intro m
  induction m with
  | zero => intro l0 l1 l2 l3 l4 l5 l6 l7 l8 h X; exact nomatch (show (none : Fn Int64) = some R from X)
  | succ m ih => intro l0 l1 l2 l3 l4 l5 l6 l7 l8 h X; exact wX9_make_26 G hG R ih l0 l1 l2 l3 l4 l5 l6 l7 l8 h X
theorem wX9_make (G : GG) (hG : GT G) (R : Int64 × AH) (a0 : Nat) (x0 : Int32) (x1 : Int32) (h : AH) (X : fX9_make a0 x0 x1 h = some R) : AW (eX9_make G R) RX9 cX9_make 0 [some (.ref (gB G + a0)), some (.int x0), some (.int x1), none, none, none, none, none, none, none, none, none] [] h 0 0 := by
  unfold fX9_make at X
  refine r_ald0 1 dX9_make_0 rfl ?_
  refine r_iconst 2 _ dX9_make_1 rfl ki_3 ?_
  obtain ⟨hs, X⟩ := r_cv X
  obtain ⟨x102, h101, hc, X⟩ := bnd_ok X
  refine r_callV1 5 dX9_make_2 rfl lmX9_83 hs (mtX9_newStream G hG hc) rfl ⟨(Nat.zero_le _), (Nat.zero_le _)⟩ ?_
  refine r_ist3 6 dX9_make_5 rfl rfl ?_
  refine r_ald0 7 dX9_make_6 rfl ?_
  refine r_iconst 8 _ dX9_make_7 rfl ki_0 ?_
  refine r_pI 11 dX9_make_8 rfl lpX9_207 rfl X (fun h103 X => ?_)
  refine r_iconst 12 _ dX9_make_11 rfl ki_0 ?_
  refine r_ist4 14 dX9_make_12 rfl rfl ?_
  refine r_iconst 15 _ dX9_make_14 rfl ki_0 ?_
  refine r_ist5 17 dX9_make_15 rfl rfl ?_
  refine r_iconst 18 _ dX9_make_17 rfl ki_0 ?_
  refine r_ist6 20 dX9_make_18 rfl rfl ?_
  refine r_iconst 21 _ dX9_make_20 rfl ki_0 ?_
  refine r_ist7 23 dX9_make_21 rfl rfl ?_
  refine r_iconst 24 _ dX9_make_23 rfl ki_1 ?_
  refine r_ist8 26 dX9_make_24 rfl rfl ?_
  exact r_cut (wX9_make_26L G hG R 1000 _ _ _ _ _ _ _ _ _ _ X) ⟨rfl, ⟨rfl, ⟨rfl, ⟨rfl, ⟨rfl, ⟨rfl, ⟨rfl, ⟨rfl, ⟨rfl, trivial⟩⟩⟩⟩⟩⟩⟩⟩⟩
theorem mtX9_make (G : GG) (hG : GT G) {a0 : Nat} {x0 : Int32} {x1 : Int32} {h h' : AH} {v : Int64} (hc : fX9_make a0 x0 x1 h = some (v, h')) : AMet G yX9_make cX9_make 12 (some .long) 4 96 0 0 [.ref (gB G + a0), .int x0, .int x1] h (some (.long v)) h' :=
  amet_of false [some (.ref (gB G + a0)), some (.int x0), some (.int x1), none, none, none, none, none, none, none, none, none] (by decide +kernel) (by decide) (Nat.le_of_ble_eq_true rfl) rfl (Nat.le_of_ble_eq_true rfl) (wX9_make G hG (v, h') _ _ _ h hc)
abbrev eX9_noStream (G : GG) (R : Int32 × AH) : EE := eM G 2 (some .boolean) false 1 25 0 0 (some (.int R.1)) R.2
theorem wX9_noStream (G : GG) (hG : GT G) (R : Int32 × AH) (a0 : Nat) (x0 : Int32) (h : AH) (X : fX9_noStream a0 x0 h = some R) : AW (eX9_noStream G R) RX9 cX9_noStream 0 [some (.ref (gB G + a0)), some (.int x0)] [] h 0 0 := by
  unfold fX9_noStream at X
  refine r_ild1 1 dX9_noStream_0 rfl ?_
  refine r_i2l 2 dX9_noStream_1 rfl ?_
  refine r_lconst 3 _ dX9_noStream_2 rfl kl_0 ?_
  refine r_ldc2 6 dX9_noStream_3 rfl lkX9_73 ?_
  obtain ⟨x102, h101, hc, X⟩ := bnd_ok X
  refine r_callS3 9 dX9_noStream_6 rfl lmX9_75 (mtX9_in G hG hc) rfl ⟨(Nat.zero_le _), (Nat.zero_le _)⟩ ?_
  refine r_if_eq 21 12 dX9_noStream_9 (by decide) rfl X (fun _ X => ?_) (fun _ X => ?_)
  · refine r_iconst 22 _ dX9_noStream_21 rfl ki_1 ?_
    refine r_goto 26 dX9_noStream_22 (by decide) ?_
    exact r_ret1 dX9_noStream_26 (Nat.zero_le _) (Nat.zero_le _) X
  · refine r_ald0 13 dX9_noStream_12 rfl ?_
    refine r_gR 16 dX9_noStream_13 rfl lfX9_7 rfl X (fun b103 X => ?_)
    refine r_ild1 17 dX9_noStream_16 rfl ?_
    refine r_aZ 18 2 dX9_noStream_17 rfl rfl X (fun x104 X => ?_)
    refine r_if_ne 25 21 dX9_noStream_18 (by decide) rfl X (fun _ X => ?_) (fun _ X => ?_)
    · refine r_iconst 26 _ dX9_noStream_25 rfl ki_0 ?_
      exact r_ret0 dX9_noStream_26 (Nat.zero_le _) (Nat.zero_le _) X
    · refine r_iconst 22 _ dX9_noStream_21 rfl ki_1 ?_
      refine r_goto 26 dX9_noStream_22 (by decide) ?_
      exact r_ret1 dX9_noStream_26 (Nat.zero_le _) (Nat.zero_le _) X
theorem mtX9_noStream (G : GG) (hG : GT G) {a0 : Nat} {x0 : Int32} {h h' : AH} {v : Int32} (hc : fX9_noStream a0 x0 h = some (v, h')) : AMet G yX9_noStream cX9_noStream 2 (some .boolean) 1 25 0 0 [.ref (gB G + a0), .int x0] h (some (.int v)) h' :=
  amet_of false [some (.ref (gB G + a0)), some (.int x0)] (by decide +kernel) (by decide) (Nat.le_of_ble_eq_true rfl) rfl (Nat.le_of_ble_eq_true rfl) (wX9_noStream G hG (v, h') _ _ h hc)
abbrev eX9_act (G : GG) (R : Int64 × AH) : EE := eM G 5 (some .long) false 5 142 0 0 (some (.long R.1)) R.2
theorem wX9_act_107 (G : GG) (hG : GT G) (R : Int64 × AH) (l0 : Nat) (l1 : Int32) (l2 : Int32) (l3 : Int32) (h : AH) (X : fX9_act_107 l0 l1 l2 l3 h = some R) : AW (eX9_act G R) RX9 cX9_act 107 [some (.ref (gB G + l0)), some (.int l1), some (.int l2), some (.int l3), none] [] h 0 0 := by
  unfold fX9_act_107 at X
  refine r_ild1 108 dX9_act_107 rfl ?_
  refine r_iconst 109 _ dX9_act_108 rfl ki_2 ?_
  refine r_icmp_ge 147 112 dX9_act_109 (by decide) rfl X (fun _ X => ?_) (fun _ X => ?_)
  · refine r_ild1 148 dX9_act_147 rfl ?_
    refine r_iconst 149 _ dX9_act_148 rfl ki_2 ?_
    refine r_icmp_ne 170 152 dX9_act_149 (by decide) rfl X (fun _ X => ?_) (fun _ X => ?_)
    · refine r_ald0 171 dX9_act_170 rfl ?_
      refine r_gR 174 dX9_act_171 rfl lfX9_48 rfl X (fun b101 X => ?_)
      refine r_iconst 175 _ dX9_act_174 rfl ki_1 ?_
      refine r_lconst 176 _ dX9_act_175 rfl kl_1 ?_
      refine r_zL 177 1 dX9_act_176 rfl rfl X (fun h102 X => ?_)
      refine r_ald0 178 dX9_act_177 rfl ?_
      refine r_gR 181 dX9_act_178 rfl lfX9_48 rfl X (fun b103 X => ?_)
      refine r_bipush 183 _ dX9_act_181 rfl kb_6 ?_
      refine r_lconst 184 _ dX9_act_183 rfl kl_1 ?_
      refine r_zL 185 1 dX9_act_184 rfl rfl X (fun h104 X => ?_)
      refine r_ald0 186 dX9_act_185 rfl ?_
      refine r_ild2 187 dX9_act_186 rfl ?_
      refine r_ild3 188 dX9_act_187 rfl ?_
      obtain ⟨hs, X⟩ := r_cv X
      obtain ⟨x106, h105, hc, X⟩ := bnd_ok X
      refine r_callV2 191 dX9_act_188 rfl lmX9_198 hs (mtX9_make G hG hc) rfl ⟨(Nat.zero_le _), (Nat.zero_le _)⟩ ?_
      exact r_retL dX9_act_191 (Nat.zero_le _) (Nat.zero_le _) X
    · refine r_ald0 153 dX9_act_152 rfl ?_
      refine r_gR 156 dX9_act_153 rfl lfX9_48 rfl X (fun b107 X => ?_)
      refine r_iconst 157 _ dX9_act_156 rfl ki_0 ?_
      refine r_lconst 158 _ dX9_act_157 rfl kl_1 ?_
      refine r_zL 159 1 dX9_act_158 rfl rfl X (fun h108 X => ?_)
      refine r_ald0 160 dX9_act_159 rfl ?_
      refine r_gR 163 dX9_act_160 rfl lfX9_48 rfl X (fun b109 X => ?_)
      refine r_bipush 165 _ dX9_act_163 rfl kb_7 ?_
      refine r_lconst 166 _ dX9_act_165 rfl kl_1 ?_
      refine r_zL 167 1 dX9_act_166 rfl rfl X (fun h110 X => ?_)
      refine r_goto 185 dX9_act_167 (by decide) ?_
      refine r_ald0 186 dX9_act_185 rfl ?_
      refine r_ild2 187 dX9_act_186 rfl ?_
      refine r_ild3 188 dX9_act_187 rfl ?_
      obtain ⟨hs, X⟩ := r_cv X
      obtain ⟨x112, h111, hc, X⟩ := bnd_ok X
      refine r_callV2 191 dX9_act_188 rfl lmX9_198 hs (mtX9_make G hG hc) rfl ⟨(Nat.zero_le _), (Nat.zero_le _)⟩ ?_
      exact r_retL dX9_act_191 (Nat.zero_le _) (Nat.zero_le _) X
  · refine r_ald0 113 dX9_act_112 rfl ?_
    refine r_gR 116 dX9_act_113 rfl lfX9_48 rfl X (fun b113 X => ?_)
    refine r_iconst 117 _ dX9_act_116 rfl ki_1 ?_
    refine r_lconst 118 _ dX9_act_117 rfl kl_1 ?_
    refine r_zL 119 1 dX9_act_118 rfl rfl X (fun h114 X => ?_)
    refine r_ald0 120 dX9_act_119 rfl ?_
    refine r_gR 123 dX9_act_120 rfl lfX9_48 rfl X (fun b115 X => ?_)
    refine r_iconst 124 _ dX9_act_123 rfl ki_2 ?_
    refine r_ild1 125 dX9_act_124 rfl ?_
    refine r_if_ne 132 128 dX9_act_125 (by decide) rfl X (fun _ X => ?_) (fun _ X => ?_)
    · refine r_ldc2 135 dX9_act_132 rfl lkX9_149 ?_
      refine r_zL 136 1 dX9_act_135 rfl rfl X (fun h116 X => ?_)
      refine r_ald0 137 dX9_act_136 rfl ?_
      refine r_gR 140 dX9_act_137 rfl lfX9_48 rfl X (fun b117 X => ?_)
      refine r_bipush 142 _ dX9_act_140 rfl kb_7 ?_
      refine r_lconst 143 _ dX9_act_142 rfl kl_1 ?_
      refine r_zL 144 1 dX9_act_143 rfl rfl X (fun h118 X => ?_)
      refine r_goto 185 dX9_act_144 (by decide) ?_
      refine r_ald0 186 dX9_act_185 rfl ?_
      refine r_ild2 187 dX9_act_186 rfl ?_
      refine r_ild3 188 dX9_act_187 rfl ?_
      obtain ⟨hs, X⟩ := r_cv X
      obtain ⟨x120, h119, hc, X⟩ := bnd_ok X
      refine r_callV2 191 dX9_act_188 rfl lmX9_198 hs (mtX9_make G hG hc) rfl ⟨(Nat.zero_le _), (Nat.zero_le _)⟩ ?_
      exact r_retL dX9_act_191 (Nat.zero_le _) (Nat.zero_le _) X
    · refine r_lconst 129 _ dX9_act_128 rfl kl_1 ?_
      refine r_goto 135 dX9_act_129 (by decide) ?_
      refine r_zL 136 1 dX9_act_135 rfl rfl X (fun h121 X => ?_)
      refine r_ald0 137 dX9_act_136 rfl ?_
      refine r_gR 140 dX9_act_137 rfl lfX9_48 rfl X (fun b122 X => ?_)
      refine r_bipush 142 _ dX9_act_140 rfl kb_7 ?_
      refine r_lconst 143 _ dX9_act_142 rfl kl_1 ?_
      refine r_zL 144 1 dX9_act_143 rfl rfl X (fun h123 X => ?_)
      refine r_goto 185 dX9_act_144 (by decide) ?_
      refine r_ald0 186 dX9_act_185 rfl ?_
      refine r_ild2 187 dX9_act_186 rfl ?_
      refine r_ild3 188 dX9_act_187 rfl ?_
      obtain ⟨hs, X⟩ := r_cv X
      obtain ⟨x125, h124, hc, X⟩ := bnd_ok X
      refine r_callV2 191 dX9_act_188 rfl lmX9_198 hs (mtX9_make G hG hc) rfl ⟨(Nat.zero_le _), (Nat.zero_le _)⟩ ?_
      exact r_retL dX9_act_191 (Nat.zero_le _) (Nat.zero_le _) X
theorem wX9_act_86 (G : GG) (hG : GT G) (R : Int64 × AH) {K86 : Nat → Int32 → Int32 → Int32 → Int32 → AH → Fn Int64} (hK86 : ∀ (l0 : Nat) (l1 : Int32) (l2 : Int32) (l3 : Int32) (l4 : Int32) (h : AH), K86 l0 l1 l2 l3 l4 h = some R → AW (eX9_act G R) RX9 cX9_act 86 [some (.ref (gB G + l0)), some (.int l1), some (.int l2), some (.int l3), some (.int l4)] [] h 0 0) (l0 : Nat) (l1 : Int32) (l2 : Int32) (l3 : Int32) (l4 : Int32) (h : AH) (X : fX9_act_86 K86 l0 l1 l2 l3 l4 h = some R) : AW (eX9_act G R) RX9 cX9_act 86 [some (.ref (gB G + l0)), some (.int l1), some (.int l2), some (.int l3), some (.int l4)] [] h 0 0 := by
  unfold fX9_act_86 at X
  refine r_ild4 88 dX9_act_86 rfl ?_
  refine r_bipush 90 _ dX9_act_88 rfl kb_8 ?_
  refine r_icmp_ge 107 93 dX9_act_90 (by decide) rfl X (fun _ X => ?_) (fun _ X => ?_)
  · exact r_cut (wX9_act_107 G hG R _ _ _ _ _ X) ⟨rfl, ⟨rfl, ⟨rfl, ⟨rfl, trivial⟩⟩⟩⟩
  · refine r_ald0 94 dX9_act_93 rfl ?_
    refine r_gR 97 dX9_act_94 rfl lfX9_48 rfl X (fun b101 X => ?_)
    refine r_ild4 99 dX9_act_97 rfl ?_
    refine r_lconst 100 _ dX9_act_99 rfl kl_0 ?_
    refine r_zL 101 1 dX9_act_100 rfl rfl X (fun h102 X => ?_)
    refine r_iinc4w 104 dX9_act_101 rfl rfl ki_1 X (fun x103 X => ?_)
    refine r_goto 86 dX9_act_104 (by decide) ?_
    exact r_cut (hK86 _ _ _ _ _ _ X) ⟨rfl, ⟨rfl, ⟨rfl, ⟨rfl, ⟨rfl, trivial⟩⟩⟩⟩⟩
theorem wX9_act_86L (G : GG) (hG : GT G) (R : Int64 × AH) : ∀ (m : Nat) (l0 : Nat) (l1 : Int32) (l2 : Int32) (l3 : Int32) (l4 : Int32) (h : AH), fX9_act_86L m l0 l1 l2 l3 l4 h = some R → AW (eX9_act G R) RX9 cX9_act 86 [some (.ref (gB G + l0)), some (.int l1), some (.int l2), some (.int l3), some (.int l4)] [] h 0 0 := by
  intro m
  induction m with
  | zero => intro l0 l1 l2 l3 l4 h X; exact nomatch (show (none : Fn Int64) = some R from X)
  | succ m ih => intro l0 l1 l2 l3 l4 h X; exact wX9_act_86 G hG R ih l0 l1 l2 l3 l4 h X
theorem wX9_act_53 (G : GG) (hG : GT G) (R : Int64 × AH) (l0 : Nat) (l1 : Int32) (l2 : Int32) (l3 : Int32) (h : AH) (X : fX9_act_53 l0 l1 l2 l3 h = some R) : AW (eX9_act G R) RX9 cX9_act 53 [some (.ref (gB G + l0)), some (.int l1), some (.int l2), some (.int l3), none] [] h 0 0 := by
  unfold fX9_act_53 at X
  refine r_ald0 54 dX9_act_53 rfl ?_
  refine r_gI 57 dX9_act_54 rfl lfX9_79 rfl X (fun x101 X => ?_)
  refine r_bipush 59 _ dX9_act_57 rfl kb_40 ?_
  refine r_icmp_ne 66 62 dX9_act_59 (by decide) rfl X (fun _ X => ?_) (fun _ X => ?_)
  · refine r_ald0 67 dX9_act_66 rfl ?_
    refine r_ild2 68 dX9_act_67 rfl ?_
    refine r_ild3 69 dX9_act_68 rfl ?_
    obtain ⟨hs, X⟩ := r_cv X
    obtain ⟨x103, h102, hc, X⟩ := bnd_ok X
    refine r_callV2 72 dX9_act_69 rfl lmX9_190 hs (mtX9_isExact G hG hc) rfl ⟨(Nat.zero_le _), (Nat.zero_le _)⟩ ?_
    refine r_if_eq 83 75 dX9_act_72 (by decide) rfl X (fun _ X => ?_) (fun _ X => ?_)
    · refine r_iconst 84 _ dX9_act_83 rfl ki_0 ?_
      refine r_ist4 86 dX9_act_84 rfl rfl ?_
      exact r_cut (wX9_act_86L G hG R 1000 _ _ _ _ _ _ X) ⟨rfl, ⟨rfl, ⟨rfl, ⟨rfl, ⟨rfl, trivial⟩⟩⟩⟩⟩
    · refine r_ald0 76 dX9_act_75 rfl ?_
      refine r_ild1 77 dX9_act_76 rfl ?_
      refine r_ild2 78 dX9_act_77 rfl ?_
      refine r_ild3 79 dX9_act_78 rfl ?_
      obtain ⟨hs, X⟩ := r_cv X
      obtain ⟨x105, h104, hc, X⟩ := bnd_ok X
      refine r_callV3 82 dX9_act_79 rfl lmX9_194 hs (mtX9_exactOf G hG hc) rfl ⟨(Nat.zero_le _), (Nat.zero_le _)⟩ ?_
      exact r_retL dX9_act_82 (Nat.zero_le _) (Nat.zero_le _) X
  · refine r_ldc2 65 dX9_act_62 rfl lkX9_111 ?_
    exact r_retL dX9_act_65 (Nat.zero_le _) (Nat.zero_le _) X
theorem wX9_act (G : GG) (hG : GT G) (R : Int64 × AH) (a0 : Nat) (x0 : Int32) (x1 : Int32) (x2 : Int32) (h : AH) (X : fX9_act a0 x0 x1 x2 h = some R) : AW (eX9_act G R) RX9 cX9_act 0 [some (.ref (gB G + a0)), some (.int x0), some (.int x1), some (.int x2), none] [] h 0 0 := by
  unfold fX9_act at X
  refine r_ald0 1 dX9_act_0 rfl ?_
  refine r_ild2 2 dX9_act_1 rfl ?_
  obtain ⟨hs, X⟩ := r_cv X
  obtain ⟨x102, h101, hc, X⟩ := bnd_ok X
  refine r_callV1 5 dX9_act_2 rfl lmX9_179 hs (mtX9_noStream G hG hc) rfl ⟨(Nat.zero_le _), (Nat.zero_le _)⟩ ?_
  refine r_if_ne 16 8 dX9_act_5 (by decide) rfl X (fun _ X => ?_) (fun _ X => ?_)
  · refine r_ldc2 19 dX9_act_16 rfl lkX9_183 ?_
    exact r_retL dX9_act_19 (Nat.zero_le _) (Nat.zero_le _) X
  · refine r_ald0 9 dX9_act_8 rfl ?_
    refine r_ild3 10 dX9_act_9 rfl ?_
    obtain ⟨hs, X⟩ := r_cv X
    obtain ⟨x104, h103, hc, X⟩ := bnd_ok X
    refine r_callV1 13 dX9_act_10 rfl lmX9_179 hs (mtX9_noStream G hG hc) rfl ⟨(Nat.zero_le _), (Nat.zero_le _)⟩ ?_
    refine r_if_eq 20 16 dX9_act_13 (by decide) rfl X (fun _ X => ?_) (fun _ X => ?_)
    · refine r_ild1 21 dX9_act_20 rfl ?_
      refine r_i2l 22 dX9_act_21 rfl ?_
      refine r_lconst 23 _ dX9_act_22 rfl kl_0 ?_
      refine r_ldc2 26 dX9_act_23 rfl lkX9_185 ?_
      obtain ⟨x106, h105, hc, X⟩ := bnd_ok X
      refine r_callS3 29 dX9_act_26 rfl lmX9_75 (mtX9_in G hG hc) rfl ⟨(Nat.zero_le _), (Nat.zero_le _)⟩ ?_
      refine r_if_ne 36 32 dX9_act_29 (by decide) rfl X (fun _ X => ?_) (fun _ X => ?_)
      · refine r_ild1 37 dX9_act_36 rfl ?_
        refine r_iconst 38 _ dX9_act_37 rfl ki_3 ?_
        refine r_icmp_ne 53 41 dX9_act_38 (by decide) rfl X (fun _ X => ?_) (fun _ X => ?_)
        · exact r_cut (wX9_act_53 G hG R _ _ _ _ _ X) ⟨rfl, ⟨rfl, ⟨rfl, ⟨rfl, trivial⟩⟩⟩⟩
        · refine r_ald0 42 dX9_act_41 rfl ?_
          refine r_ild3 43 dX9_act_42 rfl ?_
          obtain ⟨hs, X⟩ := r_cv X
          obtain ⟨x108, h107, hc, X⟩ := bnd_ok X
          refine r_callV1 46 dX9_act_43 rfl lmX9_187 hs (mtX9_isNought G hG hc) rfl ⟨(Nat.zero_le _), (Nat.zero_le _)⟩ ?_
          refine r_if_eq 53 49 dX9_act_46 (by decide) rfl X (fun _ X => ?_) (fun _ X => ?_)
          · exact r_cut (wX9_act_53 G hG R _ _ _ _ _ X) ⟨rfl, ⟨rfl, ⟨rfl, ⟨rfl, trivial⟩⟩⟩⟩
          · refine r_ldc2 52 dX9_act_49 rfl lkX9_143 ?_
            exact r_retL dX9_act_52 (Nat.zero_le _) (Nat.zero_le _) X
      · refine r_ldc2 35 dX9_act_32 rfl lkX9_109 ?_
        exact r_retL dX9_act_35 (Nat.zero_le _) (Nat.zero_le _) X
    · refine r_ldc2 19 dX9_act_16 rfl lkX9_183 ?_
      exact r_retL dX9_act_19 (Nat.zero_le _) (Nat.zero_le _) X
theorem mtX9_act (G : GG) (hG : GT G) {a0 : Nat} {x0 : Int32} {x1 : Int32} {x2 : Int32} {h h' : AH} {v : Int64} (hc : fX9_act a0 x0 x1 x2 h = some (v, h')) : AMet G yX9_act cX9_act 5 (some .long) 5 142 0 0 [.ref (gB G + a0), .int x0, .int x1, .int x2] h (some (.long v)) h' :=
  amet_of false [some (.ref (gB G + a0)), some (.int x0), some (.int x1), some (.int x2), none] (by decide +kernel) (by decide) (Nat.le_of_ble_eq_true rfl) rfl (Nat.le_of_ble_eq_true rfl) (wX9_act G hG (v, h') _ _ _ _ h hc)
abbrev eX9_against (G : GG) (R : Int32 × AH) : EE := eM G 18 (some .int) false 1 25 0 0 (some (.int R.1)) R.2
theorem wX9_against_133 (G : GG) (hG : GT G) (R : Int32 × AH) (l10 : Int32) (s0 : Int32) (h : AH) (X : fX9_against_133 l10 s0 h = some R) : AW (eX9_against G R) RX9 cX9_against 133 [none, none, none, none, none, none, none, none, none, none, some (.int l10), none, none, none, none, none, none, none] [.int s0] h 0 0 := by
  unfold fX9_against_133 at X
  refine r_ild10 135 dX9_against_133 rfl ?_
  refine r_iconst 136 _ dX9_against_135 rfl ki_2 ?_
  refine r_irem 137 dX9_against_136 rfl X (fun X => ?_)
  refine r_if_ne 144 140 dX9_against_137 (by decide) rfl X (fun _ X => ?_) (fun _ X => ?_)
  · refine r_iconst 145 _ dX9_against_144 rfl ki_0 ?_
    refine r_icmp_ne 152 148 dX9_against_145 (by decide) rfl X (fun _ X => ?_) (fun _ X => ?_)
    · refine r_iconst 153 _ dX9_against_152 rfl ki_1 ?_
      exact r_retI dX9_against_153 (Nat.zero_le _) (Nat.zero_le _) X
    · refine r_iconst 149 _ dX9_against_148 rfl ki_m1 ?_
      refine r_goto 153 dX9_against_149 (by decide) ?_
      exact r_retI dX9_against_153 (Nat.zero_le _) (Nat.zero_le _) X
  · refine r_iconst 141 _ dX9_against_140 rfl ki_1 ?_
    refine r_goto 145 dX9_against_141 (by decide) ?_
    refine r_icmp_ne 152 148 dX9_against_145 (by decide) rfl X (fun _ X => ?_) (fun _ X => ?_)
    · refine r_iconst 153 _ dX9_against_152 rfl ki_1 ?_
      exact r_retI dX9_against_153 (Nat.zero_le _) (Nat.zero_le _) X
    · refine r_iconst 149 _ dX9_against_148 rfl ki_m1 ?_
      refine r_goto 153 dX9_against_149 (by decide) ?_
      exact r_retI dX9_against_153 (Nat.zero_le _) (Nat.zero_le _) X
theorem wX9_against_120 (G : GG) (hG : GT G) (R : Int32 × AH) (l10 : Int32) (l12 : Int64) (l14 : Int64) (h : AH) (X : fX9_against_120 l10 l12 l14 h = some R) : AW (eX9_against G R) RX9 cX9_against 120 [none, none, none, none, none, none, none, none, none, none, some (.int l10), none, some (.long l12), none, some (.long l14), none, none, none] [] h 0 0 := by
  unfold fX9_against_120 at X
  refine r_lld12 122 dX9_against_120 rfl ?_
  refine r_lld14 124 dX9_against_122 rfl ?_
  refine r_lif_ge 132 128 dX9_against_124 dX9_against_125 (by decide) rfl X (fun _ X => ?_) (fun _ X => ?_)
  · refine r_iconst 133 _ dX9_against_132 rfl ki_0 ?_
    exact r_cut (wX9_against_133 G hG R _ _ _ X) ⟨rfl, trivial⟩
  · refine r_iconst 129 _ dX9_against_128 rfl ki_1 ?_
    refine r_goto 133 dX9_against_129 (by decide) ?_
    exact r_cut (wX9_against_133 G hG R _ _ _ X) ⟨rfl, trivial⟩
theorem wX9_against_110 (G : GG) (hG : GT G) (R : Int32 × AH) {K10 : Nat → Int32 → Int64 → Int64 → Int32 → AH → Fn Int32} (hK10 : ∀ (l0 : Nat) (l1 : Int32) (l6 : Int64) (l8 : Int64) (l10 : Int32) (h : AH), K10 l0 l1 l6 l8 l10 h = some R → AW (eX9_against G R) RX9 cX9_against 10 [some (.ref (gB G + l0)), some (.int l1), none, none, none, none, some (.long l6), none, some (.long l8), none, some (.int l10), none, none, none, none, none, none, none] [] h 0 0) (l0 : Nat) (l1 : Int32) (l6 : Int64) (l8 : Int64) (l10 : Int32) (l12 : Int64) (s0 : Int64) (h : AH) (X : fX9_against_110 K10 l0 l1 l6 l8 l10 l12 s0 h = some R) : AW (eX9_against G R) RX9 cX9_against 110 [some (.ref (gB G + l0)), some (.int l1), none, none, none, none, some (.long l6), none, some (.long l8), none, some (.int l10), none, some (.long l12), none, none, none, none, none] [.long s0] h 0 0 := by
  unfold fX9_against_110 at X
  refine r_lst14 112 dX9_against_110 rfl rfl ?_
  refine r_lld12 114 dX9_against_112 rfl ?_
  refine r_lld14 116 dX9_against_114 rfl ?_
  refine r_lif_eq 154 120 dX9_against_116 dX9_against_117 (by decide) rfl X (fun _ X => ?_) (fun _ X => ?_)
  · refine r_lld6 156 dX9_against_154 rfl ?_
    refine r_lld14 158 dX9_against_156 rfl ?_
    refine r_lld8 160 dX9_against_158 rfl ?_
    refine r_lmul 161 dX9_against_160 rfl ?_
    refine r_lsub 162 dX9_against_161 rfl ?_
    refine r_lst16w 164 dX9_against_162 rfl rfl X (fun x101 X => ?_)
    refine r_lld8 166 dX9_against_164 rfl ?_
    refine r_lst6 168 dX9_against_166 rfl rfl ?_
    refine r_lld16 170 dX9_against_168 rfl ?_
    refine r_lst8 172 dX9_against_170 rfl rfl ?_
    refine r_iinc10w 175 dX9_against_172 rfl rfl ki_1 X (fun x102 X => ?_)
    refine r_goto 10 dX9_against_175 (by decide) ?_
    exact r_cut (hK10 _ _ _ _ _ _ X) ⟨rfl, ⟨rfl, ⟨rfl, ⟨rfl, ⟨rfl, trivial⟩⟩⟩⟩⟩
  · exact r_cut (wX9_against_120 G hG R _ _ _ _ X) ⟨rfl, ⟨rfl, ⟨rfl, trivial⟩⟩⟩
theorem wX9_against_65 (G : GG) (hG : GT G) (R : Int32 × AH) {K10 : Nat → Int32 → Int64 → Int64 → Int32 → AH → Fn Int32} (hK10 : ∀ (l0 : Nat) (l1 : Int32) (l6 : Int64) (l8 : Int64) (l10 : Int32) (h : AH), K10 l0 l1 l6 l8 l10 h = some R → AW (eX9_against G R) RX9 cX9_against 10 [some (.ref (gB G + l0)), some (.int l1), none, none, none, none, some (.long l6), none, some (.long l8), none, some (.int l10), none, none, none, none, none, none, none] [] h 0 0) (l0 : Nat) (l1 : Int32) (l6 : Int64) (l8 : Int64) (l10 : Int32) (l11 : Int32) (h : AH) (X : fX9_against_65 K10 l0 l1 l6 l8 l10 l11 h = some R) : AW (eX9_against G R) RX9 cX9_against 65 [some (.ref (gB G + l0)), some (.int l1), none, none, none, none, some (.long l6), none, some (.long l8), none, some (.int l10), some (.int l11), none, none, none, none, none, none] [] h 0 0 := by
  unfold fX9_against_65 at X
  refine r_ild11 67 dX9_against_65 rfl ?_
  refine r_if_eq 85 70 dX9_against_67 (by decide) rfl X (fun _ X => ?_) (fun _ X => ?_)
  · refine r_ldc2 88 dX9_against_85 rfl lkX9_257 ?_
    refine r_lst12 90 dX9_against_88 rfl rfl ?_
    refine r_lld8 92 dX9_against_90 rfl ?_
    refine r_lconst 93 _ dX9_against_92 rfl kl_0 ?_
    refine r_lif_ne 103 97 dX9_against_93 dX9_against_94 (by decide) rfl X (fun _ X => ?_) (fun _ X => ?_)
    · refine r_lld6 105 dX9_against_103 rfl ?_
      refine r_lld8 107 dX9_against_105 rfl ?_
      obtain ⟨x102, h101, hc, X⟩ := bnd_ok X
      refine r_callS2 110 dX9_against_107 rfl lmX9_91 (mtX9_floor G hG hc) rfl ⟨(Nat.zero_le _), (Nat.zero_le _)⟩ ?_
      exact r_cut (wX9_against_110 G hG R hK10 _ _ _ _ _ _ _ _ X) ⟨rfl, ⟨rfl, ⟨rfl, ⟨rfl, ⟨rfl, ⟨rfl, trivial⟩⟩⟩⟩⟩⟩
    · refine r_ldc2 100 dX9_against_97 rfl lkX9_257 ?_
      refine r_goto 110 dX9_against_100 (by decide) ?_
      exact r_cut (wX9_against_110 G hG R hK10 _ _ _ _ _ _ _ _ X) ⟨rfl, ⟨rfl, ⟨rfl, ⟨rfl, ⟨rfl, ⟨rfl, trivial⟩⟩⟩⟩⟩⟩
  · refine r_ald0 71 dX9_against_70 rfl ?_
    refine r_gR 74 dX9_against_71 rfl lfX9_23 rfl X (fun b103 X => ?_)
    refine r_bipush 76 _ dX9_against_74 rfl kb_60 ?_
    refine r_ild1 77 dX9_against_76 rfl ?_
    refine r_imul 78 dX9_against_77 rfl ?_
    refine r_ild10 80 dX9_against_78 rfl ?_
    refine r_iadd 81 dX9_against_80 rfl ?_
    refine r_aL 82 1 dX9_against_81 rfl rfl X (fun x104 X => ?_)
    refine r_goto 88 dX9_against_82 (by decide) ?_
    refine r_lst12 90 dX9_against_88 rfl rfl ?_
    refine r_lld8 92 dX9_against_90 rfl ?_
    refine r_lconst 93 _ dX9_against_92 rfl kl_0 ?_
    refine r_lif_ne 103 97 dX9_against_93 dX9_against_94 (by decide) rfl X (fun _ X => ?_) (fun _ X => ?_)
    · refine r_lld6 105 dX9_against_103 rfl ?_
      refine r_lld8 107 dX9_against_105 rfl ?_
      obtain ⟨x106, h105, hc, X⟩ := bnd_ok X
      refine r_callS2 110 dX9_against_107 rfl lmX9_91 (mtX9_floor G hG hc) rfl ⟨(Nat.zero_le _), (Nat.zero_le _)⟩ ?_
      exact r_cut (wX9_against_110 G hG R hK10 _ _ _ _ _ _ _ _ X) ⟨rfl, ⟨rfl, ⟨rfl, ⟨rfl, ⟨rfl, ⟨rfl, trivial⟩⟩⟩⟩⟩⟩
    · refine r_ldc2 100 dX9_against_97 rfl lkX9_257 ?_
      refine r_goto 110 dX9_against_100 (by decide) ?_
      exact r_cut (wX9_against_110 G hG R hK10 _ _ _ _ _ _ _ _ X) ⟨rfl, ⟨rfl, ⟨rfl, ⟨rfl, ⟨rfl, ⟨rfl, trivial⟩⟩⟩⟩⟩⟩
theorem wX9_against_33 (G : GG) (hG : GT G) (R : Int32 × AH) {K10 : Nat → Int32 → Int64 → Int64 → Int32 → AH → Fn Int32} (hK10 : ∀ (l0 : Nat) (l1 : Int32) (l6 : Int64) (l8 : Int64) (l10 : Int32) (h : AH), K10 l0 l1 l6 l8 l10 h = some R → AW (eX9_against G R) RX9 cX9_against 10 [some (.ref (gB G + l0)), some (.int l1), none, none, none, none, some (.long l6), none, some (.long l8), none, some (.int l10), none, none, none, none, none, none, none] [] h 0 0) (l0 : Nat) (l1 : Int32) (l6 : Int64) (l8 : Int64) (l10 : Int32) (s0 : Int32) (h : AH) (X : fX9_against_33 K10 l0 l1 l6 l8 l10 s0 h = some R) : AW (eX9_against G R) RX9 cX9_against 33 [some (.ref (gB G + l0)), some (.int l1), none, none, none, none, some (.long l6), none, some (.long l8), none, some (.int l10), none, none, none, none, none, none, none] [.int s0] h 0 0 := by
  unfold fX9_against_33 at X
  refine r_ist11 35 dX9_against_33 rfl rfl ?_
  refine r_ild11 37 dX9_against_35 rfl ?_
  refine r_if_ne 51 40 dX9_against_37 (by decide) rfl X (fun _ X => ?_) (fun _ X => ?_)
  · refine r_ild11 53 dX9_against_51 rfl ?_
    refine r_if_ne 65 56 dX9_against_53 (by decide) rfl X (fun _ X => ?_) (fun _ X => ?_)
    · exact r_cut (wX9_against_65 G hG R hK10 _ _ _ _ _ _ _ X) ⟨rfl, ⟨rfl, ⟨rfl, ⟨rfl, ⟨rfl, ⟨rfl, trivial⟩⟩⟩⟩⟩⟩
    · refine r_lld8 58 dX9_against_56 rfl ?_
      refine r_lconst 59 _ dX9_against_58 rfl kl_0 ?_
      refine r_lif_ne 65 63 dX9_against_59 dX9_against_60 (by decide) rfl X (fun _ X => ?_) (fun _ X => ?_)
      · exact r_cut (wX9_against_65 G hG R hK10 _ _ _ _ _ _ _ X) ⟨rfl, ⟨rfl, ⟨rfl, ⟨rfl, ⟨rfl, ⟨rfl, trivial⟩⟩⟩⟩⟩⟩
      · refine r_iconst 64 _ dX9_against_63 rfl ki_0 ?_
        exact r_retI dX9_against_64 (Nat.zero_le _) (Nat.zero_le _) X
  · refine r_ald0 41 dX9_against_40 rfl ?_
    refine r_gR 44 dX9_against_41 rfl lfX9_20 rfl X (fun b101 X => ?_)
    refine r_ild1 45 dX9_against_44 rfl ?_
    refine r_aZ 46 2 dX9_against_45 rfl rfl X (fun x102 X => ?_)
    refine r_if_ne 51 49 dX9_against_46 (by decide) rfl X (fun _ X => ?_) (fun _ X => ?_)
    · refine r_ild11 53 dX9_against_51 rfl ?_
      refine r_if_ne 65 56 dX9_against_53 (by decide) rfl X (fun _ X => ?_) (fun _ X => ?_)
      · exact r_cut (wX9_against_65 G hG R hK10 _ _ _ _ _ _ _ X) ⟨rfl, ⟨rfl, ⟨rfl, ⟨rfl, ⟨rfl, ⟨rfl, trivial⟩⟩⟩⟩⟩⟩
      · refine r_lld8 58 dX9_against_56 rfl ?_
        refine r_lconst 59 _ dX9_against_58 rfl kl_0 ?_
        refine r_lif_ne 65 63 dX9_against_59 dX9_against_60 (by decide) rfl X (fun _ X => ?_) (fun _ X => ?_)
        · exact r_cut (wX9_against_65 G hG R hK10 _ _ _ _ _ _ _ X) ⟨rfl, ⟨rfl, ⟨rfl, ⟨rfl, ⟨rfl, ⟨rfl, trivial⟩⟩⟩⟩⟩⟩
        · refine r_iconst 64 _ dX9_against_63 rfl ki_0 ?_
          exact r_retI dX9_against_64 (Nat.zero_le _) (Nat.zero_le _) X
    · refine r_iconst 50 _ dX9_against_49 rfl ki_2 ?_
      exact r_retI dX9_against_50 (Nat.zero_le _) (Nat.zero_le _) X
theorem wX9_against_10 (G : GG) (hG : GT G) (R : Int32 × AH) {K10 : Nat → Int32 → Int64 → Int64 → Int32 → AH → Fn Int32} (hK10 : ∀ (l0 : Nat) (l1 : Int32) (l6 : Int64) (l8 : Int64) (l10 : Int32) (h : AH), K10 l0 l1 l6 l8 l10 h = some R → AW (eX9_against G R) RX9 cX9_against 10 [some (.ref (gB G + l0)), some (.int l1), none, none, none, none, some (.long l6), none, some (.long l8), none, some (.int l10), none, none, none, none, none, none, none] [] h 0 0) (l0 : Nat) (l1 : Int32) (l6 : Int64) (l8 : Int64) (l10 : Int32) (h : AH) (X : fX9_against_10 K10 l0 l1 l6 l8 l10 h = some R) : AW (eX9_against G R) RX9 cX9_against 10 [some (.ref (gB G + l0)), some (.int l1), none, none, none, none, some (.long l6), none, some (.long l8), none, some (.int l10), none, none, none, none, none, none, none] [] h 0 0 := by
  unfold fX9_against_10 at X
  refine r_ild10 12 dX9_against_10 rfl ?_
  refine r_bipush 14 _ dX9_against_12 rfl kb_60 ?_
  refine r_icmp_gt 178 17 dX9_against_14 (by decide) rfl X (fun _ X => ?_) (fun _ X => ?_)
  · refine r_iconst 179 _ dX9_against_178 rfl ki_2 ?_
    exact r_retI dX9_against_179 (Nat.zero_le _) (Nat.zero_le _) X
  · refine r_ild10 19 dX9_against_17 rfl ?_
    refine r_ald0 20 dX9_against_19 rfl ?_
    refine r_gR 23 dX9_against_20 rfl lfX9_17 rfl X (fun b101 X => ?_)
    refine r_ild1 24 dX9_against_23 rfl ?_
    refine r_aI 25 0 dX9_against_24 rfl rfl X (fun x102 X => ?_)
    refine r_icmp_ge 32 28 dX9_against_25 (by decide) rfl X (fun _ X => ?_) (fun _ X => ?_)
    · refine r_iconst 33 _ dX9_against_32 rfl ki_0 ?_
      exact r_cut (wX9_against_33 G hG R hK10 _ _ _ _ _ _ _ X) ⟨rfl, ⟨rfl, ⟨rfl, ⟨rfl, ⟨rfl, trivial⟩⟩⟩⟩⟩
    · refine r_iconst 29 _ dX9_against_28 rfl ki_1 ?_
      refine r_goto 33 dX9_against_29 (by decide) ?_
      exact r_cut (wX9_against_33 G hG R hK10 _ _ _ _ _ _ _ X) ⟨rfl, ⟨rfl, ⟨rfl, ⟨rfl, ⟨rfl, trivial⟩⟩⟩⟩⟩
theorem wX9_against_10L (G : GG) (hG : GT G) (R : Int32 × AH) : ∀ (m : Nat) (l0 : Nat) (l1 : Int32) (l6 : Int64) (l8 : Int64) (l10 : Int32) (h : AH), fX9_against_10L m l0 l1 l6 l8 l10 h = some R → AW (eX9_against G R) RX9 cX9_against 10 [some (.ref (gB G + l0)), some (.int l1), none, none, none, none, some (.long l6), none, some (.long l8), none, some (.int l10), none, none, none, none, none, none, none] [] h 0 0 := by
  intro m
  induction m with
  | zero => intro l0 l1 l6 l8 l10 h X; exact nomatch (show (none : Fn Int32) = some R from X)
  | succ m ih => intro l0 l1 l6 l8 l10 h X; exact wX9_against_10 G hG R ih l0 l1 l6 l8 l10 h X
theorem wX9_against (G : GG) (hG : GT G) (R : Int32 × AH) (a0 : Nat) (x0 : Int32) (x1 : Int64) (x2 : Int64) (h : AH) (X : fX9_against a0 x0 x1 x2 h = some R) : AW (eX9_against G R) RX9 cX9_against 0 [some (.ref (gB G + a0)), some (.int x0), some (.long x1), none, some (.long x2), none, none, none, none, none, none, none, none, none, none, none, none, none] [] h 0 0 := by
  unfold fX9_against at X
  refine r_lld2 1 dX9_against_0 rfl ?_
  refine r_lst6 3 dX9_against_1 rfl rfl ?_
  refine r_lld4 5 dX9_against_3 rfl ?_
  refine r_lst8 7 dX9_against_5 rfl rfl ?_
  refine r_iconst 8 _ dX9_against_7 rfl ki_0 ?_
  refine r_ist10 10 dX9_against_8 rfl rfl ?_
  exact r_cut (wX9_against_10L G hG R 1000 _ _ _ _ _ _ X) ⟨rfl, ⟨rfl, ⟨rfl, ⟨rfl, ⟨rfl, trivial⟩⟩⟩⟩⟩
theorem mtX9_against (G : GG) (hG : GT G) {a0 : Nat} {x0 : Int32} {x1 : Int64} {x2 : Int64} {h h' : AH} {v : Int32} (hc : fX9_against a0 x0 x1 x2 h = some (v, h')) : AMet G yX9_against cX9_against 18 (some .int) 1 25 0 0 [.ref (gB G + a0), .int x0, .long x1, .long x2] h (some (.int v)) h' :=
  amet_of false [some (.ref (gB G + a0)), some (.int x0), some (.long x1), none, some (.long x2), none, none, none, none, none, none, none, none, none, none, none, none, none] (by decide +kernel) (by decide) (Nat.le_of_ble_eq_true rfl) rfl (Nat.le_of_ble_eq_true rfl) (wX9_against G hG (v, h') _ _ _ _ h hc)
abbrev eX9_beginNear (G : GG) (R : Unit × AH) : EE := eM G 1 none false 0 0 0 0 none R.2
theorem wX9_beginNear (G : GG) (hG : GT G) (R : Unit × AH) (a0 : Nat) (h : AH) (X : fX9_beginNear a0 h = some R) : AW (eX9_beginNear G R) RX9 cX9_beginNear 0 [some (.ref (gB G + a0))] [] h 0 0 := by
  unfold fX9_beginNear at X
  refine r_ald0 1 dX9_beginNear_0 rfl ?_
  refine r_iconst 2 _ dX9_beginNear_1 rfl ki_0 ?_
  refine r_pZ 5 dX9_beginNear_2 rfl lpX9_69 rfl X (fun h101 X => ?_)
  refine r_ald0 6 dX9_beginNear_5 rfl ?_
  refine r_lconst 7 _ dX9_beginNear_6 rfl kl_1 ?_
  refine r_pL 10 dX9_beginNear_7 rfl lpX9_259 rfl X (fun h102 X => ?_)
  refine r_ald0 11 dX9_beginNear_10 rfl ?_
  refine r_lconst 12 _ dX9_beginNear_11 rfl kl_0 ?_
  refine r_pL 15 dX9_beginNear_12 rfl lpX9_262 rfl X (fun h103 X => ?_)
  refine r_ald0 16 dX9_beginNear_15 rfl ?_
  refine r_lconst 17 _ dX9_beginNear_16 rfl kl_0 ?_
  refine r_pL 20 dX9_beginNear_17 rfl lpX9_265 rfl X (fun h104 X => ?_)
  refine r_ald0 21 dX9_beginNear_20 rfl ?_
  refine r_lconst 22 _ dX9_beginNear_21 rfl kl_1 ?_
  refine r_pL 25 dX9_beginNear_22 rfl lpX9_268 rfl X (fun h105 X => ?_)
  exact r_retV dX9_beginNear_25 (Nat.zero_le _) (Nat.zero_le _) X
theorem mtX9_beginNear (G : GG) (hG : GT G) {a0 : Nat} {h h' : AH} {v : Unit} (hc : fX9_beginNear a0 h = some (v, h')) : AMet G yX9_beginNear cX9_beginNear 1 none 0 0 0 0 [.ref (gB G + a0)] h none h' :=
  amet_of false [some (.ref (gB G + a0))] (by decide +kernel) (by decide) (Nat.le_of_ble_eq_true rfl) rfl (Nat.le_of_ble_eq_true rfl) (wX9_beginNear G hG (v, h') _ h hc)
abbrev eX9_goNear (G : GG) (R : Unit × AH) : EE := eM G 7 none false 2 47 0 0 none R.2
theorem wX9_goNear (G : GG) (hG : GT G) (R : Unit × AH) (a0 : Nat) (x0 : Int64) (h : AH) (X : fX9_goNear a0 x0 h = some R) : AW (eX9_goNear G R) RX9 cX9_goNear 0 [some (.ref (gB G + a0)), some (.long x0), none, none, none, none, none] [] h 0 0 := by
  unfold fX9_goNear at X
  refine r_ald0 1 dX9_goNear_0 rfl ?_
  refine r_ald0 2 dX9_goNear_1 rfl ?_
  refine r_gL 5 dX9_goNear_2 rfl lfX9_265 rfl X (fun x101 X => ?_)
  refine r_pL 8 dX9_goNear_5 rfl lpX9_271 rfl X (fun h102 X => ?_)
  refine r_ald0 9 dX9_goNear_8 rfl ?_
  refine r_ald0 10 dX9_goNear_9 rfl ?_
  refine r_gL 13 dX9_goNear_10 rfl lfX9_268 rfl X (fun x103 X => ?_)
  refine r_pL 16 dX9_goNear_13 rfl lpX9_274 rfl X (fun h104 X => ?_)
  refine r_ald0 17 dX9_goNear_16 rfl ?_
  refine r_ald0 18 dX9_goNear_17 rfl ?_
  refine r_lld1 19 dX9_goNear_18 rfl ?_
  refine r_ald0 20 dX9_goNear_19 rfl ?_
  refine r_gL 23 dX9_goNear_20 rfl lfX9_259 rfl X (fun x105 X => ?_)
  obtain ⟨hs, X⟩ := r_cv X
  obtain ⟨x107, h106, hc, X⟩ := bnd_ok X
  refine r_callV2 26 dX9_goNear_23 rfl lmX9_151 hs (mtX9_mul G hG hc) rfl ⟨(Nat.zero_le _), (Nat.zero_le _)⟩ ?_
  refine r_ald0 27 dX9_goNear_26 rfl ?_
  refine r_gL 30 dX9_goNear_27 rfl lfX9_265 rfl X (fun x108 X => ?_)
  obtain ⟨hs, X⟩ := r_cv X
  obtain ⟨x110, h109, hc, X⟩ := bnd_ok X
  refine r_callV2 33 dX9_goNear_30 rfl lmX9_154 hs (mtX9_add G hG hc) rfl ⟨(Nat.zero_le _), (Nat.zero_le _)⟩ ?_
  refine r_lst3 34 dX9_goNear_33 rfl rfl ?_
  refine r_ald0 35 dX9_goNear_34 rfl ?_
  refine r_ald0 36 dX9_goNear_35 rfl ?_
  refine r_lld1 37 dX9_goNear_36 rfl ?_
  refine r_ald0 38 dX9_goNear_37 rfl ?_
  refine r_gL 41 dX9_goNear_38 rfl lfX9_262 rfl X (fun x111 X => ?_)
  obtain ⟨hs, X⟩ := r_cv X
  obtain ⟨x113, h112, hc, X⟩ := bnd_ok X
  refine r_callV2 44 dX9_goNear_41 rfl lmX9_151 hs (mtX9_mul G hG hc) rfl ⟨(Nat.zero_le _), (Nat.zero_le _)⟩ ?_
  refine r_ald0 45 dX9_goNear_44 rfl ?_
  refine r_gL 48 dX9_goNear_45 rfl lfX9_268 rfl X (fun x114 X => ?_)
  obtain ⟨hs, X⟩ := r_cv X
  obtain ⟨x116, h115, hc, X⟩ := bnd_ok X
  refine r_callV2 51 dX9_goNear_48 rfl lmX9_154 hs (mtX9_add G hG hc) rfl ⟨(Nat.zero_le _), (Nat.zero_le _)⟩ ?_
  refine r_lst5 53 dX9_goNear_51 rfl rfl ?_
  refine r_ald0 54 dX9_goNear_53 rfl ?_
  refine r_ald0 55 dX9_goNear_54 rfl ?_
  refine r_gL 58 dX9_goNear_55 rfl lfX9_259 rfl X (fun x117 X => ?_)
  refine r_pL 61 dX9_goNear_58 rfl lpX9_265 rfl X (fun h118 X => ?_)
  refine r_ald0 62 dX9_goNear_61 rfl ?_
  refine r_ald0 63 dX9_goNear_62 rfl ?_
  refine r_gL 66 dX9_goNear_63 rfl lfX9_262 rfl X (fun x119 X => ?_)
  refine r_pL 69 dX9_goNear_66 rfl lpX9_268 rfl X (fun h120 X => ?_)
  refine r_ald0 70 dX9_goNear_69 rfl ?_
  refine r_lld3 71 dX9_goNear_70 rfl ?_
  refine r_pL 74 dX9_goNear_71 rfl lpX9_259 rfl X (fun h121 X => ?_)
  refine r_ald0 75 dX9_goNear_74 rfl ?_
  refine r_lld5 77 dX9_goNear_75 rfl ?_
  refine r_pL 80 dX9_goNear_77 rfl lpX9_262 rfl X (fun h122 X => ?_)
  exact r_retV dX9_goNear_80 (Nat.zero_le _) (Nat.zero_le _) X
theorem mtX9_goNear (G : GG) (hG : GT G) {a0 : Nat} {x0 : Int64} {h h' : AH} {v : Unit} (hc : fX9_goNear a0 x0 h = some (v, h')) : AMet G yX9_goNear cX9_goNear 7 none 2 47 0 0 [.ref (gB G + a0), .long x0] h none h' :=
  amet_of false [some (.ref (gB G + a0)), some (.long x0), none, none, none, none, none] (by decide +kernel) (by decide) (Nat.le_of_ble_eq_true rfl) rfl (Nat.le_of_ble_eq_true rfl) (wX9_goNear G hG (v, h') _ _ h hc)
