theorem dX1_startWithAct_0 : decode cX1_startWithAct 0 = .ok (.iconst 0, 1) := by decide +kernel
theorem dX1_startWithAct_1 : decode cX1_startWithAct 1 = .ok (.istore_n 2, 1) := by decide +kernel
theorem dX1_startWithAct_2 : decode cX1_startWithAct 2 = .ok (.iload_n 2, 1) := by decide +kernel
theorem dX1_startWithAct_3 : decode cX1_startWithAct 3 = .ok (.bipush 8, 2) := by decide +kernel
theorem dX1_startWithAct_5 : decode cX1_startWithAct 5 = .ok (.if_icmp .ge 44, 3) := by decide +kernel
theorem dX1_startWithAct_8 : decode cX1_startWithAct 8 = .ok (.iload_n 1, 1) := by decide +kernel
theorem dX1_startWithAct_9 : decode cX1_startWithAct 9 = .ok (.bipush 8, 2) := by decide +kernel
theorem dX1_startWithAct_11 : decode cX1_startWithAct 11 = .ok (.imul, 1) := by decide +kernel
theorem dX1_startWithAct_12 : decode cX1_startWithAct 12 = .ok (.iload_n 2, 1) := by decide +kernel
theorem dX1_startWithAct_13 : decode cX1_startWithAct 13 = .ok (.iadd, 1) := by decide +kernel
theorem dX1_startWithAct_14 : decode cX1_startWithAct 14 = .ok (.istore_n 3, 1) := by decide +kernel
theorem dX1_startWithAct_15 : decode cX1_startWithAct 15 = .ok (.aload_n 0, 1) := by decide +kernel
theorem dX1_startWithAct_16 : decode cX1_startWithAct 16 = .ok (.getfield 23, 3) := by decide +kernel
theorem dX1_startWithAct_19 : decode cX1_startWithAct 19 = .ok (.iload_n 2, 1) := by decide +kernel
theorem dX1_startWithAct_20 : decode cX1_startWithAct 20 = .ok (.iload_n 3, 1) := by decide +kernel
theorem dX1_startWithAct_21 : decode cX1_startWithAct 21 = .ok (.ifCond .lt 20, 3) := by decide +kernel
theorem dX1_startWithAct_24 : decode cX1_startWithAct 24 = .ok (.iload_n 3, 1) := by decide +kernel
theorem dX1_startWithAct_25 : decode cX1_startWithAct 25 = .ok (.getstatic 46, 3) := by decide +kernel
theorem dX1_startWithAct_28 : decode cX1_startWithAct 28 = .ok (.arraylength, 1) := by decide +kernel
theorem dX1_startWithAct_29 : decode cX1_startWithAct 29 = .ok (.if_icmp .ge 12, 3) := by decide +kernel
theorem dX1_startWithAct_32 : decode cX1_startWithAct 32 = .ok (.getstatic 46, 3) := by decide +kernel
theorem dX1_startWithAct_35 : decode cX1_startWithAct 35 = .ok (.iload_n 3, 1) := by decide +kernel
theorem dX1_startWithAct_36 : decode cX1_startWithAct 36 = .ok (.iaload, 1) := by decide +kernel
theorem dX1_startWithAct_37 : decode cX1_startWithAct 37 = .ok (.i2l, 1) := by decide +kernel
theorem dX1_startWithAct_38 : decode cX1_startWithAct 38 = .ok (.goto 4, 3) := by decide +kernel
theorem dX1_startWithAct_41 : decode cX1_startWithAct 41 = .ok (.lconst 0, 1) := by decide +kernel
theorem dX1_startWithAct_42 : decode cX1_startWithAct 42 = .ok (.lastore, 1) := by decide +kernel
theorem dX1_startWithAct_43 : decode cX1_startWithAct 43 = .ok (.iinc 2 1, 3) := by decide +kernel
theorem dX1_startWithAct_46 : decode cX1_startWithAct 46 = .ok (.goto (-44), 3) := by decide +kernel
theorem dX1_startWithAct_49 : decode cX1_startWithAct 49 = .ok (.return_, 1) := by decide +kernel
theorem dX1_make_0 : decode cX1_make 0 = .ok (.aload_n 1, 1) := by decide +kernel
theorem dX1_make_1 : decode cX1_make 1 = .ok (.iconst 3, 1) := by decide +kernel
theorem dX1_make_2 : decode cX1_make 2 = .ok (.invokevirtual 50, 3) := by decide +kernel
theorem dX1_make_5 : decode cX1_make 5 = .ok (.aload_n 0, 1) := by decide +kernel
theorem dX1_make_6 : decode cX1_make 6 = .ok (.getfield 14, 3) := by decide +kernel
theorem dX1_make_9 : decode cX1_make 9 = .ok (.aload_n 2, 1) := by decide +kernel
theorem dX1_make_10 : decode cX1_make 10 = .ok (.invokevirtual 56, 3) := by decide +kernel
theorem dX1_make_13 : decode cX1_make 13 = .ok (.aload_n 0, 1) := by decide +kernel
theorem dX1_make_14 : decode cX1_make 14 = .ok (.getfield 20, 3) := by decide +kernel
theorem dX1_make_17 : decode cX1_make 17 = .ok (.aload_n 3, 1) := by decide +kernel
theorem dX1_make_18 : decode cX1_make 18 = .ok (.invokevirtual 56, 3) := by decide +kernel
theorem dX1_make_21 : decode cX1_make 21 = .ok (.aload_n 0, 1) := by decide +kernel
theorem dX1_make_22 : decode cX1_make 22 = .ok (.iconst 0, 1) := by decide +kernel
theorem dX1_make_23 : decode cX1_make 23 = .ok (.putfield 43, 3) := by decide +kernel
theorem dX1_make_26 : decode cX1_make 26 = .ok (.iconst 1, 1) := by decide +kernel
theorem dX1_make_27 : decode cX1_make 27 = .ok (.istore 4, 2) := by decide +kernel
theorem dX1_make_29 : decode cX1_make 29 = .ok (.iconst 0, 1) := by decide +kernel
theorem dX1_make_30 : decode cX1_make 30 = .ok (.istore 5, 2) := by decide +kernel
theorem dX1_make_32 : decode cX1_make 32 = .ok (.iload 5, 2) := by decide +kernel
theorem dX1_make_34 : decode cX1_make 34 = .ok (.sipush 182, 3) := by decide +kernel
theorem dX1_make_37 : decode cX1_make 37 = .ok (.if_icmp .gt 21, 3) := by decide +kernel
theorem dX1_make_40 : decode cX1_make 40 = .ok (.iload 4, 2) := by decide +kernel
theorem dX1_make_42 : decode cX1_make 42 = .ok (.ifCond .eq 16, 3) := by decide +kernel
theorem dX1_make_45 : decode cX1_make 45 = .ok (.aload_n 0, 1) := by decide +kernel
theorem dX1_make_46 : decode cX1_make 46 = .ok (.aload_n 1, 1) := by decide +kernel
theorem dX1_make_47 : decode cX1_make 47 = .ok (.invokevirtual 60, 3) := by decide +kernel
theorem dX1_make_50 : decode cX1_make 50 = .ok (.istore 4, 2) := by decide +kernel
theorem dX1_make_52 : decode cX1_make 52 = .ok (.iinc 5 1, 3) := by decide +kernel
theorem dX1_make_55 : decode cX1_make 55 = .ok (.goto (-23), 3) := by decide +kernel
theorem dX1_make_58 : decode cX1_make 58 = .ok (.aload_n 1, 1) := by decide +kernel
theorem dX1_make_59 : decode cX1_make 59 = .ok (.aload_n 0, 1) := by decide +kernel
theorem dX1_make_60 : decode cX1_make 60 = .ok (.getfield 14, 3) := by decide +kernel
theorem dX1_make_63 : decode cX1_make 63 = .ok (.getfield 64, 3) := by decide +kernel
theorem dX1_make_66 : decode cX1_make 66 = .ok (.aload_n 0, 1) := by decide +kernel
theorem dX1_make_67 : decode cX1_make 67 = .ok (.getfield 20, 3) := by decide +kernel
theorem dX1_make_70 : decode cX1_make 70 = .ok (.getfield 64, 3) := by decide +kernel
theorem dX1_make_73 : decode cX1_make 73 = .ok (.iadd, 1) := by decide +kernel
theorem dX1_make_74 : decode cX1_make 74 = .ok (.putfield 67, 3) := by decide +kernel
theorem dX1_make_77 : decode cX1_make 77 = .ok (.return_, 1) := by decide +kernel
theorem dX1_goOn_0 : decode cX1_goOn 0 = .ok (.aload_n 0, 1) := by decide +kernel
theorem dX1_goOn_1 : decode cX1_goOn 1 = .ok (.getfield 14, 3) := by decide +kernel
theorem dX1_goOn_4 : decode cX1_goOn 4 = .ok (.getfield 68, 3) := by decide +kernel
theorem dX1_goOn_7 : decode cX1_goOn 7 = .ok (.ifCond .eq 43, 3) := by decide +kernel
theorem dX1_goOn_10 : decode cX1_goOn 10 = .ok (.aload_n 0, 1) := by decide +kernel
theorem dX1_goOn_11 : decode cX1_goOn 11 = .ok (.getfield 20, 3) := by decide +kernel
theorem dX1_goOn_14 : decode cX1_goOn 14 = .ok (.getfield 68, 3) := by decide +kernel
theorem dX1_goOn_17 : decode cX1_goOn 17 = .ok (.ifCond .eq 33, 3) := by decide +kernel
theorem dX1_goOn_20 : decode cX1_goOn 20 = .ok (.aload_n 0, 1) := by decide +kernel
theorem dX1_goOn_21 : decode cX1_goOn 21 = .ok (.getfield 23, 3) := by decide +kernel
theorem dX1_goOn_24 : decode cX1_goOn 24 = .ok (.bipush 7, 2) := by decide +kernel
theorem dX1_goOn_26 : decode cX1_goOn 26 = .ok (.laload, 1) := by decide +kernel
theorem dX1_goOn_27 : decode cX1_goOn 27 = .ok (.lconst 0, 1) := by decide +kernel
theorem dX1_goOn_28 : decode cX1_goOn 28 = .ok (.lcmp, 1) := by decide +kernel
theorem dX1_goOn_29 : decode cX1_goOn 29 = .ok (.ifCond .ne 21, 3) := by decide +kernel
theorem dX1_goOn_32 : decode cX1_goOn 32 = .ok (.aload_n 1, 1) := by decide +kernel
theorem dX1_goOn_33 : decode cX1_goOn 33 = .ok (.aload_n 1, 1) := by decide +kernel
theorem dX1_goOn_34 : decode cX1_goOn 34 = .ok (.getfield 72, 3) := by decide +kernel
theorem dX1_goOn_37 : decode cX1_goOn 37 = .ok (.ifCond .le 7, 3) := by decide +kernel
theorem dX1_goOn_40 : decode cX1_goOn 40 = .ok (.iconst 1, 1) := by decide +kernel
theorem dX1_goOn_41 : decode cX1_goOn 41 = .ok (.goto 4, 3) := by decide +kernel
theorem dX1_goOn_44 : decode cX1_goOn 44 = .ok (.iconst 0, 1) := by decide +kernel
theorem dX1_goOn_45 : decode cX1_goOn 45 = .ok (.putfield 75, 3) := by decide +kernel
theorem dX1_goOn_48 : decode cX1_goOn 48 = .ok (.iconst 0, 1) := by decide +kernel
theorem dX1_goOn_49 : decode cX1_goOn 49 = .ok (.ireturn, 1) := by decide +kernel
theorem dX1_goOn_50 : decode cX1_goOn 50 = .ok (.aload_n 1, 1) := by decide +kernel
theorem dX1_goOn_51 : decode cX1_goOn 51 = .ok (.getfield 72, 3) := by decide +kernel
theorem dX1_goOn_54 : decode cX1_goOn 54 = .ok (.bipush 60, 2) := by decide +kernel
theorem dX1_goOn_56 : decode cX1_goOn 56 = .ok (.if_icmp .lt 5, 3) := by decide +kernel
theorem dX1_goOn_59 : decode cX1_goOn 59 = .ok (.iconst 0, 1) := by decide +kernel
theorem dX1_goOn_60 : decode cX1_goOn 60 = .ok (.ireturn, 1) := by decide +kernel
theorem dX1_goOn_61 : decode cX1_goOn 61 = .ok (.aload_n 0, 1) := by decide +kernel
theorem dX1_goOn_62 : decode cX1_goOn 62 = .ok (.getfield 14, 3) := by decide +kernel
theorem dX1_goOn_65 : decode cX1_goOn 65 = .ok (.getfield 64, 3) := by decide +kernel
theorem dX1_goOn_68 : decode cX1_goOn 68 = .ok (.ifCond .le 50, 3) := by decide +kernel
theorem dX1_goOn_71 : decode cX1_goOn 71 = .ok (.aload_n 0, 1) := by decide +kernel
theorem dX1_goOn_72 : decode cX1_goOn 72 = .ok (.getfield 20, 3) := by decide +kernel
theorem dX1_goOn_75 : decode cX1_goOn 75 = .ok (.getfield 64, 3) := by decide +kernel
theorem dX1_goOn_78 : decode cX1_goOn 78 = .ok (.ifCond .le 40, 3) := by decide +kernel
theorem dX1_goOn_81 : decode cX1_goOn 81 = .ok (.aload_n 0, 1) := by decide +kernel
theorem dX1_goOn_82 : decode cX1_goOn 82 = .ok (.invokevirtual 78, 3) := by decide +kernel
theorem dX1_goOn_85 : decode cX1_goOn 85 = .ok (.ifCond .ne 5, 3) := by decide +kernel
theorem dX1_goOn_88 : decode cX1_goOn 88 = .ok (.iconst 0, 1) := by decide +kernel
theorem dX1_goOn_89 : decode cX1_goOn 89 = .ok (.ireturn, 1) := by decide +kernel
theorem dX1_goOn_90 : decode cX1_goOn 90 = .ok (.aload_n 0, 1) := by decide +kernel
theorem dX1_goOn_91 : decode cX1_goOn 91 = .ok (.invokevirtual 82, 3) := by decide +kernel
theorem dX1_goOn_94 : decode cX1_goOn 94 = .ok (.ifCond .eq 24, 3) := by decide +kernel
theorem dX1_goOn_97 : decode cX1_goOn 97 = .ok (.aload_n 0, 1) := by decide +kernel
theorem dX1_goOn_98 : decode cX1_goOn 98 = .ok (.aload_n 1, 1) := by decide +kernel
theorem dX1_goOn_99 : decode cX1_goOn 99 = .ok (.aload_n 0, 1) := by decide +kernel
theorem dX1_goOn_100 : decode cX1_goOn 100 = .ok (.getfield 30, 3) := by decide +kernel
theorem dX1_goOn_103 : decode cX1_goOn 103 = .ok (.iconst 0, 1) := by decide +kernel
theorem dX1_goOn_104 : decode cX1_goOn 104 = .ok (.laload, 1) := by decide +kernel
theorem dX1_goOn_105 : decode cX1_goOn 105 = .ok (.aload_n 0, 1) := by decide +kernel
theorem dX1_goOn_106 : decode cX1_goOn 106 = .ok (.getfield 33, 3) := by decide +kernel
theorem dX1_goOn_109 : decode cX1_goOn 109 = .ok (.iconst 0, 1) := by decide +kernel
theorem dX1_goOn_110 : decode cX1_goOn 110 = .ok (.laload, 1) := by decide +kernel
theorem dX1_goOn_111 : decode cX1_goOn 111 = .ok (.invokestatic 85, 3) := by decide +kernel
theorem dX1_goOn_114 : decode cX1_goOn 114 = .ok (.invokevirtual 89, 3) := by decide +kernel
theorem dX1_goOn_117 : decode cX1_goOn 117 = .ok (.ireturn, 1) := by decide +kernel
theorem dX1_goOn_118 : decode cX1_goOn 118 = .ok (.aload_n 0, 1) := by decide +kernel
theorem dX1_goOn_119 : decode cX1_goOn 119 = .ok (.getfield 14, 3) := by decide +kernel
theorem dX1_goOn_122 : decode cX1_goOn 122 = .ok (.getfield 68, 3) := by decide +kernel
theorem dX1_goOn_125 : decode cX1_goOn 125 = .ok (.ifCond .ne 34, 3) := by decide +kernel
theorem dX1_goOn_128 : decode cX1_goOn 128 = .ok (.aload_n 0, 1) := by decide +kernel
theorem dX1_goOn_129 : decode cX1_goOn 129 = .ok (.getfield 20, 3) := by decide +kernel
theorem dX1_goOn_132 : decode cX1_goOn 132 = .ok (.getfield 68, 3) := by decide +kernel
theorem dX1_goOn_135 : decode cX1_goOn 135 = .ok (.ifCond .ne 20, 3) := by decide +kernel
theorem dX1_goOn_138 : decode cX1_goOn 138 = .ok (.aload_n 0, 1) := by decide +kernel
theorem dX1_goOn_139 : decode cX1_goOn 139 = .ok (.getfield 14, 3) := by decide +kernel
theorem dX1_goOn_142 : decode cX1_goOn 142 = .ok (.getfield 64, 3) := by decide +kernel
theorem dX1_goOn_145 : decode cX1_goOn 145 = .ok (.aload_n 0, 1) := by decide +kernel
theorem dX1_goOn_146 : decode cX1_goOn 146 = .ok (.getfield 20, 3) := by decide +kernel
theorem dX1_goOn_149 : decode cX1_goOn 149 = .ok (.getfield 64, 3) := by decide +kernel
theorem dX1_goOn_152 : decode cX1_goOn 152 = .ok (.if_icmp .gt 7, 3) := by decide +kernel
theorem dX1_goOn_155 : decode cX1_goOn 155 = .ok (.iconst 1, 1) := by decide +kernel
theorem dX1_goOn_156 : decode cX1_goOn 156 = .ok (.goto 4, 3) := by decide +kernel
theorem dX1_goOn_159 : decode cX1_goOn 159 = .ok (.iconst 0, 1) := by decide +kernel
theorem dX1_goOn_160 : decode cX1_goOn 160 = .ok (.istore_n 2, 1) := by decide +kernel
theorem dX1_goOn_161 : decode cX1_goOn 161 = .ok (.aload_n 0, 1) := by decide +kernel
theorem dX1_goOn_162 : decode cX1_goOn 162 = .ok (.iload_n 2, 1) := by decide +kernel
theorem dX1_goOn_163 : decode cX1_goOn 163 = .ok (.ifCond .eq 10, 3) := by decide +kernel
theorem dX1_goOn_166 : decode cX1_goOn 166 = .ok (.aload_n 0, 1) := by decide +kernel
theorem dX1_goOn_167 : decode cX1_goOn 167 = .ok (.getfield 14, 3) := by decide +kernel
theorem dX1_goOn_170 : decode cX1_goOn 170 = .ok (.goto 7, 3) := by decide +kernel
theorem dX1_goOn_173 : decode cX1_goOn 173 = .ok (.aload_n 0, 1) := by decide +kernel
theorem dX1_goOn_174 : decode cX1_goOn 174 = .ok (.getfield 20, 3) := by decide +kernel
theorem dX1_goOn_177 : decode cX1_goOn 177 = .ok (.invokevirtual 93, 3) := by decide +kernel
theorem dX1_goOn_180 : decode cX1_goOn 180 = .ok (.ireturn, 1) := by decide +kernel
theorem dX3_work_0 : decode cX3_work 0 = .ok (.aload_n 0, 1) := by decide +kernel
theorem dX3_work_1 : decode cX3_work 1 = .ok (.aload_n 2, 1) := by decide +kernel
theorem dX3_work_2 : decode cX3_work 2 = .ok (.getfield 24, 3) := by decide +kernel
theorem dX3_work_5 : decode cX3_work 5 = .ok (.iconst 1, 1) := by decide +kernel
theorem dX3_work_6 : decode cX3_work 6 = .ok (.if_icmp .ne 10, 3) := by decide +kernel
theorem dX3_work_9 : decode cX3_work 9 = .ok (.aload_n 2, 1) := by decide +kernel
theorem dX3_work_10 : decode cX3_work 10 = .ok (.getfield 30, 3) := by decide +kernel
theorem dX3_work_13 : decode cX3_work 13 = .ok (.goto 7, 3) := by decide +kernel
theorem dX3_work_16 : decode cX3_work 16 = .ok (.aload_n 3, 1) := by decide +kernel
theorem dX3_work_17 : decode cX3_work 17 = .ok (.getfield 30, 3) := by decide +kernel
theorem dX3_work_20 : decode cX3_work 20 = .ok (.putfield 18, 3) := by decide +kernel
theorem dX3_work_23 : decode cX3_work 23 = .ok (.iload_n 1, 1) := by decide +kernel
theorem dX3_work_24 : decode cX3_work 24 = .ok (.tableswitch 263 0 2 #[28, 104, 180], 28) := by decide +kernel
theorem dX3_work_52 : decode cX3_work 52 = .ok (.aload_n 0, 1) := by decide +kernel
theorem dX3_work_53 : decode cX3_work 53 = .ok (.aload_n 2, 1) := by decide +kernel
theorem dX3_work_54 : decode cX3_work 54 = .ok (.getfield 31, 3) := by decide +kernel
theorem dX3_work_57 : decode cX3_work 57 = .ok (.aload_n 3, 1) := by decide +kernel
theorem dX3_work_58 : decode cX3_work 58 = .ok (.getfield 32, 3) := by decide +kernel
theorem dX3_work_61 : decode cX3_work 61 = .ok (.invokestatic 33, 3) := by decide +kernel
theorem dX3_work_64 : decode cX3_work 64 = .ok (.aload_n 3, 1) := by decide +kernel
theorem dX3_work_65 : decode cX3_work 65 = .ok (.getfield 31, 3) := by decide +kernel
theorem dX3_work_68 : decode cX3_work 68 = .ok (.aload_n 2, 1) := by decide +kernel
theorem dX3_work_69 : decode cX3_work 69 = .ok (.getfield 32, 3) := by decide +kernel
theorem dX3_work_72 : decode cX3_work 72 = .ok (.invokestatic 33, 3) := by decide +kernel
theorem dX3_work_75 : decode cX3_work 75 = .ok (.invokestatic 37, 3) := by decide +kernel
theorem dX3_work_78 : decode cX3_work 78 = .ok (.putfield 9, 3) := by decide +kernel
theorem dX3_work_81 : decode cX3_work 81 = .ok (.aload_n 0, 1) := by decide +kernel
theorem dX3_work_82 : decode cX3_work 82 = .ok (.aload_n 2, 1) := by decide +kernel
theorem dX3_work_83 : decode cX3_work 83 = .ok (.getfield 40, 3) := by decide +kernel
theorem dX3_work_86 : decode cX3_work 86 = .ok (.aload_n 3, 1) := by decide +kernel
theorem dX3_work_87 : decode cX3_work 87 = .ok (.getfield 32, 3) := by decide +kernel
theorem dX3_work_90 : decode cX3_work 90 = .ok (.invokestatic 33, 3) := by decide +kernel
theorem dX3_work_93 : decode cX3_work 93 = .ok (.aload_n 3, 1) := by decide +kernel
theorem dX3_work_94 : decode cX3_work 94 = .ok (.getfield 40, 3) := by decide +kernel
theorem dX3_work_97 : decode cX3_work 97 = .ok (.aload_n 2, 1) := by decide +kernel
theorem dX3_work_98 : decode cX3_work 98 = .ok (.getfield 32, 3) := by decide +kernel
theorem dX3_work_101 : decode cX3_work 101 = .ok (.invokestatic 33, 3) := by decide +kernel
theorem dX3_work_104 : decode cX3_work 104 = .ok (.invokestatic 37, 3) := by decide +kernel
theorem dX3_work_107 : decode cX3_work 107 = .ok (.putfield 15, 3) := by decide +kernel
theorem dX3_work_110 : decode cX3_work 110 = .ok (.aload_n 0, 1) := by decide +kernel
theorem dX3_work_111 : decode cX3_work 111 = .ok (.aload_n 2, 1) := by decide +kernel
theorem dX3_work_112 : decode cX3_work 112 = .ok (.getfield 32, 3) := by decide +kernel
theorem dX3_work_115 : decode cX3_work 115 = .ok (.aload_n 3, 1) := by decide +kernel
theorem dX3_work_116 : decode cX3_work 116 = .ok (.getfield 32, 3) := by decide +kernel
theorem dX3_work_119 : decode cX3_work 119 = .ok (.invokestatic 33, 3) := by decide +kernel
theorem dX3_work_122 : decode cX3_work 122 = .ok (.putfield 21, 3) := by decide +kernel
theorem dX3_work_125 : decode cX3_work 125 = .ok (.goto 168, 3) := by decide +kernel
theorem dX3_work_128 : decode cX3_work 128 = .ok (.aload_n 0, 1) := by decide +kernel
theorem dX3_work_129 : decode cX3_work 129 = .ok (.aload_n 2, 1) := by decide +kernel
theorem dX3_work_130 : decode cX3_work 130 = .ok (.getfield 31, 3) := by decide +kernel
theorem dX3_work_133 : decode cX3_work 133 = .ok (.aload_n 3, 1) := by decide +kernel
theorem dX3_work_134 : decode cX3_work 134 = .ok (.getfield 32, 3) := by decide +kernel
theorem dX3_work_137 : decode cX3_work 137 = .ok (.invokestatic 33, 3) := by decide +kernel
theorem dX3_work_140 : decode cX3_work 140 = .ok (.aload_n 3, 1) := by decide +kernel
theorem dX3_work_141 : decode cX3_work 141 = .ok (.getfield 31, 3) := by decide +kernel
theorem dX3_work_144 : decode cX3_work 144 = .ok (.aload_n 2, 1) := by decide +kernel
theorem dX3_work_145 : decode cX3_work 145 = .ok (.getfield 32, 3) := by decide +kernel
theorem dX3_work_148 : decode cX3_work 148 = .ok (.invokestatic 33, 3) := by decide +kernel
theorem dX3_work_151 : decode cX3_work 151 = .ok (.invokestatic 41, 3) := by decide +kernel
theorem dX3_work_154 : decode cX3_work 154 = .ok (.putfield 9, 3) := by decide +kernel
theorem dX3_work_157 : decode cX3_work 157 = .ok (.aload_n 0, 1) := by decide +kernel
theorem dX3_work_158 : decode cX3_work 158 = .ok (.aload_n 2, 1) := by decide +kernel
theorem dX3_work_159 : decode cX3_work 159 = .ok (.getfield 40, 3) := by decide +kernel
theorem dX3_work_162 : decode cX3_work 162 = .ok (.aload_n 3, 1) := by decide +kernel
theorem dX3_work_163 : decode cX3_work 163 = .ok (.getfield 32, 3) := by decide +kernel
theorem dX3_work_166 : decode cX3_work 166 = .ok (.invokestatic 33, 3) := by decide +kernel
theorem dX3_work_169 : decode cX3_work 169 = .ok (.aload_n 3, 1) := by decide +kernel
theorem dX3_work_170 : decode cX3_work 170 = .ok (.getfield 40, 3) := by decide +kernel
theorem dX3_work_173 : decode cX3_work 173 = .ok (.aload_n 2, 1) := by decide +kernel
theorem dX3_work_174 : decode cX3_work 174 = .ok (.getfield 32, 3) := by decide +kernel
theorem dX3_work_177 : decode cX3_work 177 = .ok (.invokestatic 33, 3) := by decide +kernel
theorem dX3_work_180 : decode cX3_work 180 = .ok (.invokestatic 41, 3) := by decide +kernel
theorem dX3_work_183 : decode cX3_work 183 = .ok (.putfield 15, 3) := by decide +kernel
theorem dX3_work_186 : decode cX3_work 186 = .ok (.aload_n 0, 1) := by decide +kernel
theorem dX3_work_187 : decode cX3_work 187 = .ok (.aload_n 2, 1) := by decide +kernel
theorem dX3_work_188 : decode cX3_work 188 = .ok (.getfield 32, 3) := by decide +kernel
theorem dX3_work_191 : decode cX3_work 191 = .ok (.aload_n 3, 1) := by decide +kernel
theorem dX3_work_192 : decode cX3_work 192 = .ok (.getfield 32, 3) := by decide +kernel
theorem dX3_work_195 : decode cX3_work 195 = .ok (.invokestatic 33, 3) := by decide +kernel
theorem dX3_work_198 : decode cX3_work 198 = .ok (.putfield 21, 3) := by decide +kernel
theorem dX3_work_201 : decode cX3_work 201 = .ok (.goto 92, 3) := by decide +kernel
theorem dX3_work_204 : decode cX3_work 204 = .ok (.aload_n 0, 1) := by decide +kernel
theorem dX3_work_205 : decode cX3_work 205 = .ok (.aload_n 2, 1) := by decide +kernel
theorem dX3_work_206 : decode cX3_work 206 = .ok (.getfield 31, 3) := by decide +kernel
theorem dX3_work_209 : decode cX3_work 209 = .ok (.aload_n 3, 1) := by decide +kernel
theorem dX3_work_210 : decode cX3_work 210 = .ok (.getfield 31, 3) := by decide +kernel
theorem dX3_work_213 : decode cX3_work 213 = .ok (.invokestatic 33, 3) := by decide +kernel
theorem dX3_work_216 : decode cX3_work 216 = .ok (.aload_n 2, 1) := by decide +kernel
theorem dX3_work_217 : decode cX3_work 217 = .ok (.getfield 40, 3) := by decide +kernel
theorem dX3_work_220 : decode cX3_work 220 = .ok (.aload_n 3, 1) := by decide +kernel
theorem dX3_work_221 : decode cX3_work 221 = .ok (.getfield 40, 3) := by decide +kernel
theorem dX3_work_224 : decode cX3_work 224 = .ok (.invokestatic 33, 3) := by decide +kernel
theorem dX3_work_227 : decode cX3_work 227 = .ok (.aload_n 0, 1) := by decide +kernel
theorem dX3_work_228 : decode cX3_work 228 = .ok (.getfield 18, 3) := by decide +kernel
theorem dX3_work_231 : decode cX3_work 231 = .ok (.invokestatic 33, 3) := by decide +kernel
theorem dX3_work_234 : decode cX3_work 234 = .ok (.invokestatic 37, 3) := by decide +kernel
theorem dX3_work_237 : decode cX3_work 237 = .ok (.putfield 9, 3) := by decide +kernel
theorem dX3_work_240 : decode cX3_work 240 = .ok (.aload_n 0, 1) := by decide +kernel
theorem dX3_work_241 : decode cX3_work 241 = .ok (.aload_n 2, 1) := by decide +kernel
theorem dX3_work_242 : decode cX3_work 242 = .ok (.getfield 31, 3) := by decide +kernel
theorem dX3_work_245 : decode cX3_work 245 = .ok (.aload_n 3, 1) := by decide +kernel
theorem dX3_work_246 : decode cX3_work 246 = .ok (.getfield 40, 3) := by decide +kernel
theorem dX3_work_249 : decode cX3_work 249 = .ok (.invokestatic 33, 3) := by decide +kernel
theorem dX3_work_252 : decode cX3_work 252 = .ok (.aload_n 3, 1) := by decide +kernel
theorem dX3_work_253 : decode cX3_work 253 = .ok (.getfield 31, 3) := by decide +kernel
theorem dX3_work_256 : decode cX3_work 256 = .ok (.aload_n 2, 1) := by decide +kernel
theorem dX3_work_257 : decode cX3_work 257 = .ok (.getfield 40, 3) := by decide +kernel
theorem dX3_work_260 : decode cX3_work 260 = .ok (.invokestatic 33, 3) := by decide +kernel
theorem dX3_work_263 : decode cX3_work 263 = .ok (.invokestatic 37, 3) := by decide +kernel
theorem dX3_work_266 : decode cX3_work 266 = .ok (.putfield 15, 3) := by decide +kernel
theorem dX3_work_269 : decode cX3_work 269 = .ok (.aload_n 0, 1) := by decide +kernel
theorem dX3_work_270 : decode cX3_work 270 = .ok (.aload_n 2, 1) := by decide +kernel
theorem dX3_work_271 : decode cX3_work 271 = .ok (.getfield 32, 3) := by decide +kernel
theorem dX3_work_274 : decode cX3_work 274 = .ok (.aload_n 3, 1) := by decide +kernel
theorem dX3_work_275 : decode cX3_work 275 = .ok (.getfield 32, 3) := by decide +kernel
theorem dX3_work_278 : decode cX3_work 278 = .ok (.invokestatic 33, 3) := by decide +kernel
theorem dX3_work_281 : decode cX3_work 281 = .ok (.putfield 21, 3) := by decide +kernel
theorem dX3_work_284 : decode cX3_work 284 = .ok (.goto 9, 3) := by decide +kernel
theorem dX3_work_287 : decode cX3_work 287 = .ok (.aload_n 0, 1) := by decide +kernel
theorem dX3_work_288 : decode cX3_work 288 = .ok (.aload_n 2, 1) := by decide +kernel
theorem dX3_work_289 : decode cX3_work 289 = .ok (.aload_n 3, 1) := by decide +kernel
theorem dX3_work_290 : decode cX3_work 290 = .ok (.invokevirtual 44, 3) := by decide +kernel
theorem dX3_work_293 : decode cX3_work 293 = .ok (.return_, 1) := by decide +kernel
theorem dX3_workOver_0 : decode cX3_workOver 0 = .ok (.aload_n 2, 1) := by decide +kernel
theorem dX3_workOver_1 : decode cX3_workOver 1 = .ok (.getfield 24, 3) := by decide +kernel
theorem dX3_workOver_4 : decode cX3_workOver 4 = .ok (.ifCond .ne 49, 3) := by decide +kernel
theorem dX3_workOver_7 : decode cX3_workOver 7 = .ok (.aload_n 0, 1) := by decide +kernel
theorem dX3_workOver_8 : decode cX3_workOver 8 = .ok (.aload_n 1, 1) := by decide +kernel
theorem dX3_workOver_9 : decode cX3_workOver 9 = .ok (.getfield 31, 3) := by decide +kernel
theorem dX3_workOver_12 : decode cX3_workOver 12 = .ok (.aload_n 2, 1) := by decide +kernel
theorem dX3_workOver_13 : decode cX3_workOver 13 = .ok (.getfield 32, 3) := by decide +kernel
theorem dX3_workOver_16 : decode cX3_workOver 16 = .ok (.invokestatic 33, 3) := by decide +kernel
theorem dX3_workOver_19 : decode cX3_workOver 19 = .ok (.putfield 9, 3) := by decide +kernel
theorem dX3_workOver_22 : decode cX3_workOver 22 = .ok (.aload_n 0, 1) := by decide +kernel
theorem dX3_workOver_23 : decode cX3_workOver 23 = .ok (.aload_n 1, 1) := by decide +kernel
theorem dX3_workOver_24 : decode cX3_workOver 24 = .ok (.getfield 40, 3) := by decide +kernel
theorem dX3_workOver_27 : decode cX3_workOver 27 = .ok (.aload_n 2, 1) := by decide +kernel
theorem dX3_workOver_28 : decode cX3_workOver 28 = .ok (.getfield 32, 3) := by decide +kernel
theorem dX3_workOver_31 : decode cX3_workOver 31 = .ok (.invokestatic 33, 3) := by decide +kernel
theorem dX3_workOver_34 : decode cX3_workOver 34 = .ok (.putfield 15, 3) := by decide +kernel
theorem dX3_workOver_37 : decode cX3_workOver 37 = .ok (.aload_n 0, 1) := by decide +kernel
theorem dX3_workOver_38 : decode cX3_workOver 38 = .ok (.aload_n 1, 1) := by decide +kernel
theorem dX3_workOver_39 : decode cX3_workOver 39 = .ok (.getfield 32, 3) := by decide +kernel
theorem dX3_workOver_42 : decode cX3_workOver 42 = .ok (.aload_n 2, 1) := by decide +kernel
theorem dX3_workOver_43 : decode cX3_workOver 43 = .ok (.getfield 31, 3) := by decide +kernel
theorem dX3_workOver_46 : decode cX3_workOver 46 = .ok (.invokestatic 33, 3) := by decide +kernel
theorem dX3_workOver_49 : decode cX3_workOver 49 = .ok (.putfield 21, 3) := by decide +kernel
theorem dX3_workOver_52 : decode cX3_workOver 52 = .ok (.return_, 1) := by decide +kernel
theorem dX3_workOver_53 : decode cX3_workOver 53 = .ok (.aload_n 0, 1) := by decide +kernel
theorem dX3_workOver_54 : decode cX3_workOver 54 = .ok (.aload_n 1, 1) := by decide +kernel
theorem dX3_workOver_55 : decode cX3_workOver 55 = .ok (.getfield 31, 3) := by decide +kernel
theorem dX3_workOver_58 : decode cX3_workOver 58 = .ok (.aload_n 2, 1) := by decide +kernel
theorem dX3_workOver_59 : decode cX3_workOver 59 = .ok (.getfield 31, 3) := by decide +kernel
theorem dX3_workOver_62 : decode cX3_workOver 62 = .ok (.invokestatic 33, 3) := by decide +kernel
theorem dX3_workOver_65 : decode cX3_workOver 65 = .ok (.aload_n 1, 1) := by decide +kernel
theorem dX3_workOver_66 : decode cX3_workOver 66 = .ok (.getfield 40, 3) := by decide +kernel
theorem dX3_workOver_69 : decode cX3_workOver 69 = .ok (.aload_n 2, 1) := by decide +kernel
theorem dX3_workOver_70 : decode cX3_workOver 70 = .ok (.getfield 40, 3) := by decide +kernel
theorem dX3_workOver_73 : decode cX3_workOver 73 = .ok (.invokestatic 33, 3) := by decide +kernel
theorem dX3_workOver_76 : decode cX3_workOver 76 = .ok (.aload_n 0, 1) := by decide +kernel
theorem dX3_workOver_77 : decode cX3_workOver 77 = .ok (.getfield 18, 3) := by decide +kernel
theorem dX3_workOver_80 : decode cX3_workOver 80 = .ok (.invokestatic 33, 3) := by decide +kernel
theorem dX3_workOver_83 : decode cX3_workOver 83 = .ok (.invokestatic 41, 3) := by decide +kernel
theorem dX3_workOver_86 : decode cX3_workOver 86 = .ok (.aload_n 2, 1) := by decide +kernel
theorem dX3_workOver_87 : decode cX3_workOver 87 = .ok (.getfield 32, 3) := by decide +kernel
theorem dX3_workOver_90 : decode cX3_workOver 90 = .ok (.invokestatic 33, 3) := by decide +kernel
theorem dX3_workOver_93 : decode cX3_workOver 93 = .ok (.putfield 9, 3) := by decide +kernel
theorem dX3_workOver_96 : decode cX3_workOver 96 = .ok (.aload_n 0, 1) := by decide +kernel
theorem dX3_workOver_97 : decode cX3_workOver 97 = .ok (.aload_n 1, 1) := by decide +kernel
theorem dX3_workOver_98 : decode cX3_workOver 98 = .ok (.getfield 40, 3) := by decide +kernel
theorem dX3_workOver_101 : decode cX3_workOver 101 = .ok (.aload_n 2, 1) := by decide +kernel
theorem dX3_workOver_102 : decode cX3_workOver 102 = .ok (.getfield 31, 3) := by decide +kernel
theorem dX3_workOver_105 : decode cX3_workOver 105 = .ok (.invokestatic 33, 3) := by decide +kernel
theorem dX3_workOver_108 : decode cX3_workOver 108 = .ok (.aload_n 1, 1) := by decide +kernel
theorem dX3_workOver_109 : decode cX3_workOver 109 = .ok (.getfield 31, 3) := by decide +kernel
theorem dX3_workOver_112 : decode cX3_workOver 112 = .ok (.aload_n 2, 1) := by decide +kernel
theorem dX3_workOver_113 : decode cX3_workOver 113 = .ok (.getfield 40, 3) := by decide +kernel
theorem dX3_workOver_116 : decode cX3_workOver 116 = .ok (.invokestatic 33, 3) := by decide +kernel
theorem dX3_workOver_119 : decode cX3_workOver 119 = .ok (.invokestatic 41, 3) := by decide +kernel
theorem dX3_workOver_122 : decode cX3_workOver 122 = .ok (.aload_n 2, 1) := by decide +kernel
theorem dX3_workOver_123 : decode cX3_workOver 123 = .ok (.getfield 32, 3) := by decide +kernel
theorem dX3_workOver_126 : decode cX3_workOver 126 = .ok (.invokestatic 33, 3) := by decide +kernel
theorem dX3_workOver_129 : decode cX3_workOver 129 = .ok (.putfield 15, 3) := by decide +kernel
theorem dX3_workOver_132 : decode cX3_workOver 132 = .ok (.aload_n 0, 1) := by decide +kernel
theorem dX3_workOver_133 : decode cX3_workOver 133 = .ok (.aload_n 2, 1) := by decide +kernel
theorem dX3_workOver_134 : decode cX3_workOver 134 = .ok (.getfield 31, 3) := by decide +kernel
theorem dX3_workOver_137 : decode cX3_workOver 137 = .ok (.aload_n 2, 1) := by decide +kernel
theorem dX3_workOver_138 : decode cX3_workOver 138 = .ok (.getfield 31, 3) := by decide +kernel
theorem dX3_workOver_141 : decode cX3_workOver 141 = .ok (.invokestatic 33, 3) := by decide +kernel
theorem dX3_workOver_144 : decode cX3_workOver 144 = .ok (.aload_n 2, 1) := by decide +kernel
theorem dX3_workOver_145 : decode cX3_workOver 145 = .ok (.getfield 40, 3) := by decide +kernel
theorem dX3_workOver_148 : decode cX3_workOver 148 = .ok (.aload_n 2, 1) := by decide +kernel
theorem dX3_workOver_149 : decode cX3_workOver 149 = .ok (.getfield 40, 3) := by decide +kernel
theorem dX3_workOver_152 : decode cX3_workOver 152 = .ok (.invokestatic 33, 3) := by decide +kernel
theorem dX3_workOver_155 : decode cX3_workOver 155 = .ok (.aload_n 0, 1) := by decide +kernel
theorem dX3_workOver_156 : decode cX3_workOver 156 = .ok (.getfield 18, 3) := by decide +kernel
theorem dX3_workOver_159 : decode cX3_workOver 159 = .ok (.invokestatic 33, 3) := by decide +kernel
theorem dX3_workOver_162 : decode cX3_workOver 162 = .ok (.invokestatic 41, 3) := by decide +kernel
theorem dX3_workOver_165 : decode cX3_workOver 165 = .ok (.aload_n 1, 1) := by decide +kernel
theorem dX3_workOver_166 : decode cX3_workOver 166 = .ok (.getfield 32, 3) := by decide +kernel
theorem dX3_workOver_169 : decode cX3_workOver 169 = .ok (.invokestatic 33, 3) := by decide +kernel
theorem dX3_workOver_172 : decode cX3_workOver 172 = .ok (.putfield 21, 3) := by decide +kernel
theorem dX3_workOver_175 : decode cX3_workOver 175 = .ok (.return_, 1) := by decide +kernel
theorem dX3_bringToLeastTerms_0 : decode cX3_bringToLeastTerms 0 = .ok (.aload_n 0, 1) := by decide +kernel
theorem dX3_bringToLeastTerms_1 : decode cX3_bringToLeastTerms 1 = .ok (.getfield 9, 3) := by decide +kernel
theorem dX3_bringToLeastTerms_4 : decode cX3_bringToLeastTerms 4 = .ok (.invokestatic 58, 3) := by decide +kernel
theorem dX3_bringToLeastTerms_7 : decode cX3_bringToLeastTerms 7 = .ok (.ifCond .ne 32, 3) := by decide +kernel
theorem dX3_bringToLeastTerms_10 : decode cX3_bringToLeastTerms 10 = .ok (.aload_n 0, 1) := by decide +kernel
theorem dX3_bringToLeastTerms_11 : decode cX3_bringToLeastTerms 11 = .ok (.getfield 15, 3) := by decide +kernel
theorem dX3_bringToLeastTerms_14 : decode cX3_bringToLeastTerms 14 = .ok (.invokestatic 58, 3) := by decide +kernel
theorem dX3_bringToLeastTerms_17 : decode cX3_bringToLeastTerms 17 = .ok (.ifCond .ne 22, 3) := by decide +kernel
theorem dX3_bringToLeastTerms_20 : decode cX3_bringToLeastTerms 20 = .ok (.aload_n 0, 1) := by decide +kernel
theorem dX3_bringToLeastTerms_21 : decode cX3_bringToLeastTerms 21 = .ok (.getfield 21, 3) := by decide +kernel
theorem dX3_bringToLeastTerms_24 : decode cX3_bringToLeastTerms 24 = .ok (.invokestatic 58, 3) := by decide +kernel
theorem dX3_bringToLeastTerms_27 : decode cX3_bringToLeastTerms 27 = .ok (.ifCond .ne 12, 3) := by decide +kernel
theorem dX3_bringToLeastTerms_30 : decode cX3_bringToLeastTerms 30 = .ok (.aload_n 0, 1) := by decide +kernel
theorem dX3_bringToLeastTerms_31 : decode cX3_bringToLeastTerms 31 = .ok (.getfield 21, 3) := by decide +kernel
theorem dX3_bringToLeastTerms_34 : decode cX3_bringToLeastTerms 34 = .ok (.lconst 0, 1) := by decide +kernel
theorem dX3_bringToLeastTerms_35 : decode cX3_bringToLeastTerms 35 = .ok (.lcmp, 1) := by decide +kernel
theorem dX3_bringToLeastTerms_36 : decode cX3_bringToLeastTerms 36 = .ok (.ifCond .ne 5, 3) := by decide +kernel
theorem dX3_bringToLeastTerms_39 : decode cX3_bringToLeastTerms 39 = .ok (.iconst 0, 1) := by decide +kernel
theorem dX3_bringToLeastTerms_40 : decode cX3_bringToLeastTerms 40 = .ok (.ireturn, 1) := by decide +kernel
theorem dX3_bringToLeastTerms_41 : decode cX3_bringToLeastTerms 41 = .ok (.aload_n 0, 1) := by decide +kernel
theorem dX3_bringToLeastTerms_42 : decode cX3_bringToLeastTerms 42 = .ok (.getfield 21, 3) := by decide +kernel
theorem dX3_bringToLeastTerms_45 : decode cX3_bringToLeastTerms 45 = .ok (.aload_n 0, 1) := by decide +kernel
theorem dX3_bringToLeastTerms_46 : decode cX3_bringToLeastTerms 46 = .ok (.getfield 9, 3) := by decide +kernel
theorem dX3_bringToLeastTerms_49 : decode cX3_bringToLeastTerms 49 = .ok (.invokestatic 62, 3) := by decide +kernel
theorem dX3_bringToLeastTerms_52 : decode cX3_bringToLeastTerms 52 = .ok (.aload_n 0, 1) := by decide +kernel
theorem dX3_bringToLeastTerms_53 : decode cX3_bringToLeastTerms 53 = .ok (.getfield 15, 3) := by decide +kernel
theorem dX3_bringToLeastTerms_56 : decode cX3_bringToLeastTerms 56 = .ok (.invokestatic 62, 3) := by decide +kernel
theorem dX3_bringToLeastTerms_59 : decode cX3_bringToLeastTerms 59 = .ok (.lstore_n 1, 1) := by decide +kernel
theorem dX3_bringToLeastTerms_60 : decode cX3_bringToLeastTerms 60 = .ok (.lload_n 1, 1) := by decide +kernel
theorem dX3_bringToLeastTerms_61 : decode cX3_bringToLeastTerms 61 = .ok (.lconst 0, 1) := by decide +kernel
theorem dX3_bringToLeastTerms_62 : decode cX3_bringToLeastTerms 62 = .ok (.lcmp, 1) := by decide +kernel
theorem dX3_bringToLeastTerms_63 : decode cX3_bringToLeastTerms 63 = .ok (.ifCond .ne 5, 3) := by decide +kernel
theorem dX3_bringToLeastTerms_66 : decode cX3_bringToLeastTerms 66 = .ok (.iconst 0, 1) := by decide +kernel
theorem dX3_bringToLeastTerms_67 : decode cX3_bringToLeastTerms 67 = .ok (.ireturn, 1) := by decide +kernel
theorem dX3_bringToLeastTerms_68 : decode cX3_bringToLeastTerms 68 = .ok (.aload_n 0, 1) := by decide +kernel
theorem dX3_bringToLeastTerms_69 : decode cX3_bringToLeastTerms 69 = .ok (.getfield 21, 3) := by decide +kernel
theorem dX3_bringToLeastTerms_72 : decode cX3_bringToLeastTerms 72 = .ok (.lconst 0, 1) := by decide +kernel
theorem dX3_bringToLeastTerms_73 : decode cX3_bringToLeastTerms 73 = .ok (.lcmp, 1) := by decide +kernel
theorem dX3_bringToLeastTerms_74 : decode cX3_bringToLeastTerms 74 = .ok (.ifCond .ge 8, 3) := by decide +kernel
theorem dX3_bringToLeastTerms_77 : decode cX3_bringToLeastTerms 77 = .ok (.lload_n 1, 1) := by decide +kernel
theorem dX3_bringToLeastTerms_78 : decode cX3_bringToLeastTerms 78 = .ok (.lneg, 1) := by decide +kernel
theorem dX3_bringToLeastTerms_79 : decode cX3_bringToLeastTerms 79 = .ok (.goto 4, 3) := by decide +kernel
theorem dX3_bringToLeastTerms_82 : decode cX3_bringToLeastTerms 82 = .ok (.lload_n 1, 1) := by decide +kernel
theorem dX3_bringToLeastTerms_83 : decode cX3_bringToLeastTerms 83 = .ok (.lstore_n 3, 1) := by decide +kernel
theorem dX3_bringToLeastTerms_84 : decode cX3_bringToLeastTerms 84 = .ok (.aload_n 0, 1) := by decide +kernel
theorem dX3_bringToLeastTerms_85 : decode cX3_bringToLeastTerms 85 = .ok (.dup, 1) := by decide +kernel
theorem dX3_bringToLeastTerms_86 : decode cX3_bringToLeastTerms 86 = .ok (.getfield 9, 3) := by decide +kernel
theorem dX3_bringToLeastTerms_89 : decode cX3_bringToLeastTerms 89 = .ok (.lload_n 3, 1) := by decide +kernel
theorem dX3_bringToLeastTerms_90 : decode cX3_bringToLeastTerms 90 = .ok (.ldiv, 1) := by decide +kernel
theorem dX3_bringToLeastTerms_91 : decode cX3_bringToLeastTerms 91 = .ok (.putfield 9, 3) := by decide +kernel
theorem dX3_bringToLeastTerms_94 : decode cX3_bringToLeastTerms 94 = .ok (.aload_n 0, 1) := by decide +kernel
theorem dX3_bringToLeastTerms_95 : decode cX3_bringToLeastTerms 95 = .ok (.dup, 1) := by decide +kernel
theorem dX3_bringToLeastTerms_96 : decode cX3_bringToLeastTerms 96 = .ok (.getfield 15, 3) := by decide +kernel
theorem dX3_bringToLeastTerms_99 : decode cX3_bringToLeastTerms 99 = .ok (.lload_n 3, 1) := by decide +kernel
theorem dX3_bringToLeastTerms_100 : decode cX3_bringToLeastTerms 100 = .ok (.ldiv, 1) := by decide +kernel
theorem dX3_bringToLeastTerms_101 : decode cX3_bringToLeastTerms 101 = .ok (.putfield 15, 3) := by decide +kernel
theorem dX3_bringToLeastTerms_104 : decode cX3_bringToLeastTerms 104 = .ok (.aload_n 0, 1) := by decide +kernel
theorem dX3_bringToLeastTerms_105 : decode cX3_bringToLeastTerms 105 = .ok (.dup, 1) := by decide +kernel
theorem dX3_bringToLeastTerms_106 : decode cX3_bringToLeastTerms 106 = .ok (.getfield 21, 3) := by decide +kernel
theorem dX3_bringToLeastTerms_109 : decode cX3_bringToLeastTerms 109 = .ok (.lload_n 3, 1) := by decide +kernel
theorem dX3_bringToLeastTerms_110 : decode cX3_bringToLeastTerms 110 = .ok (.ldiv, 1) := by decide +kernel
theorem dX3_bringToLeastTerms_111 : decode cX3_bringToLeastTerms 111 = .ok (.putfield 21, 3) := by decide +kernel
theorem dX3_bringToLeastTerms_114 : decode cX3_bringToLeastTerms 114 = .ok (.aload_n 0, 1) := by decide +kernel
theorem dX3_bringToLeastTerms_115 : decode cX3_bringToLeastTerms 115 = .ok (.getfield 15, 3) := by decide +kernel
theorem dX3_bringToLeastTerms_118 : decode cX3_bringToLeastTerms 118 = .ok (.lconst 0, 1) := by decide +kernel
theorem dX3_bringToLeastTerms_119 : decode cX3_bringToLeastTerms 119 = .ok (.lcmp, 1) := by decide +kernel
theorem dX3_bringToLeastTerms_120 : decode cX3_bringToLeastTerms 120 = .ok (.ifCond .eq 10, 3) := by decide +kernel
theorem dX3_bringToLeastTerms_123 : decode cX3_bringToLeastTerms 123 = .ok (.aload_n 0, 1) := by decide +kernel
theorem dX3_bringToLeastTerms_124 : decode cX3_bringToLeastTerms 124 = .ok (.invokevirtual 65, 3) := by decide +kernel
theorem dX3_bringToLeastTerms_127 : decode cX3_bringToLeastTerms 127 = .ok (.ifCond .ne 7, 3) := by decide +kernel
theorem dX3_bringToLeastTerms_130 : decode cX3_bringToLeastTerms 130 = .ok (.iconst 1, 1) := by decide +kernel
theorem dX3_bringToLeastTerms_131 : decode cX3_bringToLeastTerms 131 = .ok (.goto 4, 3) := by decide +kernel
theorem dX3_bringToLeastTerms_134 : decode cX3_bringToLeastTerms 134 = .ok (.iconst 0, 1) := by decide +kernel
theorem dX3_bringToLeastTerms_135 : decode cX3_bringToLeastTerms 135 = .ok (.ireturn, 1) := by decide +kernel
theorem dX3_isFarRoot_0 : decode cX3_isFarRoot 0 = .ok (.aload_n 0, 1) := by decide +kernel
theorem dX3_isFarRoot_1 : decode cX3_isFarRoot 1 = .ok (.getfield 21, 3) := by decide +kernel
theorem dX3_isFarRoot_4 : decode cX3_isFarRoot 4 = .ok (.ldc2_w 69, 3) := by decide +kernel
theorem dX3_isFarRoot_7 : decode cX3_isFarRoot 7 = .ok (.lcmp, 1) := by decide +kernel
theorem dX3_isFarRoot_8 : decode cX3_isFarRoot 8 = .ok (.ifCond .gt 52, 3) := by decide +kernel
theorem dX3_isFarRoot_11 : decode cX3_isFarRoot 11 = .ok (.aload_n 0, 1) := by decide +kernel
theorem dX3_isFarRoot_12 : decode cX3_isFarRoot 12 = .ok (.getfield 9, 3) := by decide +kernel
theorem dX3_isFarRoot_15 : decode cX3_isFarRoot 15 = .ok (.invokestatic 71, 3) := by decide +kernel
theorem dX3_isFarRoot_18 : decode cX3_isFarRoot 18 = .ok (.ldc2_w 77, 3) := by decide +kernel
theorem dX3_isFarRoot_21 : decode cX3_isFarRoot 21 = .ok (.lcmp, 1) := by decide +kernel
theorem dX3_isFarRoot_22 : decode cX3_isFarRoot 22 = .ok (.ifCond .gt 38, 3) := by decide +kernel
theorem dX3_isFarRoot_25 : decode cX3_isFarRoot 25 = .ok (.aload_n 0, 1) := by decide +kernel
theorem dX3_isFarRoot_26 : decode cX3_isFarRoot 26 = .ok (.getfield 15, 3) := by decide +kernel
theorem dX3_isFarRoot_29 : decode cX3_isFarRoot 29 = .ok (.invokestatic 71, 3) := by decide +kernel
theorem dX3_isFarRoot_32 : decode cX3_isFarRoot 32 = .ok (.ldc2_w 79, 3) := by decide +kernel
theorem dX3_isFarRoot_35 : decode cX3_isFarRoot 35 = .ok (.lcmp, 1) := by decide +kernel
theorem dX3_isFarRoot_36 : decode cX3_isFarRoot 36 = .ok (.ifCond .gt 24, 3) := by decide +kernel
theorem dX3_isFarRoot_39 : decode cX3_isFarRoot 39 = .ok (.aload_n 0, 1) := by decide +kernel
theorem dX3_isFarRoot_40 : decode cX3_isFarRoot 40 = .ok (.getfield 15, 3) := by decide +kernel
theorem dX3_isFarRoot_43 : decode cX3_isFarRoot 43 = .ok (.aload_n 0, 1) := by decide +kernel
theorem dX3_isFarRoot_44 : decode cX3_isFarRoot 44 = .ok (.getfield 15, 3) := by decide +kernel
theorem dX3_isFarRoot_47 : decode cX3_isFarRoot 47 = .ok (.lmul, 1) := by decide +kernel
theorem dX3_isFarRoot_48 : decode cX3_isFarRoot 48 = .ok (.aload_n 0, 1) := by decide +kernel
theorem dX3_isFarRoot_49 : decode cX3_isFarRoot 49 = .ok (.getfield 18, 3) := by decide +kernel
theorem dX3_isFarRoot_52 : decode cX3_isFarRoot 52 = .ok (.lmul, 1) := by decide +kernel
theorem dX3_isFarRoot_53 : decode cX3_isFarRoot 53 = .ok (.ldc2_w 81, 3) := by decide +kernel
theorem dX3_isFarRoot_56 : decode cX3_isFarRoot 56 = .ok (.lcmp, 1) := by decide +kernel
theorem dX3_isFarRoot_57 : decode cX3_isFarRoot 57 = .ok (.ifCond .le 7, 3) := by decide +kernel
theorem dX3_isFarRoot_60 : decode cX3_isFarRoot 60 = .ok (.iconst 1, 1) := by decide +kernel
theorem dX3_isFarRoot_61 : decode cX3_isFarRoot 61 = .ok (.goto 4, 3) := by decide +kernel
theorem dX3_isFarRoot_64 : decode cX3_isFarRoot 64 = .ok (.iconst 0, 1) := by decide +kernel
theorem dX3_isFarRoot_65 : decode cX3_isFarRoot 65 = .ok (.ireturn, 1) := by decide +kernel
theorem dX4_go_0 : decode cX4_go 0 = .ok (.aload_n 1, 1) := by decide +kernel
theorem dX4_go_1 : decode cX4_go 1 = .ok (.getfield 28, 3) := by decide +kernel
theorem dX4_go_4 : decode cX4_go 4 = .ok (.aload_n 1, 1) := by decide +kernel
theorem dX4_go_5 : decode cX4_go 5 = .ok (.getfield 28, 3) := by decide +kernel
theorem dX4_go_8 : decode cX4_go 8 = .ok (.lmul, 1) := by decide +kernel
theorem dX4_go_9 : decode cX4_go 9 = .ok (.aload_n 1, 1) := by decide +kernel
theorem dX4_go_10 : decode cX4_go 10 = .ok (.getfield 34, 3) := by decide +kernel
theorem dX4_go_13 : decode cX4_go 13 = .ok (.lmul, 1) := by decide +kernel
theorem dX4_go_14 : decode cX4_go 14 = .ok (.aload_n 1, 1) := by decide +kernel
theorem dX4_go_15 : decode cX4_go 15 = .ok (.getfield 37, 3) := by decide +kernel
theorem dX4_go_18 : decode cX4_go 18 = .ok (.lmul, 1) := by decide +kernel
theorem dX4_go_19 : decode cX4_go 19 = .ok (.aload_n 1, 1) := by decide +kernel
theorem dX4_go_20 : decode cX4_go 20 = .ok (.getfield 37, 3) := by decide +kernel
theorem dX4_go_23 : decode cX4_go 23 = .ok (.lmul, 1) := by decide +kernel
theorem dX4_go_24 : decode cX4_go 24 = .ok (.lstore_n 2, 1) := by decide +kernel
theorem dX4_go_25 : decode cX4_go 25 = .ok (.lload_n 2, 1) := by decide +kernel
theorem dX4_go_26 : decode cX4_go 26 = .ok (.invokestatic 40, 3) := by decide +kernel
theorem dX4_go_29 : decode cX4_go 29 = .ok (.lstore 4, 2) := by decide +kernel
theorem dX4_go_31 : decode cX4_go 31 = .ok (.aload_n 1, 1) := by decide +kernel
theorem dX4_go_32 : decode cX4_go 32 = .ok (.getfield 28, 3) := by decide +kernel
theorem dX4_go_35 : decode cX4_go 35 = .ok (.lconst 0, 1) := by decide +kernel
theorem dX4_go_36 : decode cX4_go 36 = .ok (.lcmp, 1) := by decide +kernel
theorem dX4_go_37 : decode cX4_go 37 = .ok (.ifCond .ge 11, 3) := by decide +kernel
theorem dX4_go_40 : decode cX4_go 40 = .ok (.aload_n 1, 1) := by decide +kernel
theorem dX4_go_41 : decode cX4_go 41 = .ok (.getfield 37, 3) := by decide +kernel
theorem dX4_go_44 : decode cX4_go 44 = .ok (.lneg, 1) := by decide +kernel
theorem dX4_go_45 : decode cX4_go 45 = .ok (.goto 7, 3) := by decide +kernel
theorem dX4_go_48 : decode cX4_go 48 = .ok (.aload_n 1, 1) := by decide +kernel
theorem dX4_go_49 : decode cX4_go 49 = .ok (.getfield 37, 3) := by decide +kernel
theorem dX4_go_52 : decode cX4_go 52 = .ok (.lstore 6, 2) := by decide +kernel
theorem dX4_go_54 : decode cX4_go 54 = .ok (.aload_n 1, 1) := by decide +kernel
theorem dX4_go_55 : decode cX4_go 55 = .ok (.getfield 44, 3) := by decide +kernel
theorem dX4_go_58 : decode cX4_go 58 = .ok (.lload 6, 2) := by decide +kernel
theorem dX4_go_60 : decode cX4_go 60 = .ok (.lmul, 1) := by decide +kernel
theorem dX4_go_61 : decode cX4_go 61 = .ok (.lstore 8, 2) := by decide +kernel
theorem dX4_go_63 : decode cX4_go 63 = .ok (.aload_n 1, 1) := by decide +kernel
theorem dX4_go_64 : decode cX4_go 64 = .ok (.getfield 37, 3) := by decide +kernel
theorem dX4_go_67 : decode cX4_go 67 = .ok (.lload 6, 2) := by decide +kernel
theorem dX4_go_69 : decode cX4_go 69 = .ok (.lmul, 1) := by decide +kernel
theorem dX4_go_70 : decode cX4_go 70 = .ok (.lstore 10, 2) := by decide +kernel
theorem dX4_go_72 : decode cX4_go 72 = .ok (.iconst 0, 1) := by decide +kernel
theorem dX4_go_73 : decode cX4_go 73 = .ok (.istore 12, 2) := by decide +kernel
theorem dX4_go_75 : decode cX4_go 75 = .ok (.iload 12, 2) := by decide +kernel
theorem dX4_go_77 : decode cX4_go 77 = .ok (.bipush 60, 2) := by decide +kernel
theorem dX4_go_79 : decode cX4_go 79 = .ok (.if_icmp .gt 77, 3) := by decide +kernel
theorem dX4_go_82 : decode cX4_go 82 = .ok (.lload 10, 2) := by decide +kernel
theorem dX4_go_84 : decode cX4_go 84 = .ok (.lconst 0, 1) := by decide +kernel
theorem dX4_go_85 : decode cX4_go 85 = .ok (.lcmp, 1) := by decide +kernel
theorem dX4_go_86 : decode cX4_go 86 = .ok (.ifCond .eq 70, 3) := by decide +kernel
theorem dX4_go_89 : decode cX4_go 89 = .ok (.lload 8, 2) := by decide +kernel
theorem dX4_go_91 : decode cX4_go 91 = .ok (.lload 4, 2) := by decide +kernel
theorem dX4_go_93 : decode cX4_go 93 = .ok (.ladd, 1) := by decide +kernel
theorem dX4_go_94 : decode cX4_go 94 = .ok (.lload 10, 2) := by decide +kernel
theorem dX4_go_96 : decode cX4_go 96 = .ok (.invokestatic 47, 3) := by decide +kernel
theorem dX4_go_99 : decode cX4_go 99 = .ok (.lstore 13, 2) := by decide +kernel
theorem dX4_go_101 : decode cX4_go 101 = .ok (.aload_n 0, 1) := by decide +kernel
theorem dX4_go_102 : decode cX4_go 102 = .ok (.getfield 9, 3) := by decide +kernel
theorem dX4_go_105 : decode cX4_go 105 = .ok (.iload 12, 2) := by decide +kernel
theorem dX4_go_107 : decode cX4_go 107 = .ok (.lload 8, 2) := by decide +kernel
theorem dX4_go_109 : decode cX4_go 109 = .ok (.lastore, 1) := by decide +kernel
theorem dX4_go_110 : decode cX4_go 110 = .ok (.aload_n 0, 1) := by decide +kernel
theorem dX4_go_111 : decode cX4_go 111 = .ok (.getfield 15, 3) := by decide +kernel
theorem dX4_go_114 : decode cX4_go 114 = .ok (.iload 12, 2) := by decide +kernel
theorem dX4_go_116 : decode cX4_go 116 = .ok (.lload 10, 2) := by decide +kernel
theorem dX4_go_118 : decode cX4_go 118 = .ok (.lastore, 1) := by decide +kernel
theorem dX4_go_119 : decode cX4_go 119 = .ok (.aload_n 0, 1) := by decide +kernel
theorem dX4_go_120 : decode cX4_go 120 = .ok (.getfield 18, 3) := by decide +kernel
theorem dX4_go_123 : decode cX4_go 123 = .ok (.iload 12, 2) := by decide +kernel
theorem dX4_go_125 : decode cX4_go 125 = .ok (.lload 13, 2) := by decide +kernel
theorem dX4_go_127 : decode cX4_go 127 = .ok (.lastore, 1) := by decide +kernel
theorem dX4_go_128 : decode cX4_go 128 = .ok (.lload 13, 2) := by decide +kernel
theorem dX4_go_130 : decode cX4_go 130 = .ok (.lload 10, 2) := by decide +kernel
theorem dX4_go_132 : decode cX4_go 132 = .ok (.lmul, 1) := by decide +kernel
theorem dX4_go_133 : decode cX4_go 133 = .ok (.lload 8, 2) := by decide +kernel
theorem dX4_go_135 : decode cX4_go 135 = .ok (.lsub, 1) := by decide +kernel
theorem dX4_go_136 : decode cX4_go 136 = .ok (.lstore 8, 2) := by decide +kernel
theorem dX4_go_138 : decode cX4_go 138 = .ok (.lload_n 2, 1) := by decide +kernel
theorem dX4_go_139 : decode cX4_go 139 = .ok (.lload 8, 2) := by decide +kernel
theorem dX4_go_141 : decode cX4_go 141 = .ok (.lload 8, 2) := by decide +kernel
theorem dX4_go_143 : decode cX4_go 143 = .ok (.lmul, 1) := by decide +kernel
theorem dX4_go_144 : decode cX4_go 144 = .ok (.lsub, 1) := by decide +kernel
theorem dX4_go_145 : decode cX4_go 145 = .ok (.lload 10, 2) := by decide +kernel
theorem dX4_go_147 : decode cX4_go 147 = .ok (.ldiv, 1) := by decide +kernel
theorem dX4_go_148 : decode cX4_go 148 = .ok (.lstore 10, 2) := by decide +kernel
theorem dX4_go_150 : decode cX4_go 150 = .ok (.iinc 12 1, 3) := by decide +kernel
theorem dX4_go_153 : decode cX4_go 153 = .ok (.goto (-78), 3) := by decide +kernel
theorem dX4_go_156 : decode cX4_go 156 = .ok (.return_, 1) := by decide +kernel
theorem dX4_wholeBelow_0 : decode cX4_wholeBelow 0 = .ok (.lload_n 2, 1) := by decide +kernel
theorem dX4_wholeBelow_1 : decode cX4_wholeBelow 1 = .ok (.lconst 0, 1) := by decide +kernel
theorem dX4_wholeBelow_2 : decode cX4_wholeBelow 2 = .ok (.lcmp, 1) := by decide +kernel
theorem dX4_wholeBelow_3 : decode cX4_wholeBelow 3 = .ok (.ifCond .le 11, 3) := by decide +kernel
theorem dX4_wholeBelow_6 : decode cX4_wholeBelow 6 = .ok (.lload_n 0, 1) := by decide +kernel
theorem dX4_wholeBelow_7 : decode cX4_wholeBelow 7 = .ok (.lload_n 2, 1) := by decide +kernel
theorem dX4_wholeBelow_8 : decode cX4_wholeBelow 8 = .ok (.invokestatic 51, 3) := by decide +kernel
theorem dX4_wholeBelow_11 : decode cX4_wholeBelow 11 = .ok (.goto 12, 3) := by decide +kernel
theorem dX4_wholeBelow_14 : decode cX4_wholeBelow 14 = .ok (.lload_n 0, 1) := by decide +kernel
theorem dX4_wholeBelow_15 : decode cX4_wholeBelow 15 = .ok (.lload_n 2, 1) := by decide +kernel
theorem dX4_wholeBelow_16 : decode cX4_wholeBelow 16 = .ok (.lneg, 1) := by decide +kernel
theorem dX4_wholeBelow_17 : decode cX4_wholeBelow 17 = .ok (.invokestatic 51, 3) := by decide +kernel
theorem dX4_wholeBelow_20 : decode cX4_wholeBelow 20 = .ok (.lneg, 1) := by decide +kernel
theorem dX4_wholeBelow_21 : decode cX4_wholeBelow 21 = .ok (.lconst 1, 1) := by decide +kernel
theorem dX4_wholeBelow_22 : decode cX4_wholeBelow 22 = .ok (.lsub, 1) := by decide +kernel
theorem dX4_wholeBelow_23 : decode cX4_wholeBelow 23 = .ok (.lreturn, 1) := by decide +kernel
theorem dX6_startWith_0 : decode cX6_startWith 0 = .ok (.aload_n 0, 1) := by decide +kernel
theorem dX6_startWith_1 : decode cX6_startWith 1 = .ok (.aload_n 1, 1) := by decide +kernel
theorem dX6_startWith_2 : decode cX6_startWith 2 = .ok (.putfield 7, 3) := by decide +kernel
theorem dX6_startWith_5 : decode cX6_startWith 5 = .ok (.aload_n 0, 1) := by decide +kernel
theorem dX6_startWith_6 : decode cX6_startWith 6 = .ok (.iconst 0, 1) := by decide +kernel
theorem dX6_startWith_7 : decode cX6_startWith 7 = .ok (.putfield 13, 3) := by decide +kernel
theorem dX6_startWith_10 : decode cX6_startWith 10 = .ok (.aload_n 0, 1) := by decide +kernel
theorem dX6_startWith_11 : decode cX6_startWith 11 = .ok (.iconst 0, 1) := by decide +kernel
theorem dX6_startWith_12 : decode cX6_startWith 12 = .ok (.putfield 17, 3) := by decide +kernel
theorem dX6_startWith_15 : decode cX6_startWith 15 = .ok (.return_, 1) := by decide +kernel
theorem dX7_start_0 : decode cX7_start 0 = .ok (.aload_n 0, 1) := by decide +kernel
theorem dX7_start_1 : decode cX7_start 1 = .ok (.iload_n 1, 1) := by decide +kernel
theorem dX7_start_2 : decode cX7_start 2 = .ok (.putfield 19, 3) := by decide +kernel
theorem dX7_start_5 : decode cX7_start 5 = .ok (.aload_n 0, 1) := by decide +kernel
theorem dX7_start_6 : decode cX7_start 6 = .ok (.iconst 0, 1) := by decide +kernel
theorem dX7_start_7 : decode cX7_start 7 = .ok (.putfield 23, 3) := by decide +kernel
theorem dX7_start_10 : decode cX7_start 10 = .ok (.aload_n 0, 1) := by decide +kernel
theorem dX7_start_11 : decode cX7_start 11 = .ok (.iconst 0, 1) := by decide +kernel
theorem dX7_start_12 : decode cX7_start 12 = .ok (.putfield 26, 3) := by decide +kernel
theorem dX7_start_15 : decode cX7_start 15 = .ok (.aload_n 0, 1) := by decide +kernel
theorem dX7_start_16 : decode cX7_start 16 = .ok (.iconst 0, 1) := by decide +kernel
theorem dX7_start_17 : decode cX7_start 17 = .ok (.putfield 29, 3) := by decide +kernel
theorem dX7_start_20 : decode cX7_start 20 = .ok (.aload_n 0, 1) := by decide +kernel
theorem dX7_start_21 : decode cX7_start 21 = .ok (.lconst 0, 1) := by decide +kernel
theorem dX7_start_22 : decode cX7_start 22 = .ok (.putfield 32, 3) := by decide +kernel
theorem dX7_start_25 : decode cX7_start 25 = .ok (.aload_n 0, 1) := by decide +kernel
theorem dX7_start_26 : decode cX7_start 26 = .ok (.lconst 0, 1) := by decide +kernel
theorem dX7_start_27 : decode cX7_start 27 = .ok (.putfield 36, 3) := by decide +kernel
theorem dX7_start_30 : decode cX7_start 30 = .ok (.aload_n 0, 1) := by decide +kernel
theorem dX7_start_31 : decode cX7_start 31 = .ok (.lconst 0, 1) := by decide +kernel
theorem dX7_start_32 : decode cX7_start 32 = .ok (.putfield 39, 3) := by decide +kernel
theorem dX7_start_35 : decode cX7_start 35 = .ok (.aload_n 0, 1) := by decide +kernel
theorem dX7_start_36 : decode cX7_start 36 = .ok (.lconst 1, 1) := by decide +kernel
theorem dX7_start_37 : decode cX7_start 37 = .ok (.putfield 42, 3) := by decide +kernel
theorem dX7_start_40 : decode cX7_start 40 = .ok (.return_, 1) := by decide +kernel
theorem dX7_becomeRatio_0 : decode cX7_becomeRatio 0 = .ok (.aload_n 0, 1) := by decide +kernel
theorem dX7_becomeRatio_1 : decode cX7_becomeRatio 1 = .ok (.iconst 0, 1) := by decide +kernel
theorem dX7_becomeRatio_2 : decode cX7_becomeRatio 2 = .ok (.invokevirtual 45, 3) := by decide +kernel
theorem dX7_becomeRatio_5 : decode cX7_becomeRatio 5 = .ok (.aload_n 0, 1) := by decide +kernel
theorem dX7_becomeRatio_6 : decode cX7_becomeRatio 6 = .ok (.lload_n 1, 1) := by decide +kernel
theorem dX7_becomeRatio_7 : decode cX7_becomeRatio 7 = .ok (.putfield 32, 3) := by decide +kernel
theorem dX7_becomeRatio_10 : decode cX7_becomeRatio 10 = .ok (.aload_n 0, 1) := by decide +kernel
theorem dX7_becomeRatio_11 : decode cX7_becomeRatio 11 = .ok (.lload_n 3, 1) := by decide +kernel
theorem dX7_becomeRatio_12 : decode cX7_becomeRatio 12 = .ok (.putfield 42, 3) := by decide +kernel
theorem dX7_becomeRatio_15 : decode cX7_becomeRatio 15 = .ok (.lload_n 1, 1) := by decide +kernel
theorem dX7_becomeRatio_16 : decode cX7_becomeRatio 16 = .ok (.lstore 5, 2) := by decide +kernel
theorem dX7_becomeRatio_18 : decode cX7_becomeRatio 18 = .ok (.lload_n 3, 1) := by decide +kernel
theorem dX7_becomeRatio_19 : decode cX7_becomeRatio 19 = .ok (.lstore 7, 2) := by decide +kernel
theorem dX7_becomeRatio_21 : decode cX7_becomeRatio 21 = .ok (.iconst 0, 1) := by decide +kernel
theorem dX7_becomeRatio_22 : decode cX7_becomeRatio 22 = .ok (.istore 9, 2) := by decide +kernel
theorem dX7_becomeRatio_24 : decode cX7_becomeRatio 24 = .ok (.iload 9, 2) := by decide +kernel
theorem dX7_becomeRatio_26 : decode cX7_becomeRatio 26 = .ok (.bipush 60, 2) := by decide +kernel
theorem dX7_becomeRatio_28 : decode cX7_becomeRatio 28 = .ok (.if_icmp .ge 49, 3) := by decide +kernel
theorem dX7_becomeRatio_31 : decode cX7_becomeRatio 31 = .ok (.lload 7, 2) := by decide +kernel
theorem dX7_becomeRatio_33 : decode cX7_becomeRatio 33 = .ok (.lconst 0, 1) := by decide +kernel
theorem dX7_becomeRatio_34 : decode cX7_becomeRatio 34 = .ok (.lcmp, 1) := by decide +kernel
theorem dX7_becomeRatio_35 : decode cX7_becomeRatio 35 = .ok (.ifCond .eq 42, 3) := by decide +kernel
theorem dX7_becomeRatio_38 : decode cX7_becomeRatio 38 = .ok (.lload 5, 2) := by decide +kernel
theorem dX7_becomeRatio_40 : decode cX7_becomeRatio 40 = .ok (.lload 7, 2) := by decide +kernel
theorem dX7_becomeRatio_42 : decode cX7_becomeRatio 42 = .ok (.invokestatic 49, 3) := by decide +kernel
theorem dX7_becomeRatio_45 : decode cX7_becomeRatio 45 = .ok (.lstore 10, 2) := by decide +kernel
theorem dX7_becomeRatio_47 : decode cX7_becomeRatio 47 = .ok (.aload_n 0, 1) := by decide +kernel
theorem dX7_becomeRatio_48 : decode cX7_becomeRatio 48 = .ok (.lload 10, 2) := by decide +kernel
theorem dX7_becomeRatio_50 : decode cX7_becomeRatio 50 = .ok (.invokevirtual 55, 3) := by decide +kernel
theorem dX7_becomeRatio_53 : decode cX7_becomeRatio 53 = .ok (.lload 5, 2) := by decide +kernel
theorem dX7_becomeRatio_55 : decode cX7_becomeRatio 55 = .ok (.lload 10, 2) := by decide +kernel
theorem dX7_becomeRatio_57 : decode cX7_becomeRatio 57 = .ok (.lload 7, 2) := by decide +kernel
theorem dX7_becomeRatio_59 : decode cX7_becomeRatio 59 = .ok (.lmul, 1) := by decide +kernel
theorem dX7_becomeRatio_60 : decode cX7_becomeRatio 60 = .ok (.lsub, 1) := by decide +kernel
theorem dX7_becomeRatio_61 : decode cX7_becomeRatio 61 = .ok (.lstore 12, 2) := by decide +kernel
theorem dX7_becomeRatio_63 : decode cX7_becomeRatio 63 = .ok (.lload 7, 2) := by decide +kernel
theorem dX7_becomeRatio_65 : decode cX7_becomeRatio 65 = .ok (.lstore 5, 2) := by decide +kernel
theorem dX7_becomeRatio_67 : decode cX7_becomeRatio 67 = .ok (.lload 12, 2) := by decide +kernel
theorem dX7_becomeRatio_69 : decode cX7_becomeRatio 69 = .ok (.lstore 7, 2) := by decide +kernel
theorem dX7_becomeRatio_71 : decode cX7_becomeRatio 71 = .ok (.iinc 9 1, 3) := by decide +kernel
theorem dX7_becomeRatio_74 : decode cX7_becomeRatio 74 = .ok (.goto (-50), 3) := by decide +kernel
theorem dX7_becomeRatio_77 : decode cX7_becomeRatio 77 = .ok (.aload_n 0, 1) := by decide +kernel
theorem dX7_becomeRatio_78 : decode cX7_becomeRatio 78 = .ok (.lload 7, 2) := by decide +kernel
theorem dX7_becomeRatio_80 : decode cX7_becomeRatio 80 = .ok (.lconst 0, 1) := by decide +kernel
theorem dX7_becomeRatio_81 : decode cX7_becomeRatio 81 = .ok (.lcmp, 1) := by decide +kernel
theorem dX7_becomeRatio_82 : decode cX7_becomeRatio 82 = .ok (.ifCond .ne 7, 3) := by decide +kernel
theorem dX7_becomeRatio_85 : decode cX7_becomeRatio 85 = .ok (.iconst 1, 1) := by decide +kernel
theorem dX7_becomeRatio_86 : decode cX7_becomeRatio 86 = .ok (.goto 4, 3) := by decide +kernel
theorem dX7_becomeRatio_89 : decode cX7_becomeRatio 89 = .ok (.iconst 0, 1) := by decide +kernel
theorem dX7_becomeRatio_90 : decode cX7_becomeRatio 90 = .ok (.putfield 26, 3) := by decide +kernel
theorem dX7_becomeRatio_93 : decode cX7_becomeRatio 93 = .ok (.return_, 1) := by decide +kernel
theorem dX7_isZeroRatio_0 : decode cX7_isZeroRatio 0 = .ok (.aload_n 0, 1) := by decide +kernel
theorem dX7_isZeroRatio_1 : decode cX7_isZeroRatio 1 = .ok (.getfield 19, 3) := by decide +kernel
theorem dX7_isZeroRatio_4 : decode cX7_isZeroRatio 4 = .ok (.ifCond .ne 16, 3) := by decide +kernel
theorem dX7_isZeroRatio_7 : decode cX7_isZeroRatio 7 = .ok (.aload_n 0, 1) := by decide +kernel
theorem dX7_isZeroRatio_8 : decode cX7_isZeroRatio 8 = .ok (.getfield 32, 3) := by decide +kernel
theorem dX7_isZeroRatio_11 : decode cX7_isZeroRatio 11 = .ok (.lconst 0, 1) := by decide +kernel
theorem dX7_isZeroRatio_12 : decode cX7_isZeroRatio 12 = .ok (.lcmp, 1) := by decide +kernel
theorem dX7_isZeroRatio_13 : decode cX7_isZeroRatio 13 = .ok (.ifCond .ne 7, 3) := by decide +kernel
theorem dX7_isZeroRatio_16 : decode cX7_isZeroRatio 16 = .ok (.iconst 1, 1) := by decide +kernel
theorem dX7_isZeroRatio_17 : decode cX7_isZeroRatio 17 = .ok (.goto 4, 3) := by decide +kernel
theorem dX7_isZeroRatio_20 : decode cX7_isZeroRatio 20 = .ok (.iconst 0, 1) := by decide +kernel
theorem dX7_isZeroRatio_21 : decode cX7_isZeroRatio 21 = .ok (.ireturn, 1) := by decide +kernel
theorem dX8_find_0 : decode cX8_find 0 = .ok (.iload_n 1, 1) := by decide +kernel
theorem dX8_find_1 : decode cX8_find 1 = .ok (.ifCond .lt 9, 3) := by decide +kernel
theorem dX8_find_4 : decode cX8_find 4 = .ok (.iload_n 1, 1) := by decide +kernel
theorem dX8_find_5 : decode cX8_find 5 = .ok (.bipush 40, 2) := by decide +kernel
theorem dX8_find_7 : decode cX8_find 7 = .ok (.if_icmp .lt 5, 3) := by decide +kernel
theorem dX8_find_10 : decode cX8_find 10 = .ok (.aconst_null, 1) := by decide +kernel
theorem dX8_find_11 : decode cX8_find 11 = .ok (.areturn, 1) := by decide +kernel
theorem dX8_find_12 : decode cX8_find 12 = .ok (.aload_n 0, 1) := by decide +kernel
theorem dX8_find_13 : decode cX8_find 13 = .ok (.getfield 11, 3) := by decide +kernel
theorem dX8_find_16 : decode cX8_find 16 = .ok (.iload_n 1, 1) := by decide +kernel
theorem dX8_find_17 : decode cX8_find 17 = .ok (.aaload, 1) := by decide +kernel
theorem dX8_find_18 : decode cX8_find 18 = .ok (.astore_n 2, 1) := by decide +kernel
theorem dX8_find_19 : decode cX8_find 19 = .ok (.aload_n 2, 1) := by decide +kernel
theorem dX8_find_20 : decode cX8_find 20 = .ok (.getfield 159, 3) := by decide +kernel
theorem dX8_find_23 : decode cX8_find 23 = .ok (.ifCond .eq 7, 3) := by decide +kernel
theorem dX8_find_26 : decode cX8_find 26 = .ok (.aload_n 2, 1) := by decide +kernel
theorem dX8_find_27 : decode cX8_find 27 = .ok (.goto 4, 3) := by decide +kernel
theorem dX8_find_30 : decode cX8_find 30 = .ok (.aconst_null, 1) := by decide +kernel
theorem dX8_find_31 : decode cX8_find 31 = .ok (.areturn, 1) := by decide +kernel
theorem dX8_leastFree_0 : decode cX8_leastFree 0 = .ok (.iconst 0, 1) := by decide +kernel
theorem dX8_leastFree_1 : decode cX8_leastFree 1 = .ok (.istore_n 1, 1) := by decide +kernel
theorem dX8_leastFree_2 : decode cX8_leastFree 2 = .ok (.iload_n 1, 1) := by decide +kernel
theorem dX8_leastFree_3 : decode cX8_leastFree 3 = .ok (.bipush 40, 2) := by decide +kernel
theorem dX8_leastFree_5 : decode cX8_leastFree 5 = .ok (.if_icmp .ge 23, 3) := by decide +kernel
theorem dX8_leastFree_8 : decode cX8_leastFree 8 = .ok (.aload_n 0, 1) := by decide +kernel
theorem dX8_leastFree_9 : decode cX8_leastFree 9 = .ok (.getfield 11, 3) := by decide +kernel
theorem dX8_leastFree_12 : decode cX8_leastFree 12 = .ok (.iload_n 1, 1) := by decide +kernel
theorem dX8_leastFree_13 : decode cX8_leastFree 13 = .ok (.aaload, 1) := by decide +kernel
theorem dX8_leastFree_14 : decode cX8_leastFree 14 = .ok (.getfield 159, 3) := by decide +kernel
theorem dX8_leastFree_17 : decode cX8_leastFree 17 = .ok (.ifCond .ne 5, 3) := by decide +kernel
theorem dX8_leastFree_20 : decode cX8_leastFree 20 = .ok (.iload_n 1, 1) := by decide +kernel
theorem dX8_leastFree_21 : decode cX8_leastFree 21 = .ok (.ireturn, 1) := by decide +kernel
theorem dX8_leastFree_22 : decode cX8_leastFree 22 = .ok (.iinc 1 1, 3) := by decide +kernel
theorem dX8_leastFree_25 : decode cX8_leastFree 25 = .ok (.goto (-23), 3) := by decide +kernel
theorem dX8_leastFree_28 : decode cX8_leastFree 28 = .ok (.iconst (-1), 1) := by decide +kernel
theorem dX8_leastFree_29 : decode cX8_leastFree 29 = .ok (.ireturn, 1) := by decide +kernel
theorem dX8_place_0 : decode cX8_place 0 = .ok (.aload_n 0, 1) := by decide +kernel
theorem dX8_place_1 : decode cX8_place 1 = .ok (.getfield 11, 3) := by decide +kernel
theorem dX8_place_4 : decode cX8_place 4 = .ok (.iload_n 1, 1) := by decide +kernel
theorem dX8_place_5 : decode cX8_place 5 = .ok (.aaload, 1) := by decide +kernel
theorem dX8_place_6 : decode cX8_place 6 = .ok (.iconst 1, 1) := by decide +kernel
theorem dX8_place_7 : decode cX8_place 7 = .ok (.putfield 159, 3) := by decide +kernel
theorem dX8_place_10 : decode cX8_place 10 = .ok (.iload_n 1, 1) := by decide +kernel
theorem dX8_place_11 : decode cX8_place 11 = .ok (.i2l, 1) := by decide +kernel
theorem dX8_place_12 : decode cX8_place 12 = .ok (.lreturn, 1) := by decide +kernel
theorem dX8_isExactAct_0 : decode cX8_isExactAct 0 = .ok (.aload_n 0, 1) := by decide +kernel
theorem dX8_isExactAct_1 : decode cX8_isExactAct 1 = .ok (.getfield 144, 3) := by decide +kernel
theorem dX8_isExactAct_4 : decode cX8_isExactAct 4 = .ok (.iconst 1, 1) := by decide +kernel
theorem dX8_isExactAct_5 : decode cX8_isExactAct 5 = .ok (.if_icmp .gt 11, 3) := by decide +kernel
theorem dX8_isExactAct_8 : decode cX8_isExactAct 8 = .ok (.aload_n 1, 1) := by decide +kernel
theorem dX8_isExactAct_9 : decode cX8_isExactAct 9 = .ok (.getfield 144, 3) := by decide +kernel
theorem dX8_isExactAct_12 : decode cX8_isExactAct 12 = .ok (.iconst 1, 1) := by decide +kernel
theorem dX8_isExactAct_13 : decode cX8_isExactAct 13 = .ok (.if_icmp .le 5, 3) := by decide +kernel
theorem dX8_isExactAct_16 : decode cX8_isExactAct 16 = .ok (.iconst 0, 1) := by decide +kernel
theorem dX8_isExactAct_17 : decode cX8_isExactAct 17 = .ok (.ireturn, 1) := by decide +kernel
theorem dX8_isExactAct_18 : decode cX8_isExactAct 18 = .ok (.aload_n 0, 1) := by decide +kernel
theorem dX8_isExactAct_19 : decode cX8_isExactAct 19 = .ok (.getfield 144, 3) := by decide +kernel
theorem dX8_isExactAct_22 : decode cX8_isExactAct 22 = .ok (.ifCond .eq 22, 3) := by decide +kernel
theorem dX8_isExactAct_25 : decode cX8_isExactAct 25 = .ok (.aload_n 1, 1) := by decide +kernel
theorem dX8_isExactAct_26 : decode cX8_isExactAct 26 = .ok (.getfield 144, 3) := by decide +kernel
theorem dX8_isExactAct_29 : decode cX8_isExactAct 29 = .ok (.ifCond .eq 15, 3) := by decide +kernel
theorem dX8_isExactAct_32 : decode cX8_isExactAct 32 = .ok (.aload_n 0, 1) := by decide +kernel
theorem dX8_isExactAct_33 : decode cX8_isExactAct 33 = .ok (.getfield 282, 3) := by decide +kernel
theorem dX8_isExactAct_36 : decode cX8_isExactAct 36 = .ok (.aload_n 1, 1) := by decide +kernel
theorem dX8_isExactAct_37 : decode cX8_isExactAct 37 = .ok (.getfield 282, 3) := by decide +kernel
theorem dX8_isExactAct_40 : decode cX8_isExactAct 40 = .ok (.lcmp, 1) := by decide +kernel
theorem dX8_isExactAct_41 : decode cX8_isExactAct 41 = .ok (.ifCond .ne 7, 3) := by decide +kernel
theorem dX8_isExactAct_44 : decode cX8_isExactAct 44 = .ok (.iconst 1, 1) := by decide +kernel
theorem dX8_isExactAct_45 : decode cX8_isExactAct 45 = .ok (.goto 4, 3) := by decide +kernel
theorem dX8_isExactAct_48 : decode cX8_isExactAct 48 = .ok (.iconst 0, 1) := by decide +kernel
theorem dX8_isExactAct_49 : decode cX8_isExactAct 49 = .ok (.ireturn, 1) := by decide +kernel
theorem dX8_sideBelow_0 : decode cX8_sideBelow 0 = .ok (.lconst 0, 1) := by decide +kernel
theorem dX8_sideBelow_1 : decode cX8_sideBelow 1 = .ok (.lstore_n 2, 1) := by decide +kernel
theorem dX8_sideBelow_2 : decode cX8_sideBelow 2 = .ok (.ldc2_w 302, 3) := by decide +kernel
theorem dX8_sideBelow_5 : decode cX8_sideBelow 5 = .ok (.lstore 4, 2) := by decide +kernel
theorem dX8_sideBelow_7 : decode cX8_sideBelow 7 = .ok (.lload 4, 2) := by decide +kernel
theorem dX8_sideBelow_9 : decode cX8_sideBelow 9 = .ok (.lconst 0, 1) := by decide +kernel
theorem dX8_sideBelow_10 : decode cX8_sideBelow 10 = .ok (.lcmp, 1) := by decide +kernel
theorem dX8_sideBelow_11 : decode cX8_sideBelow 11 = .ok (.ifCond .le 31, 3) := by decide +kernel
theorem dX8_sideBelow_14 : decode cX8_sideBelow 14 = .ok (.lload_n 2, 1) := by decide +kernel
theorem dX8_sideBelow_15 : decode cX8_sideBelow 15 = .ok (.lload 4, 2) := by decide +kernel
theorem dX8_sideBelow_17 : decode cX8_sideBelow 17 = .ok (.ladd, 1) := by decide +kernel
theorem dX8_sideBelow_18 : decode cX8_sideBelow 18 = .ok (.lstore 6, 2) := by decide +kernel
theorem dX8_sideBelow_20 : decode cX8_sideBelow 20 = .ok (.lload 6, 2) := by decide +kernel
theorem dX8_sideBelow_22 : decode cX8_sideBelow 22 = .ok (.lload 6, 2) := by decide +kernel
theorem dX8_sideBelow_24 : decode cX8_sideBelow 24 = .ok (.lmul, 1) := by decide +kernel
theorem dX8_sideBelow_25 : decode cX8_sideBelow 25 = .ok (.lload_n 0, 1) := by decide +kernel
theorem dX8_sideBelow_26 : decode cX8_sideBelow 26 = .ok (.lcmp, 1) := by decide +kernel
theorem dX8_sideBelow_27 : decode cX8_sideBelow 27 = .ok (.ifCond .gt 6, 3) := by decide +kernel
theorem dX8_sideBelow_30 : decode cX8_sideBelow 30 = .ok (.lload 6, 2) := by decide +kernel
theorem dX8_sideBelow_32 : decode cX8_sideBelow 32 = .ok (.lstore_n 2, 1) := by decide +kernel
theorem dX8_sideBelow_33 : decode cX8_sideBelow 33 = .ok (.lload 4, 2) := by decide +kernel
theorem dX8_sideBelow_35 : decode cX8_sideBelow 35 = .ok (.iconst 1, 1) := by decide +kernel
theorem dX8_sideBelow_36 : decode cX8_sideBelow 36 = .ok (.lshr, 1) := by decide +kernel
theorem dX8_sideBelow_37 : decode cX8_sideBelow 37 = .ok (.lstore 4, 2) := by decide +kernel
theorem dX8_sideBelow_39 : decode cX8_sideBelow 39 = .ok (.goto (-32), 3) := by decide +kernel
theorem dX8_sideBelow_42 : decode cX8_sideBelow 42 = .ok (.lload_n 2, 1) := by decide +kernel
theorem dX8_sideBelow_43 : decode cX8_sideBelow 43 = .ok (.lreturn, 1) := by decide +kernel
abbrev eX1_goOn (G : GG) (R : Int32 × AH) : EE := eM G 3 (some .boolean) false 4 103 0 0 (some (.int R.1)) R.2
theorem wX1_goOn_160 (G : GG) (hG : GT G) (R : Int32 × AH) (l0 : Nat) (s0 : Int32) (h : AH) (X : fX1_goOn_160 l0 s0 h = some R) : AW (eX1_goOn G R) RX1 cX1_goOn 160 [some (.ref (gB G + l0)), none, none] [.int s0] h 0 0 := by
  unfold fX1_goOn_160 at X
  refine r_ist2 161 dX1_goOn_160 rfl rfl ?_
  refine r_ald0 162 dX1_goOn_161 rfl ?_
  refine r_ild2 163 dX1_goOn_162 rfl ?_
  refine r_if_eq 173 166 dX1_goOn_163 (by decide) rfl X (fun _ X => ?_) (fun _ X => ?_)
  · refine r_ald0 174 dX1_goOn_173 rfl ?_
    refine r_gR 177 dX1_goOn_174 rfl lfX1_20 rfl X (fun b101 X => ?_)
    obtain ⟨hs, X⟩ := r_cv X
    obtain ⟨x103, h102, hc, X⟩ := bnd_ok X
    refine r_callV1 180 dX1_goOn_177 rfl lmX1_93 hs (mtX1_takeFrom G hG hc) rfl ⟨(Nat.zero_le _), (Nat.zero_le _)⟩ ?_
    exact r_retZ dX1_goOn_180 (Nat.zero_le _) (Nat.zero_le _) X
  · refine r_ald0 167 dX1_goOn_166 rfl ?_
    refine r_gR 170 dX1_goOn_167 rfl lfX1_14 rfl X (fun b104 X => ?_)
    refine r_goto 177 dX1_goOn_170 (by decide) ?_
    obtain ⟨hs, X⟩ := r_cv X
    obtain ⟨x106, h105, hc, X⟩ := bnd_ok X
    refine r_callV1 180 dX1_goOn_177 rfl lmX1_93 hs (mtX1_takeFrom G hG hc) rfl ⟨(Nat.zero_le _), (Nat.zero_le _)⟩ ?_
    exact r_retZ dX1_goOn_180 (Nat.zero_le _) (Nat.zero_le _) X
theorem wX1_goOn_118 (G : GG) (hG : GT G) (R : Int32 × AH) (l0 : Nat) (h : AH) (X : fX1_goOn_118 l0 h = some R) : AW (eX1_goOn G R) RX1 cX1_goOn 118 [some (.ref (gB G + l0)), none, none] [] h 0 0 := by
  unfold fX1_goOn_118 at X
  refine r_ald0 119 dX1_goOn_118 rfl ?_
  refine r_gR 122 dX1_goOn_119 rfl lfX1_14 rfl X (fun b101 X => ?_)
  refine r_gI 125 dX1_goOn_122 rfl lfX1_68 rfl X (fun x102 X => ?_)
  refine r_if_ne 159 128 dX1_goOn_125 (by decide) rfl X (fun _ X => ?_) (fun _ X => ?_)
  · refine r_iconst 160 _ dX1_goOn_159 rfl ki_0 ?_
    exact r_cut (wX1_goOn_160 G hG R _ _ _ X) ⟨rfl, trivial⟩
  · refine r_ald0 129 dX1_goOn_128 rfl ?_
    refine r_gR 132 dX1_goOn_129 rfl lfX1_20 rfl X (fun b103 X => ?_)
    refine r_gI 135 dX1_goOn_132 rfl lfX1_68 rfl X (fun x104 X => ?_)
    refine r_if_ne 155 138 dX1_goOn_135 (by decide) rfl X (fun _ X => ?_) (fun _ X => ?_)
    · refine r_iconst 156 _ dX1_goOn_155 rfl ki_1 ?_
      refine r_goto 160 dX1_goOn_156 (by decide) ?_
      exact r_cut (wX1_goOn_160 G hG R _ _ _ X) ⟨rfl, trivial⟩
    · refine r_ald0 139 dX1_goOn_138 rfl ?_
      refine r_gR 142 dX1_goOn_139 rfl lfX1_14 rfl X (fun b105 X => ?_)
      refine r_gI 145 dX1_goOn_142 rfl lfX1_64 rfl X (fun x106 X => ?_)
      refine r_ald0 146 dX1_goOn_145 rfl ?_
      refine r_gR 149 dX1_goOn_146 rfl lfX1_20 rfl X (fun b107 X => ?_)
      refine r_gI 152 dX1_goOn_149 rfl lfX1_64 rfl X (fun x108 X => ?_)
      refine r_icmp_gt 159 155 dX1_goOn_152 (by decide) rfl X (fun _ X => ?_) (fun _ X => ?_)
      · refine r_iconst 160 _ dX1_goOn_159 rfl ki_0 ?_
        exact r_cut (wX1_goOn_160 G hG R _ _ _ X) ⟨rfl, trivial⟩
      · refine r_iconst 156 _ dX1_goOn_155 rfl ki_1 ?_
        refine r_goto 160 dX1_goOn_156 (by decide) ?_
        exact r_cut (wX1_goOn_160 G hG R _ _ _ X) ⟨rfl, trivial⟩
theorem wX1_goOn_50 (G : GG) (hG : GT G) (R : Int32 × AH) (l0 : Nat) (l1 : Nat) (h : AH) (X : fX1_goOn_50 l0 l1 h = some R) : AW (eX1_goOn G R) RX1 cX1_goOn 50 [some (.ref (gB G + l0)), some (.ref (gB G + l1)), none] [] h 0 0 := by
  unfold fX1_goOn_50 at X
  refine r_ald1 51 dX1_goOn_50 rfl ?_
  refine r_gI 54 dX1_goOn_51 rfl lfX1_72 rfl X (fun x101 X => ?_)
  refine r_bipush 56 _ dX1_goOn_54 rfl kb_60 ?_
  refine r_icmp_lt 61 59 dX1_goOn_56 (by decide) rfl X (fun _ X => ?_) (fun _ X => ?_)
  · refine r_ald0 62 dX1_goOn_61 rfl ?_
    refine r_gR 65 dX1_goOn_62 rfl lfX1_14 rfl X (fun b102 X => ?_)
    refine r_gI 68 dX1_goOn_65 rfl lfX1_64 rfl X (fun x103 X => ?_)
    refine r_if_le 118 71 dX1_goOn_68 (by decide) rfl X (fun _ X => ?_) (fun _ X => ?_)
    · exact r_cut (wX1_goOn_118 G hG R _ _ X) ⟨rfl, trivial⟩
    · refine r_ald0 72 dX1_goOn_71 rfl ?_
      refine r_gR 75 dX1_goOn_72 rfl lfX1_20 rfl X (fun b104 X => ?_)
      refine r_gI 78 dX1_goOn_75 rfl lfX1_64 rfl X (fun x105 X => ?_)
      refine r_if_le 118 81 dX1_goOn_78 (by decide) rfl X (fun _ X => ?_) (fun _ X => ?_)
      · exact r_cut (wX1_goOn_118 G hG R _ _ X) ⟨rfl, trivial⟩
      · refine r_ald0 82 dX1_goOn_81 rfl ?_
        obtain ⟨hs, X⟩ := r_cv X
        obtain ⟨x107, h106, hc, X⟩ := bnd_ok X
        refine r_callV0 85 dX1_goOn_82 rfl lmX1_78 hs (mtX1_workOutCorners G hG hc) rfl ⟨(Nat.zero_le _), (Nat.zero_le _)⟩ ?_
        refine r_if_ne 90 88 dX1_goOn_85 (by decide) rfl X (fun _ X => ?_) (fun _ X => ?_)
        · refine r_ald0 91 dX1_goOn_90 rfl ?_
          obtain ⟨hs, X⟩ := r_cv X
          obtain ⟨x109, h108, hc, X⟩ := bnd_ok X
          refine r_callV0 94 dX1_goOn_91 rfl lmX1_82 hs (mtX1_cornersAgree G hG hc) rfl ⟨(Nat.zero_le _), (Nat.zero_le _)⟩ ?_
          refine r_if_eq 118 97 dX1_goOn_94 (by decide) rfl X (fun _ X => ?_) (fun _ X => ?_)
          · exact r_cut (wX1_goOn_118 G hG R _ _ X) ⟨rfl, trivial⟩
          · refine r_ald0 98 dX1_goOn_97 rfl ?_
            refine r_ald1 99 dX1_goOn_98 rfl ?_
            refine r_ald0 100 dX1_goOn_99 rfl ?_
            refine r_gR 103 dX1_goOn_100 rfl lfX1_30 rfl X (fun b110 X => ?_)
            refine r_iconst 104 _ dX1_goOn_103 rfl ki_0 ?_
            refine r_aL 105 1 dX1_goOn_104 rfl rfl X (fun x111 X => ?_)
            refine r_ald0 106 dX1_goOn_105 rfl ?_
            refine r_gR 109 dX1_goOn_106 rfl lfX1_33 rfl X (fun b112 X => ?_)
            refine r_iconst 110 _ dX1_goOn_109 rfl ki_0 ?_
            refine r_aL 111 1 dX1_goOn_110 rfl rfl X (fun x113 X => ?_)
            obtain ⟨x115, h114, hc, X⟩ := bnd_ok X
            refine r_callS2 114 dX1_goOn_111 rfl lmX1_85 (mtX8_floorOf G hG hc) rfl ⟨(Nat.zero_le _), (Nat.zero_le _)⟩ ?_
            obtain ⟨hs, X⟩ := r_cv X
            obtain ⟨x117, h116, hc, X⟩ := bnd_ok X
            refine r_callV2 117 dX1_goOn_114 rfl lmX1_89 hs (mtX1_giveTo G hG hc) rfl ⟨(Nat.zero_le _), (Nat.zero_le _)⟩ ?_
            exact r_retZ dX1_goOn_117 (Nat.zero_le _) (Nat.zero_le _) X
        · refine r_iconst 89 _ dX1_goOn_88 rfl ki_0 ?_
          exact r_ret0 dX1_goOn_89 (Nat.zero_le _) (Nat.zero_le _) X
  · refine r_iconst 60 _ dX1_goOn_59 rfl ki_0 ?_
    exact r_ret0 dX1_goOn_60 (Nat.zero_le _) (Nat.zero_le _) X
theorem wX1_goOn (G : GG) (hG : GT G) (R : Int32 × AH) (a0 : Nat) (a1 : Nat) (h : AH) (X : fX1_goOn a0 a1 h = some R) : AW (eX1_goOn G R) RX1 cX1_goOn 0 [some (.ref (gB G + a0)), some (.ref (gB G + a1)), none] [] h 0 0 := by
  unfold fX1_goOn at X
  refine r_ald0 1 dX1_goOn_0 rfl ?_
  refine r_gR 4 dX1_goOn_1 rfl lfX1_14 rfl X (fun b101 X => ?_)
  refine r_gI 7 dX1_goOn_4 rfl lfX1_68 rfl X (fun x102 X => ?_)
  refine r_if_eq 50 10 dX1_goOn_7 (by decide) rfl X (fun _ X => ?_) (fun _ X => ?_)
  · exact r_cut (wX1_goOn_50 G hG R _ _ _ X) ⟨rfl, ⟨rfl, trivial⟩⟩
  · refine r_ald0 11 dX1_goOn_10 rfl ?_
    refine r_gR 14 dX1_goOn_11 rfl lfX1_20 rfl X (fun b103 X => ?_)
    refine r_gI 17 dX1_goOn_14 rfl lfX1_68 rfl X (fun x104 X => ?_)
    refine r_if_eq 50 20 dX1_goOn_17 (by decide) rfl X (fun _ X => ?_) (fun _ X => ?_)
    · exact r_cut (wX1_goOn_50 G hG R _ _ _ X) ⟨rfl, ⟨rfl, trivial⟩⟩
    · refine r_ald0 21 dX1_goOn_20 rfl ?_
      refine r_gR 24 dX1_goOn_21 rfl lfX1_23 rfl X (fun b105 X => ?_)
      refine r_bipush 26 _ dX1_goOn_24 rfl kb_7 ?_
      refine r_aL 27 1 dX1_goOn_26 rfl rfl X (fun x106 X => ?_)
      refine r_lconst 28 _ dX1_goOn_27 rfl kl_0 ?_
      refine r_lif_ne 50 32 dX1_goOn_28 dX1_goOn_29 (by decide) rfl X (fun _ X => ?_) (fun _ X => ?_)
      · exact r_cut (wX1_goOn_50 G hG R _ _ _ X) ⟨rfl, ⟨rfl, trivial⟩⟩
      · refine r_ald1 33 dX1_goOn_32 rfl ?_
        refine r_ald1 34 dX1_goOn_33 rfl ?_
        refine r_gI 37 dX1_goOn_34 rfl lfX1_72 rfl X (fun x107 X => ?_)
        refine r_if_le 44 40 dX1_goOn_37 (by decide) rfl X (fun _ X => ?_) (fun _ X => ?_)
        · refine r_iconst 45 _ dX1_goOn_44 rfl ki_0 ?_
          refine r_pZ 48 dX1_goOn_45 rfl lpX1_75 rfl X (fun h108 X => ?_)
          refine r_iconst 49 _ dX1_goOn_48 rfl ki_0 ?_
          exact r_ret0 dX1_goOn_49 (Nat.zero_le _) (Nat.zero_le _) X
        · refine r_iconst 41 _ dX1_goOn_40 rfl ki_1 ?_
          refine r_goto 45 dX1_goOn_41 (by decide) ?_
          refine r_pZ 48 dX1_goOn_45 rfl lpX1_75 rfl X (fun h109 X => ?_)
          refine r_iconst 49 _ dX1_goOn_48 rfl ki_0 ?_
          exact r_ret0 dX1_goOn_49 (Nat.zero_le _) (Nat.zero_le _) X
theorem mtX1_goOn (G : GG) (hG : GT G) {a0 : Nat} {a1 : Nat} {h h' : AH} {v : Int32} (hc : fX1_goOn a0 a1 h = some (v, h')) : AMet G yX1_goOn cX1_goOn 3 (some .boolean) 4 103 0 0 [.ref (gB G + a0), .ref (gB G + a1)] h (some (.int v)) h' :=
  amet_of false [some (.ref (gB G + a0)), some (.ref (gB G + a1)), none] (by decide +kernel) (by decide) (Nat.le_of_ble_eq_true rfl) rfl (Nat.le_of_ble_eq_true rfl) (wX1_goOn G hG (v, h') _ _ h hc)
abbrev eX6_startWith (G : GG) (R : Unit × AH) : EE := eM G 2 none false 0 0 0 0 none R.2
theorem wX6_startWith (G : GG) (hG : GT G) (R : Unit × AH) (a0 : Nat) (a1 : Nat) (h : AH) (X : fX6_startWith a0 a1 h = some R) : AW (eX6_startWith G R) RX6 cX6_startWith 0 [some (.ref (gB G + a0)), some (.ref (gB G + a1))] [] h 0 0 := by
  unfold fX6_startWith at X
  refine r_ald0 1 dX6_startWith_0 rfl ?_
  refine r_ald1 2 dX6_startWith_1 rfl ?_
  refine r_pR 5 dX6_startWith_2 rfl lpX6_7 rfl X (fun h101 X => ?_)
  refine r_ald0 6 dX6_startWith_5 rfl ?_
  refine r_iconst 7 _ dX6_startWith_6 rfl ki_0 ?_
  refine r_pI 10 dX6_startWith_7 rfl lpX6_13 rfl X (fun h102 X => ?_)
  refine r_ald0 11 dX6_startWith_10 rfl ?_
  refine r_iconst 12 _ dX6_startWith_11 rfl ki_0 ?_
  refine r_pZ 15 dX6_startWith_12 rfl lpX6_17 rfl X (fun h103 X => ?_)
  exact r_retV dX6_startWith_15 (Nat.zero_le _) (Nat.zero_le _) X
theorem mtX6_startWith (G : GG) (hG : GT G) {a0 : Nat} {a1 : Nat} {h h' : AH} {v : Unit} (hc : fX6_startWith a0 a1 h = some (v, h')) : AMet G yX6_startWith cX6_startWith 2 none 0 0 0 0 [.ref (gB G + a0), .ref (gB G + a1)] h none h' :=
  amet_of false [some (.ref (gB G + a0)), some (.ref (gB G + a1))] (by decide +kernel) (by decide) (Nat.le_of_ble_eq_true rfl) rfl (Nat.le_of_ble_eq_true rfl) (wX6_startWith G hG (v, h') _ _ h hc)
abbrev eX7_start (G : GG) (R : Unit × AH) : EE := eM G 2 none false 0 0 0 0 none R.2
theorem wX7_start (G : GG) (hG : GT G) (R : Unit × AH) (a0 : Nat) (x0 : Int32) (h : AH) (X : fX7_start a0 x0 h = some R) : AW (eX7_start G R) RX7 cX7_start 0 [some (.ref (gB G + a0)), some (.int x0)] [] h 0 0 := by
  unfold fX7_start at X
  refine r_ald0 1 dX7_start_0 rfl ?_
  refine r_ild1 2 dX7_start_1 rfl ?_
  refine r_pI 5 dX7_start_2 rfl lpX7_19 rfl X (fun h101 X => ?_)
  refine r_ald0 6 dX7_start_5 rfl ?_
  refine r_iconst 7 _ dX7_start_6 rfl ki_0 ?_
  refine r_pI 10 dX7_start_7 rfl lpX7_23 rfl X (fun h102 X => ?_)
  refine r_ald0 11 dX7_start_10 rfl ?_
  refine r_iconst 12 _ dX7_start_11 rfl ki_0 ?_
  refine r_pZ 15 dX7_start_12 rfl lpX7_26 rfl X (fun h103 X => ?_)
  refine r_ald0 16 dX7_start_15 rfl ?_
  refine r_iconst 17 _ dX7_start_16 rfl ki_0 ?_
  refine r_pI 20 dX7_start_17 rfl lpX7_29 rfl X (fun h104 X => ?_)
  refine r_ald0 21 dX7_start_20 rfl ?_
  refine r_lconst 22 _ dX7_start_21 rfl kl_0 ?_
  refine r_pL 25 dX7_start_22 rfl lpX7_32 rfl X (fun h105 X => ?_)
  refine r_ald0 26 dX7_start_25 rfl ?_
  refine r_lconst 27 _ dX7_start_26 rfl kl_0 ?_
  refine r_pL 30 dX7_start_27 rfl lpX7_36 rfl X (fun h106 X => ?_)
  refine r_ald0 31 dX7_start_30 rfl ?_
  refine r_lconst 32 _ dX7_start_31 rfl kl_0 ?_
  refine r_pL 35 dX7_start_32 rfl lpX7_39 rfl X (fun h107 X => ?_)
  refine r_ald0 36 dX7_start_35 rfl ?_
  refine r_lconst 37 _ dX7_start_36 rfl kl_1 ?_
  refine r_pL 40 dX7_start_37 rfl lpX7_42 rfl X (fun h108 X => ?_)
  exact r_retV dX7_start_40 (Nat.zero_le _) (Nat.zero_le _) X
theorem mtX7_start (G : GG) (hG : GT G) {a0 : Nat} {x0 : Int32} {h h' : AH} {v : Unit} (hc : fX7_start a0 x0 h = some (v, h')) : AMet G yX7_start cX7_start 2 none 0 0 0 0 [.ref (gB G + a0), .int x0] h none h' :=
  amet_of false [some (.ref (gB G + a0)), some (.int x0)] (by decide +kernel) (by decide) (Nat.le_of_ble_eq_true rfl) rfl (Nat.le_of_ble_eq_true rfl) (wX7_start G hG (v, h') _ _ h hc)
abbrev eX1_make (G : GG) (R : Unit × AH) : EE := eM G 6 none false 5 125 0 0 none R.2
theorem wX1_make_58 (G : GG) (hG : GT G) (R : Unit × AH) (l0 : Nat) (l1 : Nat) (h : AH) (X : fX1_make_58 l0 l1 h = some R) : AW (eX1_make G R) RX1 cX1_make 58 [some (.ref (gB G + l0)), some (.ref (gB G + l1)), none, none, none, none] [] h 0 0 := by
  unfold fX1_make_58 at X
  refine r_ald1 59 dX1_make_58 rfl ?_
  refine r_ald0 60 dX1_make_59 rfl ?_
  refine r_gR 63 dX1_make_60 rfl lfX1_14 rfl X (fun b101 X => ?_)
  refine r_gI 66 dX1_make_63 rfl lfX1_64 rfl X (fun x102 X => ?_)
  refine r_ald0 67 dX1_make_66 rfl ?_
  refine r_gR 70 dX1_make_67 rfl lfX1_20 rfl X (fun b103 X => ?_)
  refine r_gI 73 dX1_make_70 rfl lfX1_64 rfl X (fun x104 X => ?_)
  refine r_iadd 74 dX1_make_73 rfl ?_
  refine r_pI 77 dX1_make_74 rfl lpX1_67 rfl X (fun h105 X => ?_)
  exact r_retV dX1_make_77 (Nat.zero_le _) (Nat.zero_le _) X
theorem wX1_make_32 (G : GG) (hG : GT G) (R : Unit × AH) {K32 : Nat → Nat → Int32 → Int32 → AH → Fn Unit} (hK32 : ∀ (l0 : Nat) (l1 : Nat) (l4 : Int32) (l5 : Int32) (h : AH), K32 l0 l1 l4 l5 h = some R → AW (eX1_make G R) RX1 cX1_make 32 [some (.ref (gB G + l0)), some (.ref (gB G + l1)), none, none, some (.int l4), some (.int l5)] [] h 0 0) (l0 : Nat) (l1 : Nat) (l4 : Int32) (l5 : Int32) (h : AH) (X : fX1_make_32 K32 l0 l1 l4 l5 h = some R) : AW (eX1_make G R) RX1 cX1_make 32 [some (.ref (gB G + l0)), some (.ref (gB G + l1)), none, none, some (.int l4), some (.int l5)] [] h 0 0 := by
  unfold fX1_make_32 at X
  refine r_ild5 34 dX1_make_32 rfl ?_
  refine r_sipush 37 _ dX1_make_34 rfl ks_182 ?_
  refine r_icmp_gt 58 40 dX1_make_37 (by decide) rfl X (fun _ X => ?_) (fun _ X => ?_)
  · exact r_cut (wX1_make_58 G hG R _ _ _ X) ⟨rfl, ⟨rfl, trivial⟩⟩
  · refine r_ild4 42 dX1_make_40 rfl ?_
    refine r_if_eq 58 45 dX1_make_42 (by decide) rfl X (fun _ X => ?_) (fun _ X => ?_)
    · exact r_cut (wX1_make_58 G hG R _ _ _ X) ⟨rfl, ⟨rfl, trivial⟩⟩
    · refine r_ald0 46 dX1_make_45 rfl ?_
      refine r_ald1 47 dX1_make_46 rfl ?_
      obtain ⟨hs, X⟩ := r_cv X
      obtain ⟨x102, h101, hc, X⟩ := bnd_ok X
      refine r_callV1 50 dX1_make_47 rfl lmX1_60 hs (mtX1_goOn G hG hc) rfl ⟨(Nat.zero_le _), (Nat.zero_le _)⟩ ?_
      refine r_ist4 52 dX1_make_50 rfl rfl ?_
      refine r_iinc5w 55 dX1_make_52 rfl rfl ki_1 X (fun x103 X => ?_)
      refine r_goto 32 dX1_make_55 (by decide) ?_
      exact r_cut (hK32 _ _ _ _ _ X) ⟨rfl, ⟨rfl, ⟨rfl, ⟨rfl, trivial⟩⟩⟩⟩
theorem wX1_make_32L (G : GG) (hG : GT G) (R : Unit × AH) : ∀ (m : Nat) (l0 : Nat) (l1 : Nat) (l4 : Int32) (l5 : Int32) (h : AH), fX1_make_32L m l0 l1 l4 l5 h = some R → AW (eX1_make G R) RX1 cX1_make 32 [some (.ref (gB G + l0)), some (.ref (gB G + l1)), none, none, some (.int l4), some (.int l5)] [] h 0 0 := by
  intro m
  induction m with
  | zero => intro l0 l1 l4 l5 h X; exact nomatch (show (none : Fn Unit) = some R from X)
  | succ m ih => intro l0 l1 l4 l5 h X; exact wX1_make_32 G hG R ih l0 l1 l4 l5 h X
theorem wX1_make (G : GG) (hG : GT G) (R : Unit × AH) (a0 : Nat) (a1 : Nat) (a2 : Nat) (a3 : Nat) (h : AH) (X : fX1_make a0 a1 a2 a3 h = some R) : AW (eX1_make G R) RX1 cX1_make 0 [some (.ref (gB G + a0)), some (.ref (gB G + a1)), some (.ref (gB G + a2)), some (.ref (gB G + a3)), none, none] [] h 0 0 := by
  unfold fX1_make at X
  refine r_ald1 1 dX1_make_0 rfl ?_
  refine r_iconst 2 _ dX1_make_1 rfl ki_3 ?_
  obtain ⟨hs, X⟩ := r_cv X
  obtain ⟨_, h101, hc, X⟩ := bnd_ok X
  refine r_callV1v 5 dX1_make_2 rfl lmX1_50 hs (mtX7_start G hG hc) rfl ⟨(Nat.zero_le _), (Nat.zero_le _)⟩ ?_
  refine r_ald0 6 dX1_make_5 rfl ?_
  refine r_gR 9 dX1_make_6 rfl lfX1_14 rfl X (fun b102 X => ?_)
  refine r_ald2 10 dX1_make_9 rfl ?_
  obtain ⟨hs, X⟩ := r_cv X
  obtain ⟨_, h103, hc, X⟩ := bnd_ok X
  refine r_callV1v 13 dX1_make_10 rfl lmX1_56 hs (mtX6_startWith G hG hc) rfl ⟨(Nat.zero_le _), (Nat.zero_le _)⟩ ?_
  refine r_ald0 14 dX1_make_13 rfl ?_
  refine r_gR 17 dX1_make_14 rfl lfX1_20 rfl X (fun b104 X => ?_)
  refine r_ald3 18 dX1_make_17 rfl ?_
  obtain ⟨hs, X⟩ := r_cv X
  obtain ⟨_, h105, hc, X⟩ := bnd_ok X
  refine r_callV1v 21 dX1_make_18 rfl lmX1_56 hs (mtX6_startWith G hG hc) rfl ⟨(Nat.zero_le _), (Nat.zero_le _)⟩ ?_
  refine r_ald0 22 dX1_make_21 rfl ?_
  refine r_iconst 23 _ dX1_make_22 rfl ki_0 ?_
  refine r_pI 26 dX1_make_23 rfl lpX1_43 rfl X (fun h106 X => ?_)
  refine r_iconst 27 _ dX1_make_26 rfl ki_1 ?_
  refine r_ist4 29 dX1_make_27 rfl rfl ?_
  refine r_iconst 30 _ dX1_make_29 rfl ki_0 ?_
  refine r_ist5 32 dX1_make_30 rfl rfl ?_
  exact r_cut (wX1_make_32L G hG R 1000 _ _ _ _ _ X) ⟨rfl, ⟨rfl, ⟨rfl, ⟨rfl, trivial⟩⟩⟩⟩
theorem mtX1_make (G : GG) (hG : GT G) {a0 : Nat} {a1 : Nat} {a2 : Nat} {a3 : Nat} {h h' : AH} {v : Unit} (hc : fX1_make a0 a1 a2 a3 h = some (v, h')) : AMet G yX1_make cX1_make 6 none 5 125 0 0 [.ref (gB G + a0), .ref (gB G + a1), .ref (gB G + a2), .ref (gB G + a3)] h none h' :=
  amet_of false [some (.ref (gB G + a0)), some (.ref (gB G + a1)), some (.ref (gB G + a2)), some (.ref (gB G + a3)), none, none] (by decide +kernel) (by decide) (Nat.le_of_ble_eq_true rfl) rfl (Nat.le_of_ble_eq_true rfl) (wX1_make G hG (v, h') _ _ _ _ h hc)
abbrev eX1_startWithAct (G : GG) (R : Unit × AH) : EE := eM G 4 none false 0 0 0 0 none R.2
theorem wX1_startWithAct_2 (G : GG) (hG : GT G) (R : Unit × AH) {K2 : Nat → Int32 → Int32 → AH → Fn Unit} (hK2 : ∀ (l0 : Nat) (l1 : Int32) (l2 : Int32) (h : AH), K2 l0 l1 l2 h = some R → AW (eX1_startWithAct G R) RX1 cX1_startWithAct 2 [some (.ref (gB G + l0)), some (.int l1), some (.int l2), none] [] h 0 0) (l0 : Nat) (l1 : Int32) (l2 : Int32) (h : AH) (X : fX1_startWithAct_2 K2 l0 l1 l2 h = some R) : AW (eX1_startWithAct G R) RX1 cX1_startWithAct 2 [some (.ref (gB G + l0)), some (.int l1), some (.int l2), none] [] h 0 0 := by
  unfold fX1_startWithAct_2 at X
  refine r_ild2 3 dX1_startWithAct_2 rfl ?_
  refine r_bipush 5 _ dX1_startWithAct_3 rfl kb_8 ?_
  refine r_icmp_ge 49 8 dX1_startWithAct_5 (by decide) rfl X (fun _ X => ?_) (fun _ X => ?_)
  · exact r_retV dX1_startWithAct_49 (Nat.zero_le _) (Nat.zero_le _) X
  · refine r_ild1 9 dX1_startWithAct_8 rfl ?_
    refine r_bipush 11 _ dX1_startWithAct_9 rfl kb_8 ?_
    refine r_imul 12 dX1_startWithAct_11 rfl ?_
    refine r_ild2 13 dX1_startWithAct_12 rfl ?_
    refine r_iadd 14 dX1_startWithAct_13 rfl ?_
    refine r_ist3w 15 dX1_startWithAct_14 rfl rfl X (fun x101 X => ?_)
    refine r_ald0 16 dX1_startWithAct_15 rfl ?_
    refine r_gR 19 dX1_startWithAct_16 rfl lfX1_23 rfl X (fun b102 X => ?_)
    refine r_ild2 20 dX1_startWithAct_19 rfl ?_
    refine r_ild3 21 dX1_startWithAct_20 rfl ?_
    refine r_if_lt 41 24 dX1_startWithAct_21 (by decide) rfl X (fun _ X => ?_) (fun _ X => ?_)
    · refine r_lconst 42 _ dX1_startWithAct_41 rfl kl_0 ?_
      refine r_zL 43 1 dX1_startWithAct_42 rfl rfl X (fun h103 X => ?_)
      refine r_iinc2w 46 dX1_startWithAct_43 rfl rfl ki_1 X (fun x104 X => ?_)
      refine r_goto 2 dX1_startWithAct_46 (by decide) ?_
      exact r_cut (hK2 _ _ _ _ X) ⟨rfl, ⟨rfl, ⟨rfl, trivial⟩⟩⟩
    · refine r_ild3 25 dX1_startWithAct_24 rfl ?_
      refine r_gets 28 dX1_startWithAct_25 rfl hG.choose_spec.1 lstX1_46 ?_
      refine r_tN 29 dX1_startWithAct_28 rfl hG.choose_spec.2 ?_
      refine r_icmp_ge 41 32 dX1_startWithAct_29 (by decide) rfl X (fun _ X => ?_) (fun _ X => ?_)
      · refine r_lconst 42 _ dX1_startWithAct_41 rfl kl_0 ?_
        refine r_zL 43 1 dX1_startWithAct_42 rfl rfl X (fun h105 X => ?_)
        refine r_iinc2w 46 dX1_startWithAct_43 rfl rfl ki_1 X (fun x106 X => ?_)
        refine r_goto 2 dX1_startWithAct_46 (by decide) ?_
        exact r_cut (hK2 _ _ _ _ X) ⟨rfl, ⟨rfl, ⟨rfl, trivial⟩⟩⟩
      · refine r_gets 35 dX1_startWithAct_32 rfl hG.choose_spec.1 lstX1_46 ?_
        refine r_ild3 36 dX1_startWithAct_35 rfl ?_
        refine r_tI 37 dX1_startWithAct_36 rfl hG.choose_spec.2 X (fun x107 X => ?_)
        refine r_i2l 38 dX1_startWithAct_37 rfl ?_
        refine r_goto 42 dX1_startWithAct_38 (by decide) ?_
        refine r_zL 43 1 dX1_startWithAct_42 rfl rfl X (fun h108 X => ?_)
        refine r_iinc2w 46 dX1_startWithAct_43 rfl rfl ki_1 X (fun x109 X => ?_)
        refine r_goto 2 dX1_startWithAct_46 (by decide) ?_
        exact r_cut (hK2 _ _ _ _ X) ⟨rfl, ⟨rfl, ⟨rfl, trivial⟩⟩⟩
theorem wX1_startWithAct_2L (G : GG) (hG : GT G) (R : Unit × AH) : ∀ (m : Nat) (l0 : Nat) (l1 : Int32) (l2 : Int32) (h : AH), fX1_startWithAct_2L m l0 l1 l2 h = some R → AW (eX1_startWithAct G R) RX1 cX1_startWithAct 2 [some (.ref (gB G + l0)), some (.int l1), some (.int l2), none] [] h 0 0 := by
  intro m
  induction m with
  | zero => intro l0 l1 l2 h X; exact nomatch (show (none : Fn Unit) = some R from X)
  | succ m ih => intro l0 l1 l2 h X; exact wX1_startWithAct_2 G hG R ih l0 l1 l2 h X
theorem wX1_startWithAct (G : GG) (hG : GT G) (R : Unit × AH) (a0 : Nat) (x0 : Int32) (h : AH) (X : fX1_startWithAct a0 x0 h = some R) : AW (eX1_startWithAct G R) RX1 cX1_startWithAct 0 [some (.ref (gB G + a0)), some (.int x0), none, none] [] h 0 0 := by
  unfold fX1_startWithAct at X
  refine r_iconst 1 _ dX1_startWithAct_0 rfl ki_0 ?_
  refine r_ist2 2 dX1_startWithAct_1 rfl rfl ?_
  exact r_cut (wX1_startWithAct_2L G hG R 1000 _ _ _ _ X) ⟨rfl, ⟨rfl, ⟨rfl, trivial⟩⟩⟩
theorem mtX1_startWithAct (G : GG) (hG : GT G) {a0 : Nat} {x0 : Int32} {h h' : AH} {v : Unit} (hc : fX1_startWithAct a0 x0 h = some (v, h')) : AMet G yX1_startWithAct cX1_startWithAct 4 none 0 0 0 0 [.ref (gB G + a0), .int x0] h none h' :=
  amet_of false [some (.ref (gB G + a0)), some (.int x0), none, none] (by decide +kernel) (by decide) (Nat.le_of_ble_eq_true rfl) rfl (Nat.le_of_ble_eq_true rfl) (wX1_startWithAct G hG (v, h') _ _ h hc)
abbrev eX3_workOver (G : GG) (R : Unit × AH) : EE := eM G 3 none false 3 67 0 0 none R.2
theorem wX3_workOver (G : GG) (hG : GT G) (R : Unit × AH) (a0 : Nat) (a1 : Nat) (a2 : Nat) (h : AH) (X : fX3_workOver a0 a1 a2 h = some R) : AW (eX3_workOver G R) RX3 cX3_workOver 0 [some (.ref (gB G + a0)), some (.ref (gB G + a1)), some (.ref (gB G + a2))] [] h 0 0 := by
  unfold fX3_workOver at X
  refine r_ald2 1 dX3_workOver_0 rfl ?_
  refine r_gI 4 dX3_workOver_1 rfl lfX3_24 rfl X (fun x101 X => ?_)
  refine r_if_ne 53 7 dX3_workOver_4 (by decide) rfl X (fun _ X => ?_) (fun _ X => ?_)
  · refine r_ald0 54 dX3_workOver_53 rfl ?_
    refine r_ald1 55 dX3_workOver_54 rfl ?_
    refine r_gL 58 dX3_workOver_55 rfl lfX3_31 rfl X (fun x102 X => ?_)
    refine r_ald2 59 dX3_workOver_58 rfl ?_
    refine r_gL 62 dX3_workOver_59 rfl lfX3_31 rfl X (fun x103 X => ?_)
    obtain ⟨x105, h104, hc, X⟩ := bnd_ok X
    refine r_callS2 65 dX3_workOver_62 rfl lmX3_33 (mtX8_times G hG hc) rfl ⟨(Nat.zero_le _), (Nat.zero_le _)⟩ ?_
    refine r_ald1 66 dX3_workOver_65 rfl ?_
    refine r_gL 69 dX3_workOver_66 rfl lfX3_40 rfl X (fun x106 X => ?_)
    refine r_ald2 70 dX3_workOver_69 rfl ?_
    refine r_gL 73 dX3_workOver_70 rfl lfX3_40 rfl X (fun x107 X => ?_)
    obtain ⟨x109, h108, hc, X⟩ := bnd_ok X
    refine r_callS2 76 dX3_workOver_73 rfl lmX3_33 (mtX8_times G hG hc) rfl ⟨(Nat.zero_le _), (Nat.zero_le _)⟩ ?_
    refine r_ald0 77 dX3_workOver_76 rfl ?_
    refine r_gL 80 dX3_workOver_77 rfl lfX3_18 rfl X (fun x110 X => ?_)
    obtain ⟨x112, h111, hc, X⟩ := bnd_ok X
    refine r_callS2 83 dX3_workOver_80 rfl lmX3_33 (mtX8_times G hG hc) rfl ⟨(Nat.zero_le _), (Nat.zero_le _)⟩ ?_
    obtain ⟨x114, h113, hc, X⟩ := bnd_ok X
    refine r_callS2 86 dX3_workOver_83 rfl lmX3_41 (mtX8_minus G hG hc) rfl ⟨(Nat.zero_le _), (Nat.zero_le _)⟩ ?_
    refine r_ald2 87 dX3_workOver_86 rfl ?_
    refine r_gL 90 dX3_workOver_87 rfl lfX3_32 rfl X (fun x115 X => ?_)
    obtain ⟨x117, h116, hc, X⟩ := bnd_ok X
    refine r_callS2 93 dX3_workOver_90 rfl lmX3_33 (mtX8_times G hG hc) rfl ⟨(Nat.zero_le _), (Nat.zero_le _)⟩ ?_
    refine r_pL 96 dX3_workOver_93 rfl lpX3_9 rfl X (fun h118 X => ?_)
    refine r_ald0 97 dX3_workOver_96 rfl ?_
    refine r_ald1 98 dX3_workOver_97 rfl ?_
    refine r_gL 101 dX3_workOver_98 rfl lfX3_40 rfl X (fun x119 X => ?_)
    refine r_ald2 102 dX3_workOver_101 rfl ?_
    refine r_gL 105 dX3_workOver_102 rfl lfX3_31 rfl X (fun x120 X => ?_)
    obtain ⟨x122, h121, hc, X⟩ := bnd_ok X
    refine r_callS2 108 dX3_workOver_105 rfl lmX3_33 (mtX8_times G hG hc) rfl ⟨(Nat.zero_le _), (Nat.zero_le _)⟩ ?_
    refine r_ald1 109 dX3_workOver_108 rfl ?_
    refine r_gL 112 dX3_workOver_109 rfl lfX3_31 rfl X (fun x123 X => ?_)
    refine r_ald2 113 dX3_workOver_112 rfl ?_
    refine r_gL 116 dX3_workOver_113 rfl lfX3_40 rfl X (fun x124 X => ?_)
    obtain ⟨x126, h125, hc, X⟩ := bnd_ok X
    refine r_callS2 119 dX3_workOver_116 rfl lmX3_33 (mtX8_times G hG hc) rfl ⟨(Nat.zero_le _), (Nat.zero_le _)⟩ ?_
    obtain ⟨x128, h127, hc, X⟩ := bnd_ok X
    refine r_callS2 122 dX3_workOver_119 rfl lmX3_41 (mtX8_minus G hG hc) rfl ⟨(Nat.zero_le _), (Nat.zero_le _)⟩ ?_
    refine r_ald2 123 dX3_workOver_122 rfl ?_
    refine r_gL 126 dX3_workOver_123 rfl lfX3_32 rfl X (fun x129 X => ?_)
    obtain ⟨x131, h130, hc, X⟩ := bnd_ok X
    refine r_callS2 129 dX3_workOver_126 rfl lmX3_33 (mtX8_times G hG hc) rfl ⟨(Nat.zero_le _), (Nat.zero_le _)⟩ ?_
    refine r_pL 132 dX3_workOver_129 rfl lpX3_15 rfl X (fun h132 X => ?_)
    refine r_ald0 133 dX3_workOver_132 rfl ?_
    refine r_ald2 134 dX3_workOver_133 rfl ?_
    refine r_gL 137 dX3_workOver_134 rfl lfX3_31 rfl X (fun x133 X => ?_)
    refine r_ald2 138 dX3_workOver_137 rfl ?_
    refine r_gL 141 dX3_workOver_138 rfl lfX3_31 rfl X (fun x134 X => ?_)
    obtain ⟨x136, h135, hc, X⟩ := bnd_ok X
    refine r_callS2 144 dX3_workOver_141 rfl lmX3_33 (mtX8_times G hG hc) rfl ⟨(Nat.zero_le _), (Nat.zero_le _)⟩ ?_
    refine r_ald2 145 dX3_workOver_144 rfl ?_
    refine r_gL 148 dX3_workOver_145 rfl lfX3_40 rfl X (fun x137 X => ?_)
    refine r_ald2 149 dX3_workOver_148 rfl ?_
    refine r_gL 152 dX3_workOver_149 rfl lfX3_40 rfl X (fun x138 X => ?_)
    obtain ⟨x140, h139, hc, X⟩ := bnd_ok X
    refine r_callS2 155 dX3_workOver_152 rfl lmX3_33 (mtX8_times G hG hc) rfl ⟨(Nat.zero_le _), (Nat.zero_le _)⟩ ?_
    refine r_ald0 156 dX3_workOver_155 rfl ?_
    refine r_gL 159 dX3_workOver_156 rfl lfX3_18 rfl X (fun x141 X => ?_)
    obtain ⟨x143, h142, hc, X⟩ := bnd_ok X
    refine r_callS2 162 dX3_workOver_159 rfl lmX3_33 (mtX8_times G hG hc) rfl ⟨(Nat.zero_le _), (Nat.zero_le _)⟩ ?_
    obtain ⟨x145, h144, hc, X⟩ := bnd_ok X
    refine r_callS2 165 dX3_workOver_162 rfl lmX3_41 (mtX8_minus G hG hc) rfl ⟨(Nat.zero_le _), (Nat.zero_le _)⟩ ?_
    refine r_ald1 166 dX3_workOver_165 rfl ?_
    refine r_gL 169 dX3_workOver_166 rfl lfX3_32 rfl X (fun x146 X => ?_)
    obtain ⟨x148, h147, hc, X⟩ := bnd_ok X
    refine r_callS2 172 dX3_workOver_169 rfl lmX3_33 (mtX8_times G hG hc) rfl ⟨(Nat.zero_le _), (Nat.zero_le _)⟩ ?_
    refine r_pL 175 dX3_workOver_172 rfl lpX3_21 rfl X (fun h149 X => ?_)
    exact r_retV dX3_workOver_175 (Nat.zero_le _) (Nat.zero_le _) X
  · refine r_ald0 8 dX3_workOver_7 rfl ?_
    refine r_ald1 9 dX3_workOver_8 rfl ?_
    refine r_gL 12 dX3_workOver_9 rfl lfX3_31 rfl X (fun x150 X => ?_)
    refine r_ald2 13 dX3_workOver_12 rfl ?_
    refine r_gL 16 dX3_workOver_13 rfl lfX3_32 rfl X (fun x151 X => ?_)
    obtain ⟨x153, h152, hc, X⟩ := bnd_ok X
    refine r_callS2 19 dX3_workOver_16 rfl lmX3_33 (mtX8_times G hG hc) rfl ⟨(Nat.zero_le _), (Nat.zero_le _)⟩ ?_
    refine r_pL 22 dX3_workOver_19 rfl lpX3_9 rfl X (fun h154 X => ?_)
    refine r_ald0 23 dX3_workOver_22 rfl ?_
    refine r_ald1 24 dX3_workOver_23 rfl ?_
    refine r_gL 27 dX3_workOver_24 rfl lfX3_40 rfl X (fun x155 X => ?_)
    refine r_ald2 28 dX3_workOver_27 rfl ?_
    refine r_gL 31 dX3_workOver_28 rfl lfX3_32 rfl X (fun x156 X => ?_)
    obtain ⟨x158, h157, hc, X⟩ := bnd_ok X
    refine r_callS2 34 dX3_workOver_31 rfl lmX3_33 (mtX8_times G hG hc) rfl ⟨(Nat.zero_le _), (Nat.zero_le _)⟩ ?_
    refine r_pL 37 dX3_workOver_34 rfl lpX3_15 rfl X (fun h159 X => ?_)
    refine r_ald0 38 dX3_workOver_37 rfl ?_
    refine r_ald1 39 dX3_workOver_38 rfl ?_
    refine r_gL 42 dX3_workOver_39 rfl lfX3_32 rfl X (fun x160 X => ?_)
    refine r_ald2 43 dX3_workOver_42 rfl ?_
    refine r_gL 46 dX3_workOver_43 rfl lfX3_31 rfl X (fun x161 X => ?_)
    obtain ⟨x163, h162, hc, X⟩ := bnd_ok X
    refine r_callS2 49 dX3_workOver_46 rfl lmX3_33 (mtX8_times G hG hc) rfl ⟨(Nat.zero_le _), (Nat.zero_le _)⟩ ?_
    refine r_pL 52 dX3_workOver_49 rfl lpX3_21 rfl X (fun h164 X => ?_)
    exact r_retV dX3_workOver_52 (Nat.zero_le _) (Nat.zero_le _) X
theorem mtX3_workOver (G : GG) (hG : GT G) {a0 : Nat} {a1 : Nat} {a2 : Nat} {h h' : AH} {v : Unit} (hc : fX3_workOver a0 a1 a2 h = some (v, h')) : AMet G yX3_workOver cX3_workOver 3 none 3 67 0 0 [.ref (gB G + a0), .ref (gB G + a1), .ref (gB G + a2)] h none h' :=
  amet_of false [some (.ref (gB G + a0)), some (.ref (gB G + a1)), some (.ref (gB G + a2))] (by decide +kernel) (by decide) (Nat.le_of_ble_eq_true rfl) rfl (Nat.le_of_ble_eq_true rfl) (wX3_workOver G hG (v, h') _ _ _ h hc)
abbrev eX3_work (G : GG) (R : Unit × AH) : EE := eM G 4 none false 4 89 0 0 none R.2
theorem wX3_work_20 (G : GG) (hG : GT G) (R : Unit × AH) (l0 : Nat) (l1 : Int32) (l2 : Nat) (l3 : Nat) (s0 : Nat) (s1 : Int64) (h : AH) (X : fX3_work_20 l0 l1 l2 l3 s0 s1 h = some R) : AW (eX3_work G R) RX3 cX3_work 20 [some (.ref (gB G + l0)), some (.int l1), some (.ref (gB G + l2)), some (.ref (gB G + l3))] [.long s1, .ref (gB G + s0)] h 0 0 := by
  unfold fX3_work_20 at X
  refine r_pL 23 dX3_work_20 rfl lpX3_18 rfl X (fun h101 X => ?_)
  refine r_ild1 24 dX3_work_23 rfl ?_
  refine r_case 52 0 0 28 dX3_work_24 (by decide) (by decide) (by decide) (by decide) X (fun _ X => ?_) (fun n0 X => ?_)
  · refine r_ald0 53 dX3_work_52 rfl ?_
    refine r_ald2 54 dX3_work_53 rfl ?_
    refine r_gL 57 dX3_work_54 rfl lfX3_31 rfl X (fun x160 X => ?_)
    refine r_ald3 58 dX3_work_57 rfl ?_
    refine r_gL 61 dX3_work_58 rfl lfX3_32 rfl X (fun x161 X => ?_)
    obtain ⟨x163, h162, hc, X⟩ := bnd_ok X
    refine r_callS2 64 dX3_work_61 rfl lmX3_33 (mtX8_times G hG hc) rfl ⟨(Nat.zero_le _), (Nat.zero_le _)⟩ ?_
    refine r_ald3 65 dX3_work_64 rfl ?_
    refine r_gL 68 dX3_work_65 rfl lfX3_31 rfl X (fun x164 X => ?_)
    refine r_ald2 69 dX3_work_68 rfl ?_
    refine r_gL 72 dX3_work_69 rfl lfX3_32 rfl X (fun x165 X => ?_)
    obtain ⟨x167, h166, hc, X⟩ := bnd_ok X
    refine r_callS2 75 dX3_work_72 rfl lmX3_33 (mtX8_times G hG hc) rfl ⟨(Nat.zero_le _), (Nat.zero_le _)⟩ ?_
    obtain ⟨x169, h168, hc, X⟩ := bnd_ok X
    refine r_callS2 78 dX3_work_75 rfl lmX3_37 (mtX8_plus G hG hc) rfl ⟨(Nat.zero_le _), (Nat.zero_le _)⟩ ?_
    refine r_pL 81 dX3_work_78 rfl lpX3_9 rfl X (fun h170 X => ?_)
    refine r_ald0 82 dX3_work_81 rfl ?_
    refine r_ald2 83 dX3_work_82 rfl ?_
    refine r_gL 86 dX3_work_83 rfl lfX3_40 rfl X (fun x171 X => ?_)
    refine r_ald3 87 dX3_work_86 rfl ?_
    refine r_gL 90 dX3_work_87 rfl lfX3_32 rfl X (fun x172 X => ?_)
    obtain ⟨x174, h173, hc, X⟩ := bnd_ok X
    refine r_callS2 93 dX3_work_90 rfl lmX3_33 (mtX8_times G hG hc) rfl ⟨(Nat.zero_le _), (Nat.zero_le _)⟩ ?_
    refine r_ald3 94 dX3_work_93 rfl ?_
    refine r_gL 97 dX3_work_94 rfl lfX3_40 rfl X (fun x175 X => ?_)
    refine r_ald2 98 dX3_work_97 rfl ?_
    refine r_gL 101 dX3_work_98 rfl lfX3_32 rfl X (fun x176 X => ?_)
    obtain ⟨x178, h177, hc, X⟩ := bnd_ok X
    refine r_callS2 104 dX3_work_101 rfl lmX3_33 (mtX8_times G hG hc) rfl ⟨(Nat.zero_le _), (Nat.zero_le _)⟩ ?_
    obtain ⟨x180, h179, hc, X⟩ := bnd_ok X
    refine r_callS2 107 dX3_work_104 rfl lmX3_37 (mtX8_plus G hG hc) rfl ⟨(Nat.zero_le _), (Nat.zero_le _)⟩ ?_
    refine r_pL 110 dX3_work_107 rfl lpX3_15 rfl X (fun h181 X => ?_)
    refine r_ald0 111 dX3_work_110 rfl ?_
    refine r_ald2 112 dX3_work_111 rfl ?_
    refine r_gL 115 dX3_work_112 rfl lfX3_32 rfl X (fun x182 X => ?_)
    refine r_ald3 116 dX3_work_115 rfl ?_
    refine r_gL 119 dX3_work_116 rfl lfX3_32 rfl X (fun x183 X => ?_)
    obtain ⟨x185, h184, hc, X⟩ := bnd_ok X
    refine r_callS2 122 dX3_work_119 rfl lmX3_33 (mtX8_times G hG hc) rfl ⟨(Nat.zero_le _), (Nat.zero_le _)⟩ ?_
    refine r_pL 125 dX3_work_122 rfl lpX3_21 rfl X (fun h186 X => ?_)
    refine r_goto 293 dX3_work_125 (by decide) ?_
    exact r_retV dX3_work_293 (Nat.zero_le _) (Nat.zero_le _) X
  · refine r_case 128 1 1 104 dX3_work_24 (by decide) (by decide) (by decide) (by decide) X (fun _ X => ?_) (fun n1 X => ?_)
    · refine r_ald0 129 dX3_work_128 rfl ?_
      refine r_ald2 130 dX3_work_129 rfl ?_
      refine r_gL 133 dX3_work_130 rfl lfX3_31 rfl X (fun x133 X => ?_)
      refine r_ald3 134 dX3_work_133 rfl ?_
      refine r_gL 137 dX3_work_134 rfl lfX3_32 rfl X (fun x134 X => ?_)
      obtain ⟨x136, h135, hc, X⟩ := bnd_ok X
      refine r_callS2 140 dX3_work_137 rfl lmX3_33 (mtX8_times G hG hc) rfl ⟨(Nat.zero_le _), (Nat.zero_le _)⟩ ?_
      refine r_ald3 141 dX3_work_140 rfl ?_
      refine r_gL 144 dX3_work_141 rfl lfX3_31 rfl X (fun x137 X => ?_)
      refine r_ald2 145 dX3_work_144 rfl ?_
      refine r_gL 148 dX3_work_145 rfl lfX3_32 rfl X (fun x138 X => ?_)
      obtain ⟨x140, h139, hc, X⟩ := bnd_ok X
      refine r_callS2 151 dX3_work_148 rfl lmX3_33 (mtX8_times G hG hc) rfl ⟨(Nat.zero_le _), (Nat.zero_le _)⟩ ?_
      obtain ⟨x142, h141, hc, X⟩ := bnd_ok X
      refine r_callS2 154 dX3_work_151 rfl lmX3_41 (mtX8_minus G hG hc) rfl ⟨(Nat.zero_le _), (Nat.zero_le _)⟩ ?_
      refine r_pL 157 dX3_work_154 rfl lpX3_9 rfl X (fun h143 X => ?_)
      refine r_ald0 158 dX3_work_157 rfl ?_
      refine r_ald2 159 dX3_work_158 rfl ?_
      refine r_gL 162 dX3_work_159 rfl lfX3_40 rfl X (fun x144 X => ?_)
      refine r_ald3 163 dX3_work_162 rfl ?_
      refine r_gL 166 dX3_work_163 rfl lfX3_32 rfl X (fun x145 X => ?_)
      obtain ⟨x147, h146, hc, X⟩ := bnd_ok X
      refine r_callS2 169 dX3_work_166 rfl lmX3_33 (mtX8_times G hG hc) rfl ⟨(Nat.zero_le _), (Nat.zero_le _)⟩ ?_
      refine r_ald3 170 dX3_work_169 rfl ?_
      refine r_gL 173 dX3_work_170 rfl lfX3_40 rfl X (fun x148 X => ?_)
      refine r_ald2 174 dX3_work_173 rfl ?_
      refine r_gL 177 dX3_work_174 rfl lfX3_32 rfl X (fun x149 X => ?_)
      obtain ⟨x151, h150, hc, X⟩ := bnd_ok X
      refine r_callS2 180 dX3_work_177 rfl lmX3_33 (mtX8_times G hG hc) rfl ⟨(Nat.zero_le _), (Nat.zero_le _)⟩ ?_
      obtain ⟨x153, h152, hc, X⟩ := bnd_ok X
      refine r_callS2 183 dX3_work_180 rfl lmX3_41 (mtX8_minus G hG hc) rfl ⟨(Nat.zero_le _), (Nat.zero_le _)⟩ ?_
      refine r_pL 186 dX3_work_183 rfl lpX3_15 rfl X (fun h154 X => ?_)
      refine r_ald0 187 dX3_work_186 rfl ?_
      refine r_ald2 188 dX3_work_187 rfl ?_
      refine r_gL 191 dX3_work_188 rfl lfX3_32 rfl X (fun x155 X => ?_)
      refine r_ald3 192 dX3_work_191 rfl ?_
      refine r_gL 195 dX3_work_192 rfl lfX3_32 rfl X (fun x156 X => ?_)
      obtain ⟨x158, h157, hc, X⟩ := bnd_ok X
      refine r_callS2 198 dX3_work_195 rfl lmX3_33 (mtX8_times G hG hc) rfl ⟨(Nat.zero_le _), (Nat.zero_le _)⟩ ?_
      refine r_pL 201 dX3_work_198 rfl lpX3_21 rfl X (fun h159 X => ?_)
      refine r_goto 293 dX3_work_201 (by decide) ?_
      exact r_retV dX3_work_293 (Nat.zero_le _) (Nat.zero_le _) X
    · refine r_case 204 2 2 180 dX3_work_24 (by decide) (by decide) (by decide) (by decide) X (fun _ X => ?_) (fun n2 X => ?_)
      · refine r_ald0 205 dX3_work_204 rfl ?_
        refine r_ald2 206 dX3_work_205 rfl ?_
        refine r_gL 209 dX3_work_206 rfl lfX3_31 rfl X (fun x103 X => ?_)
        refine r_ald3 210 dX3_work_209 rfl ?_
        refine r_gL 213 dX3_work_210 rfl lfX3_31 rfl X (fun x104 X => ?_)
        obtain ⟨x106, h105, hc, X⟩ := bnd_ok X
        refine r_callS2 216 dX3_work_213 rfl lmX3_33 (mtX8_times G hG hc) rfl ⟨(Nat.zero_le _), (Nat.zero_le _)⟩ ?_
        refine r_ald2 217 dX3_work_216 rfl ?_
        refine r_gL 220 dX3_work_217 rfl lfX3_40 rfl X (fun x107 X => ?_)
        refine r_ald3 221 dX3_work_220 rfl ?_
        refine r_gL 224 dX3_work_221 rfl lfX3_40 rfl X (fun x108 X => ?_)
        obtain ⟨x110, h109, hc, X⟩ := bnd_ok X
        refine r_callS2 227 dX3_work_224 rfl lmX3_33 (mtX8_times G hG hc) rfl ⟨(Nat.zero_le _), (Nat.zero_le _)⟩ ?_
        refine r_ald0 228 dX3_work_227 rfl ?_
        refine r_gL 231 dX3_work_228 rfl lfX3_18 rfl X (fun x111 X => ?_)
        obtain ⟨x113, h112, hc, X⟩ := bnd_ok X
        refine r_callS2 234 dX3_work_231 rfl lmX3_33 (mtX8_times G hG hc) rfl ⟨(Nat.zero_le _), (Nat.zero_le _)⟩ ?_
        obtain ⟨x115, h114, hc, X⟩ := bnd_ok X
        refine r_callS2 237 dX3_work_234 rfl lmX3_37 (mtX8_plus G hG hc) rfl ⟨(Nat.zero_le _), (Nat.zero_le _)⟩ ?_
        refine r_pL 240 dX3_work_237 rfl lpX3_9 rfl X (fun h116 X => ?_)
        refine r_ald0 241 dX3_work_240 rfl ?_
        refine r_ald2 242 dX3_work_241 rfl ?_
        refine r_gL 245 dX3_work_242 rfl lfX3_31 rfl X (fun x117 X => ?_)
        refine r_ald3 246 dX3_work_245 rfl ?_
        refine r_gL 249 dX3_work_246 rfl lfX3_40 rfl X (fun x118 X => ?_)
        obtain ⟨x120, h119, hc, X⟩ := bnd_ok X
        refine r_callS2 252 dX3_work_249 rfl lmX3_33 (mtX8_times G hG hc) rfl ⟨(Nat.zero_le _), (Nat.zero_le _)⟩ ?_
        refine r_ald3 253 dX3_work_252 rfl ?_
        refine r_gL 256 dX3_work_253 rfl lfX3_31 rfl X (fun x121 X => ?_)
        refine r_ald2 257 dX3_work_256 rfl ?_
        refine r_gL 260 dX3_work_257 rfl lfX3_40 rfl X (fun x122 X => ?_)
        obtain ⟨x124, h123, hc, X⟩ := bnd_ok X
        refine r_callS2 263 dX3_work_260 rfl lmX3_33 (mtX8_times G hG hc) rfl ⟨(Nat.zero_le _), (Nat.zero_le _)⟩ ?_
        obtain ⟨x126, h125, hc, X⟩ := bnd_ok X
        refine r_callS2 266 dX3_work_263 rfl lmX3_37 (mtX8_plus G hG hc) rfl ⟨(Nat.zero_le _), (Nat.zero_le _)⟩ ?_
        refine r_pL 269 dX3_work_266 rfl lpX3_15 rfl X (fun h127 X => ?_)
        refine r_ald0 270 dX3_work_269 rfl ?_
        refine r_ald2 271 dX3_work_270 rfl ?_
        refine r_gL 274 dX3_work_271 rfl lfX3_32 rfl X (fun x128 X => ?_)
        refine r_ald3 275 dX3_work_274 rfl ?_
        refine r_gL 278 dX3_work_275 rfl lfX3_32 rfl X (fun x129 X => ?_)
        obtain ⟨x131, h130, hc, X⟩ := bnd_ok X
        refine r_callS2 281 dX3_work_278 rfl lmX3_33 (mtX8_times G hG hc) rfl ⟨(Nat.zero_le _), (Nat.zero_le _)⟩ ?_
        refine r_pL 284 dX3_work_281 rfl lpX3_21 rfl X (fun h132 X => ?_)
        refine r_goto 293 dX3_work_284 (by decide) ?_
        exact r_retV dX3_work_293 (Nat.zero_le _) (Nat.zero_le _) X
      · refine r_default 287 dX3_work_24 (by omega) (by decide) ?_
        refine r_ald0 288 dX3_work_287 rfl ?_
        refine r_ald2 289 dX3_work_288 rfl ?_
        refine r_ald3 290 dX3_work_289 rfl ?_
        obtain ⟨hs, X⟩ := r_cv X
        obtain ⟨_, h102, hc, X⟩ := bnd_ok X
        refine r_callV2v 293 dX3_work_290 rfl lmX3_44 hs (mtX3_workOver G hG hc) rfl ⟨(Nat.zero_le _), (Nat.zero_le _)⟩ ?_
        exact r_retV dX3_work_293 (Nat.zero_le _) (Nat.zero_le _) X
theorem wX3_work (G : GG) (hG : GT G) (R : Unit × AH) (a0 : Nat) (x0 : Int32) (a2 : Nat) (a3 : Nat) (h : AH) (X : fX3_work a0 x0 a2 a3 h = some R) : AW (eX3_work G R) RX3 cX3_work 0 [some (.ref (gB G + a0)), some (.int x0), some (.ref (gB G + a2)), some (.ref (gB G + a3))] [] h 0 0 := by
  unfold fX3_work at X
  refine r_ald0 1 dX3_work_0 rfl ?_
  refine r_ald2 2 dX3_work_1 rfl ?_
  refine r_gI 5 dX3_work_2 rfl lfX3_24 rfl X (fun x101 X => ?_)
  refine r_iconst 6 _ dX3_work_5 rfl ki_1 ?_
  refine r_icmp_ne 16 9 dX3_work_6 (by decide) rfl X (fun _ X => ?_) (fun _ X => ?_)
  · refine r_ald3 17 dX3_work_16 rfl ?_
    refine r_gL 20 dX3_work_17 rfl lfX3_30 rfl X (fun x102 X => ?_)
    exact r_cut (wX3_work_20 G hG R _ _ _ _ _ _ _ X) ⟨rfl, ⟨rfl, ⟨rfl, ⟨rfl, trivial⟩⟩⟩⟩
  · refine r_ald2 10 dX3_work_9 rfl ?_
    refine r_gL 13 dX3_work_10 rfl lfX3_30 rfl X (fun x103 X => ?_)
    refine r_goto 20 dX3_work_13 (by decide) ?_
    exact r_cut (wX3_work_20 G hG R _ _ _ _ _ _ _ X) ⟨rfl, ⟨rfl, ⟨rfl, ⟨rfl, trivial⟩⟩⟩⟩
theorem mtX3_work (G : GG) (hG : GT G) {a0 : Nat} {x0 : Int32} {a2 : Nat} {a3 : Nat} {h h' : AH} {v : Unit} (hc : fX3_work a0 x0 a2 a3 h = some (v, h')) : AMet G yX3_work cX3_work 4 none 4 89 0 0 [.ref (gB G + a0), .int x0, .ref (gB G + a2), .ref (gB G + a3)] h none h' :=
  amet_of false [some (.ref (gB G + a0)), some (.int x0), some (.ref (gB G + a2)), some (.ref (gB G + a3))] (by decide +kernel) (by decide) (Nat.le_of_ble_eq_true rfl) rfl (Nat.le_of_ble_eq_true rfl) (wX3_work G hG (v, h') _ _ _ _ h hc)
abbrev eX7_isZeroRatio (G : GG) (R : Int32 × AH) : EE := eM G 1 (some .boolean) false 0 0 0 0 (some (.int R.1)) R.2
theorem wX7_isZeroRatio (G : GG) (hG : GT G) (R : Int32 × AH) (a0 : Nat) (h : AH) (X : fX7_isZeroRatio a0 h = some R) : AW (eX7_isZeroRatio G R) RX7 cX7_isZeroRatio 0 [some (.ref (gB G + a0))] [] h 0 0 := by
  unfold fX7_isZeroRatio at X
  refine r_ald0 1 dX7_isZeroRatio_0 rfl ?_
  refine r_gI 4 dX7_isZeroRatio_1 rfl lfX7_19 rfl X (fun x101 X => ?_)
  refine r_if_ne 20 7 dX7_isZeroRatio_4 (by decide) rfl X (fun _ X => ?_) (fun _ X => ?_)
  · refine r_iconst 21 _ dX7_isZeroRatio_20 rfl ki_0 ?_
    exact r_ret0 dX7_isZeroRatio_21 (Nat.zero_le _) (Nat.zero_le _) X
  · refine r_ald0 8 dX7_isZeroRatio_7 rfl ?_
    refine r_gL 11 dX7_isZeroRatio_8 rfl lfX7_32 rfl X (fun x102 X => ?_)
    refine r_lconst 12 _ dX7_isZeroRatio_11 rfl kl_0 ?_
    refine r_lif_ne 20 16 dX7_isZeroRatio_12 dX7_isZeroRatio_13 (by decide) rfl X (fun _ X => ?_) (fun _ X => ?_)
    · refine r_iconst 21 _ dX7_isZeroRatio_20 rfl ki_0 ?_
      exact r_ret0 dX7_isZeroRatio_21 (Nat.zero_le _) (Nat.zero_le _) X
    · refine r_iconst 17 _ dX7_isZeroRatio_16 rfl ki_1 ?_
      refine r_goto 21 dX7_isZeroRatio_17 (by decide) ?_
      exact r_ret1 dX7_isZeroRatio_21 (Nat.zero_le _) (Nat.zero_le _) X
theorem mtX7_isZeroRatio (G : GG) (hG : GT G) {a0 : Nat} {h h' : AH} {v : Int32} (hc : fX7_isZeroRatio a0 h = some (v, h')) : AMet G yX7_isZeroRatio cX7_isZeroRatio 1 (some .boolean) 0 0 0 0 [.ref (gB G + a0)] h (some (.int v)) h' :=
  amet_of false [some (.ref (gB G + a0))] (by decide +kernel) (by decide) (Nat.le_of_ble_eq_true rfl) rfl (Nat.le_of_ble_eq_true rfl) (wX7_isZeroRatio G hG (v, h') _ h hc)
abbrev eX8_find (G : GG) (R : (Option Nat) × AH) : EE := eM G 3 (some (.object "RatioStreams$Stream")) false 0 0 0 0 (some (rf G R.1)) R.2
theorem wX8_find (G : GG) (hG : GT G) (R : (Option Nat) × AH) (a0 : Nat) (x0 : Int32) (h : AH) (X : fX8_find a0 x0 h = some R) : AW (eX8_find G R) RX8 cX8_find 0 [some (.ref (gB G + a0)), some (.int x0), none] [] h 0 0 := by
  unfold fX8_find at X
  refine r_ild1 1 dX8_find_0 rfl ?_
  refine r_if_lt 10 4 dX8_find_1 (by decide) rfl X (fun _ X => ?_) (fun _ X => ?_)
  · refine r_null 11 dX8_find_10 rfl ?_
    exact r_retN dX8_find_11 (Nat.zero_le _) (Nat.zero_le _) X
  · refine r_ild1 5 dX8_find_4 rfl ?_
    refine r_bipush 7 _ dX8_find_5 rfl kb_40 ?_
    refine r_icmp_lt 12 10 dX8_find_7 (by decide) rfl X (fun _ X => ?_) (fun _ X => ?_)
    · refine r_ald0 13 dX8_find_12 rfl ?_
      refine r_gR 16 dX8_find_13 rfl lfX8_11 rfl X (fun b101 X => ?_)
      refine r_ild1 17 dX8_find_16 rfl ?_
      refine r_aR 18 3 dX8_find_17 rfl rfl X (fun b102 X => ?_)
      refine r_ast2 19 dX8_find_18 rfl rfl ?_
      refine r_ald2 20 dX8_find_19 rfl ?_
      refine r_gI 23 dX8_find_20 rfl lfX8_159 rfl X (fun x103 X => ?_)
      refine r_if_eq 30 26 dX8_find_23 (by decide) rfl X (fun _ X => ?_) (fun _ X => ?_)
      · refine r_null 31 dX8_find_30 rfl ?_
        exact r_retN dX8_find_31 (Nat.zero_le _) (Nat.zero_le _) X
      · refine r_ald2 27 dX8_find_26 rfl ?_
        refine r_goto 31 dX8_find_27 (by decide) ?_
        exact r_retR dX8_find_31 (Nat.zero_le _) (Nat.zero_le _) X
    · refine r_null 11 dX8_find_10 rfl ?_
      exact r_retN dX8_find_11 (Nat.zero_le _) (Nat.zero_le _) X
theorem mtX8_find (G : GG) (hG : GT G) {a0 : Nat} {x0 : Int32} {h h' : AH} {v : Option Nat} (hc : fX8_find a0 x0 h = some (v, h')) : AMet G yX8_find cX8_find 3 (some (.object "RatioStreams$Stream")) 0 0 0 0 [.ref (gB G + a0), .int x0] h (some (rf G v)) h' :=
  amet_of false [some (.ref (gB G + a0)), some (.int x0), none] (by decide +kernel) (by decide) (Nat.le_of_ble_eq_true rfl) rfl (Nat.le_of_ble_eq_true rfl) (wX8_find G hG (v, h') _ _ h hc)
abbrev eX8_isExactAct (G : GG) (R : Int32 × AH) : EE := eM G 2 (some .boolean) false 0 0 0 0 (some (.int R.1)) R.2
theorem wX8_isExactAct (G : GG) (hG : GT G) (R : Int32 × AH) (a1 : Nat) (a2 : Nat) (h : AH) (X : fX8_isExactAct a1 a2 h = some R) : AW (eX8_isExactAct G R) RX8 cX8_isExactAct 0 [some (.ref (gB G + a1)), some (.ref (gB G + a2))] [] h 0 0 := by
  unfold fX8_isExactAct at X
  refine r_ald0 1 dX8_isExactAct_0 rfl ?_
  refine r_gI 4 dX8_isExactAct_1 rfl lfX8_144 rfl X (fun x101 X => ?_)
  refine r_iconst 5 _ dX8_isExactAct_4 rfl ki_1 ?_
  refine r_icmp_gt 16 8 dX8_isExactAct_5 (by decide) rfl X (fun _ X => ?_) (fun _ X => ?_)
  · refine r_iconst 17 _ dX8_isExactAct_16 rfl ki_0 ?_
    exact r_ret0 dX8_isExactAct_17 (Nat.zero_le _) (Nat.zero_le _) X
  · refine r_ald1 9 dX8_isExactAct_8 rfl ?_
    refine r_gI 12 dX8_isExactAct_9 rfl lfX8_144 rfl X (fun x102 X => ?_)
    refine r_iconst 13 _ dX8_isExactAct_12 rfl ki_1 ?_
    refine r_icmp_le 18 16 dX8_isExactAct_13 (by decide) rfl X (fun _ X => ?_) (fun _ X => ?_)
    · refine r_ald0 19 dX8_isExactAct_18 rfl ?_
      refine r_gI 22 dX8_isExactAct_19 rfl lfX8_144 rfl X (fun x103 X => ?_)
      refine r_if_eq 44 25 dX8_isExactAct_22 (by decide) rfl X (fun _ X => ?_) (fun _ X => ?_)
      · refine r_iconst 45 _ dX8_isExactAct_44 rfl ki_1 ?_
        refine r_goto 49 dX8_isExactAct_45 (by decide) ?_
        exact r_ret1 dX8_isExactAct_49 (Nat.zero_le _) (Nat.zero_le _) X
      · refine r_ald1 26 dX8_isExactAct_25 rfl ?_
        refine r_gI 29 dX8_isExactAct_26 rfl lfX8_144 rfl X (fun x104 X => ?_)
        refine r_if_eq 44 32 dX8_isExactAct_29 (by decide) rfl X (fun _ X => ?_) (fun _ X => ?_)
        · refine r_iconst 45 _ dX8_isExactAct_44 rfl ki_1 ?_
          refine r_goto 49 dX8_isExactAct_45 (by decide) ?_
          exact r_ret1 dX8_isExactAct_49 (Nat.zero_le _) (Nat.zero_le _) X
        · refine r_ald0 33 dX8_isExactAct_32 rfl ?_
          refine r_gL 36 dX8_isExactAct_33 rfl lfX8_282 rfl X (fun x105 X => ?_)
          refine r_ald1 37 dX8_isExactAct_36 rfl ?_
          refine r_gL 40 dX8_isExactAct_37 rfl lfX8_282 rfl X (fun x106 X => ?_)
          refine r_lif_ne 48 44 dX8_isExactAct_40 dX8_isExactAct_41 (by decide) rfl X (fun _ X => ?_) (fun _ X => ?_)
          · refine r_iconst 49 _ dX8_isExactAct_48 rfl ki_0 ?_
            exact r_ret0 dX8_isExactAct_49 (Nat.zero_le _) (Nat.zero_le _) X
          · refine r_iconst 45 _ dX8_isExactAct_44 rfl ki_1 ?_
            refine r_goto 49 dX8_isExactAct_45 (by decide) ?_
            exact r_ret1 dX8_isExactAct_49 (Nat.zero_le _) (Nat.zero_le _) X
    · refine r_iconst 17 _ dX8_isExactAct_16 rfl ki_0 ?_
      exact r_ret0 dX8_isExactAct_17 (Nat.zero_le _) (Nat.zero_le _) X
theorem mtX8_isExactAct (G : GG) (hG : GT G) {a1 : Nat} {a2 : Nat} {h h' : AH} {v : Int32} (hc : fX8_isExactAct a1 a2 h = some (v, h')) : AMet G yX8_isExactAct cX8_isExactAct 2 (some .boolean) 0 0 0 0 [.ref (gB G + a1), .ref (gB G + a2)] h (some (.int v)) h' :=
  amet_of false [some (.ref (gB G + a1)), some (.ref (gB G + a2))] (by decide +kernel) (by decide) (Nat.le_of_ble_eq_true rfl) rfl (Nat.le_of_ble_eq_true rfl) (wX8_isExactAct G hG (v, h') _ _ h hc)
abbrev eX8_leastFree (G : GG) (R : Int32 × AH) : EE := eM G 2 (some .int) false 0 0 0 0 (some (.int R.1)) R.2
theorem wX8_leastFree_2 (G : GG) (hG : GT G) (R : Int32 × AH) {K2 : Nat → Int32 → AH → Fn Int32} (hK2 : ∀ (l0 : Nat) (l1 : Int32) (h : AH), K2 l0 l1 h = some R → AW (eX8_leastFree G R) RX8 cX8_leastFree 2 [some (.ref (gB G + l0)), some (.int l1)] [] h 0 0) (l0 : Nat) (l1 : Int32) (h : AH) (X : fX8_leastFree_2 K2 l0 l1 h = some R) : AW (eX8_leastFree G R) RX8 cX8_leastFree 2 [some (.ref (gB G + l0)), some (.int l1)] [] h 0 0 := by
  unfold fX8_leastFree_2 at X
  refine r_ild1 3 dX8_leastFree_2 rfl ?_
  refine r_bipush 5 _ dX8_leastFree_3 rfl kb_40 ?_
  refine r_icmp_ge 28 8 dX8_leastFree_5 (by decide) rfl X (fun _ X => ?_) (fun _ X => ?_)
  · refine r_iconst 29 _ dX8_leastFree_28 rfl ki_m1 ?_
    exact r_retI dX8_leastFree_29 (Nat.zero_le _) (Nat.zero_le _) X
  · refine r_ald0 9 dX8_leastFree_8 rfl ?_
    refine r_gR 12 dX8_leastFree_9 rfl lfX8_11 rfl X (fun b101 X => ?_)
    refine r_ild1 13 dX8_leastFree_12 rfl ?_
    refine r_aR 14 3 dX8_leastFree_13 rfl rfl X (fun b102 X => ?_)
    refine r_gI 17 dX8_leastFree_14 rfl lfX8_159 rfl X (fun x103 X => ?_)
    refine r_if_ne 22 20 dX8_leastFree_17 (by decide) rfl X (fun _ X => ?_) (fun _ X => ?_)
    · refine r_iinc1w 25 dX8_leastFree_22 rfl rfl ki_1 X (fun x104 X => ?_)
      refine r_goto 2 dX8_leastFree_25 (by decide) ?_
      exact r_cut (hK2 _ _ _ X) ⟨rfl, ⟨rfl, trivial⟩⟩
    · refine r_ild1 21 dX8_leastFree_20 rfl ?_
      exact r_retI dX8_leastFree_21 (Nat.zero_le _) (Nat.zero_le _) X
theorem wX8_leastFree_2L (G : GG) (hG : GT G) (R : Int32 × AH) : ∀ (m : Nat) (l0 : Nat) (l1 : Int32) (h : AH), fX8_leastFree_2L m l0 l1 h = some R → AW (eX8_leastFree G R) RX8 cX8_leastFree 2 [some (.ref (gB G + l0)), some (.int l1)] [] h 0 0 := by
  intro m
  induction m with
  | zero => intro l0 l1 h X; exact nomatch (show (none : Fn Int32) = some R from X)
  | succ m ih => intro l0 l1 h X; exact wX8_leastFree_2 G hG R ih l0 l1 h X
theorem wX8_leastFree (G : GG) (hG : GT G) (R : Int32 × AH) (a0 : Nat) (h : AH) (X : fX8_leastFree a0 h = some R) : AW (eX8_leastFree G R) RX8 cX8_leastFree 0 [some (.ref (gB G + a0)), none] [] h 0 0 := by
  unfold fX8_leastFree at X
  refine r_iconst 1 _ dX8_leastFree_0 rfl ki_0 ?_
  refine r_ist1 2 dX8_leastFree_1 rfl rfl ?_
  exact r_cut (wX8_leastFree_2L G hG R 1000 _ _ _ X) ⟨rfl, ⟨rfl, trivial⟩⟩
theorem mtX8_leastFree (G : GG) (hG : GT G) {a0 : Nat} {h h' : AH} {v : Int32} (hc : fX8_leastFree a0 h = some (v, h')) : AMet G yX8_leastFree cX8_leastFree 2 (some .int) 0 0 0 0 [.ref (gB G + a0)] h (some (.int v)) h' :=
  amet_of false [some (.ref (gB G + a0)), none] (by decide +kernel) (by decide) (Nat.le_of_ble_eq_true rfl) rfl (Nat.le_of_ble_eq_true rfl) (wX8_leastFree G hG (v, h') _ h hc)
abbrev eX8_place (G : GG) (R : Int64 × AH) : EE := eM G 2 (some .long) false 0 0 0 0 (some (.long R.1)) R.2
theorem wX8_place (G : GG) (hG : GT G) (R : Int64 × AH) (a0 : Nat) (x0 : Int32) (h : AH) (X : fX8_place a0 x0 h = some R) : AW (eX8_place G R) RX8 cX8_place 0 [some (.ref (gB G + a0)), some (.int x0)] [] h 0 0 := by
  unfold fX8_place at X
  refine r_ald0 1 dX8_place_0 rfl ?_
  refine r_gR 4 dX8_place_1 rfl lfX8_11 rfl X (fun b101 X => ?_)
  refine r_ild1 5 dX8_place_4 rfl ?_
  refine r_aR 6 3 dX8_place_5 rfl rfl X (fun b102 X => ?_)
  refine r_iconst 7 _ dX8_place_6 rfl ki_1 ?_
  refine r_pZ 10 dX8_place_7 rfl lpX8_159 rfl X (fun h103 X => ?_)
  refine r_ild1 11 dX8_place_10 rfl ?_
  refine r_i2l 12 dX8_place_11 rfl ?_
  exact r_retL dX8_place_12 (Nat.zero_le _) (Nat.zero_le _) X
theorem mtX8_place (G : GG) (hG : GT G) {a0 : Nat} {x0 : Int32} {h h' : AH} {v : Int64} (hc : fX8_place a0 x0 h = some (v, h')) : AMet G yX8_place cX8_place 2 (some .long) 0 0 0 0 [.ref (gB G + a0), .int x0] h (some (.long v)) h' :=
  amet_of false [some (.ref (gB G + a0)), some (.int x0)] (by decide +kernel) (by decide) (Nat.le_of_ble_eq_true rfl) rfl (Nat.le_of_ble_eq_true rfl) (wX8_place G hG (v, h') _ _ h hc)
abbrev eX3_isFarRoot (G : GG) (R : Int32 × AH) : EE := eM G 1 (some .boolean) false 1 21 0 0 (some (.int R.1)) R.2
theorem wX3_isFarRoot (G : GG) (hG : GT G) (R : Int32 × AH) (a0 : Nat) (h : AH) (X : fX3_isFarRoot a0 h = some R) : AW (eX3_isFarRoot G R) RX3 cX3_isFarRoot 0 [some (.ref (gB G + a0))] [] h 0 0 := by
  unfold fX3_isFarRoot at X
  refine r_ald0 1 dX3_isFarRoot_0 rfl ?_
  refine r_gL 4 dX3_isFarRoot_1 rfl lfX3_21 rfl X (fun x101 X => ?_)
  refine r_ldc2 7 dX3_isFarRoot_4 rfl lkX3_69 ?_
  refine r_lif_gt 60 11 dX3_isFarRoot_7 dX3_isFarRoot_8 (by decide) rfl X (fun _ X => ?_) (fun _ X => ?_)
  · refine r_iconst 61 _ dX3_isFarRoot_60 rfl ki_1 ?_
    refine r_goto 65 dX3_isFarRoot_61 (by decide) ?_
    exact r_ret1 dX3_isFarRoot_65 (Nat.zero_le _) (Nat.zero_le _) X
  · refine r_ald0 12 dX3_isFarRoot_11 rfl ?_
    refine r_gL 15 dX3_isFarRoot_12 rfl lfX3_9 rfl X (fun x102 X => ?_)
    obtain ⟨x104, h103, hc, X⟩ := bnd_ok X
    refine r_callS1 18 dX3_isFarRoot_15 rfl lmX3_71 (mtJ9_abs_067f4 G hG hc) rfl ⟨(Nat.zero_le _), (Nat.zero_le _)⟩ ?_
    refine r_ldc2 21 dX3_isFarRoot_18 rfl lkX3_77 ?_
    refine r_lif_gt 60 25 dX3_isFarRoot_21 dX3_isFarRoot_22 (by decide) rfl X (fun _ X => ?_) (fun _ X => ?_)
    · refine r_iconst 61 _ dX3_isFarRoot_60 rfl ki_1 ?_
      refine r_goto 65 dX3_isFarRoot_61 (by decide) ?_
      exact r_ret1 dX3_isFarRoot_65 (Nat.zero_le _) (Nat.zero_le _) X
    · refine r_ald0 26 dX3_isFarRoot_25 rfl ?_
      refine r_gL 29 dX3_isFarRoot_26 rfl lfX3_15 rfl X (fun x105 X => ?_)
      obtain ⟨x107, h106, hc, X⟩ := bnd_ok X
      refine r_callS1 32 dX3_isFarRoot_29 rfl lmX3_71 (mtJ9_abs_067f4 G hG hc) rfl ⟨(Nat.zero_le _), (Nat.zero_le _)⟩ ?_
      refine r_ldc2 35 dX3_isFarRoot_32 rfl lkX3_79 ?_
      refine r_lif_gt 60 39 dX3_isFarRoot_35 dX3_isFarRoot_36 (by decide) rfl X (fun _ X => ?_) (fun _ X => ?_)
      · refine r_iconst 61 _ dX3_isFarRoot_60 rfl ki_1 ?_
        refine r_goto 65 dX3_isFarRoot_61 (by decide) ?_
        exact r_ret1 dX3_isFarRoot_65 (Nat.zero_le _) (Nat.zero_le _) X
      · refine r_ald0 40 dX3_isFarRoot_39 rfl ?_
        refine r_gL 43 dX3_isFarRoot_40 rfl lfX3_15 rfl X (fun x108 X => ?_)
        refine r_ald0 44 dX3_isFarRoot_43 rfl ?_
        refine r_gL 47 dX3_isFarRoot_44 rfl lfX3_15 rfl X (fun x109 X => ?_)
        refine r_lmul 48 dX3_isFarRoot_47 rfl ?_
        refine r_ald0 49 dX3_isFarRoot_48 rfl ?_
        refine r_gL 52 dX3_isFarRoot_49 rfl lfX3_18 rfl X (fun x110 X => ?_)
        refine r_lmul 53 dX3_isFarRoot_52 rfl ?_
        refine r_ldc2 56 dX3_isFarRoot_53 rfl lkX3_81 ?_
        refine r_lif_le 64 60 dX3_isFarRoot_56 dX3_isFarRoot_57 (by decide) rfl X (fun _ X => ?_) (fun _ X => ?_)
        · refine r_iconst 65 _ dX3_isFarRoot_64 rfl ki_0 ?_
          exact r_ret0 dX3_isFarRoot_65 (Nat.zero_le _) (Nat.zero_le _) X
        · refine r_iconst 61 _ dX3_isFarRoot_60 rfl ki_1 ?_
          refine r_goto 65 dX3_isFarRoot_61 (by decide) ?_
          exact r_ret1 dX3_isFarRoot_65 (Nat.zero_le _) (Nat.zero_le _) X
theorem mtX3_isFarRoot (G : GG) (hG : GT G) {a0 : Nat} {h h' : AH} {v : Int32} (hc : fX3_isFarRoot a0 h = some (v, h')) : AMet G yX3_isFarRoot cX3_isFarRoot 1 (some .boolean) 1 21 0 0 [.ref (gB G + a0)] h (some (.int v)) h' :=
  amet_of false [some (.ref (gB G + a0))] (by decide +kernel) (by decide) (Nat.le_of_ble_eq_true rfl) rfl (Nat.le_of_ble_eq_true rfl) (wX3_isFarRoot G hG (v, h') _ h hc)
abbrev eX3_bringToLeastTerms (G : GG) (R : Int32 × AH) : EE := eM G 5 (some .boolean) false 2 41 0 0 (some (.int R.1)) R.2
theorem wX3_bringToLeastTerms_83 (G : GG) (hG : GT G) (R : Int32 × AH) (l0 : Nat) (s0 : Int64) (h : AH) (X : fX3_bringToLeastTerms_83 l0 s0 h = some R) : AW (eX3_bringToLeastTerms G R) RX3 cX3_bringToLeastTerms 83 [some (.ref (gB G + l0)), none, none, none, none] [.long s0] h 0 0 := by
  unfold fX3_bringToLeastTerms_83 at X
  refine r_lst3 84 dX3_bringToLeastTerms_83 rfl rfl ?_
  refine r_ald0 85 dX3_bringToLeastTerms_84 rfl ?_
  refine r_dup 86 dX3_bringToLeastTerms_85 rfl rfl ?_
  refine r_gL 89 dX3_bringToLeastTerms_86 rfl lfX3_9 rfl X (fun x101 X => ?_)
  refine r_lld3 90 dX3_bringToLeastTerms_89 rfl ?_
  refine r_ldiv 91 dX3_bringToLeastTerms_90 rfl X (fun X => ?_)
  refine r_pL 94 dX3_bringToLeastTerms_91 rfl lpX3_9 rfl X (fun h102 X => ?_)
  refine r_ald0 95 dX3_bringToLeastTerms_94 rfl ?_
  refine r_dup 96 dX3_bringToLeastTerms_95 rfl rfl ?_
  refine r_gL 99 dX3_bringToLeastTerms_96 rfl lfX3_15 rfl X (fun x103 X => ?_)
  refine r_lld3 100 dX3_bringToLeastTerms_99 rfl ?_
  refine r_ldiv 101 dX3_bringToLeastTerms_100 rfl X (fun X => ?_)
  refine r_pL 104 dX3_bringToLeastTerms_101 rfl lpX3_15 rfl X (fun h104 X => ?_)
  refine r_ald0 105 dX3_bringToLeastTerms_104 rfl ?_
  refine r_dup 106 dX3_bringToLeastTerms_105 rfl rfl ?_
  refine r_gL 109 dX3_bringToLeastTerms_106 rfl lfX3_21 rfl X (fun x105 X => ?_)
  refine r_lld3 110 dX3_bringToLeastTerms_109 rfl ?_
  refine r_ldiv 111 dX3_bringToLeastTerms_110 rfl X (fun X => ?_)
  refine r_pL 114 dX3_bringToLeastTerms_111 rfl lpX3_21 rfl X (fun h106 X => ?_)
  refine r_ald0 115 dX3_bringToLeastTerms_114 rfl ?_
  refine r_gL 118 dX3_bringToLeastTerms_115 rfl lfX3_15 rfl X (fun x107 X => ?_)
  refine r_lconst 119 _ dX3_bringToLeastTerms_118 rfl kl_0 ?_
  refine r_lif_eq 130 123 dX3_bringToLeastTerms_119 dX3_bringToLeastTerms_120 (by decide) rfl X (fun _ X => ?_) (fun _ X => ?_)
  · refine r_iconst 131 _ dX3_bringToLeastTerms_130 rfl ki_1 ?_
    refine r_goto 135 dX3_bringToLeastTerms_131 (by decide) ?_
    exact r_ret1 dX3_bringToLeastTerms_135 (Nat.zero_le _) (Nat.zero_le _) X
  · refine r_ald0 124 dX3_bringToLeastTerms_123 rfl ?_
    obtain ⟨hs, X⟩ := r_cv X
    obtain ⟨x109, h108, hc, X⟩ := bnd_ok X
    refine r_callV0 127 dX3_bringToLeastTerms_124 rfl lmX3_65 hs (mtX3_isFarRoot G hG hc) rfl ⟨(Nat.zero_le _), (Nat.zero_le _)⟩ ?_
    refine r_if_ne 134 130 dX3_bringToLeastTerms_127 (by decide) rfl X (fun _ X => ?_) (fun _ X => ?_)
    · refine r_iconst 135 _ dX3_bringToLeastTerms_134 rfl ki_0 ?_
      exact r_ret0 dX3_bringToLeastTerms_135 (Nat.zero_le _) (Nat.zero_le _) X
    · refine r_iconst 131 _ dX3_bringToLeastTerms_130 rfl ki_1 ?_
      refine r_goto 135 dX3_bringToLeastTerms_131 (by decide) ?_
      exact r_ret1 dX3_bringToLeastTerms_135 (Nat.zero_le _) (Nat.zero_le _) X
theorem wX3_bringToLeastTerms (G : GG) (hG : GT G) (R : Int32 × AH) (a0 : Nat) (h : AH) (X : fX3_bringToLeastTerms a0 h = some R) : AW (eX3_bringToLeastTerms G R) RX3 cX3_bringToLeastTerms 0 [some (.ref (gB G + a0)), none, none, none, none] [] h 0 0 := by
  unfold fX3_bringToLeastTerms at X
  refine r_ald0 1 dX3_bringToLeastTerms_0 rfl ?_
  refine r_gL 4 dX3_bringToLeastTerms_1 rfl lfX3_9 rfl X (fun x101 X => ?_)
  obtain ⟨x103, h102, hc, X⟩ := bnd_ok X
  refine r_callS1 7 dX3_bringToLeastTerms_4 rfl lmX3_58 (mtX8_isFar G hG hc) rfl ⟨(Nat.zero_le _), (Nat.zero_le _)⟩ ?_
  refine r_if_ne 39 10 dX3_bringToLeastTerms_7 (by decide) rfl X (fun _ X => ?_) (fun _ X => ?_)
  · refine r_iconst 40 _ dX3_bringToLeastTerms_39 rfl ki_0 ?_
    exact r_ret0 dX3_bringToLeastTerms_40 (Nat.zero_le _) (Nat.zero_le _) X
  · refine r_ald0 11 dX3_bringToLeastTerms_10 rfl ?_
    refine r_gL 14 dX3_bringToLeastTerms_11 rfl lfX3_15 rfl X (fun x104 X => ?_)
    obtain ⟨x106, h105, hc, X⟩ := bnd_ok X
    refine r_callS1 17 dX3_bringToLeastTerms_14 rfl lmX3_58 (mtX8_isFar G hG hc) rfl ⟨(Nat.zero_le _), (Nat.zero_le _)⟩ ?_
    refine r_if_ne 39 20 dX3_bringToLeastTerms_17 (by decide) rfl X (fun _ X => ?_) (fun _ X => ?_)
    · refine r_iconst 40 _ dX3_bringToLeastTerms_39 rfl ki_0 ?_
      exact r_ret0 dX3_bringToLeastTerms_40 (Nat.zero_le _) (Nat.zero_le _) X
    · refine r_ald0 21 dX3_bringToLeastTerms_20 rfl ?_
      refine r_gL 24 dX3_bringToLeastTerms_21 rfl lfX3_21 rfl X (fun x107 X => ?_)
      obtain ⟨x109, h108, hc, X⟩ := bnd_ok X
      refine r_callS1 27 dX3_bringToLeastTerms_24 rfl lmX3_58 (mtX8_isFar G hG hc) rfl ⟨(Nat.zero_le _), (Nat.zero_le _)⟩ ?_
      refine r_if_ne 39 30 dX3_bringToLeastTerms_27 (by decide) rfl X (fun _ X => ?_) (fun _ X => ?_)
      · refine r_iconst 40 _ dX3_bringToLeastTerms_39 rfl ki_0 ?_
        exact r_ret0 dX3_bringToLeastTerms_40 (Nat.zero_le _) (Nat.zero_le _) X
      · refine r_ald0 31 dX3_bringToLeastTerms_30 rfl ?_
        refine r_gL 34 dX3_bringToLeastTerms_31 rfl lfX3_21 rfl X (fun x110 X => ?_)
        refine r_lconst 35 _ dX3_bringToLeastTerms_34 rfl kl_0 ?_
        refine r_lif_ne 41 39 dX3_bringToLeastTerms_35 dX3_bringToLeastTerms_36 (by decide) rfl X (fun _ X => ?_) (fun _ X => ?_)
        · refine r_ald0 42 dX3_bringToLeastTerms_41 rfl ?_
          refine r_gL 45 dX3_bringToLeastTerms_42 rfl lfX3_21 rfl X (fun x111 X => ?_)
          refine r_ald0 46 dX3_bringToLeastTerms_45 rfl ?_
          refine r_gL 49 dX3_bringToLeastTerms_46 rfl lfX3_9 rfl X (fun x112 X => ?_)
          obtain ⟨x114, h113, hc, X⟩ := bnd_ok X
          refine r_callS2 52 dX3_bringToLeastTerms_49 rfl lmX3_62 (mtX8_greatestCommonDivisor G hG hc) rfl ⟨(Nat.zero_le _), (Nat.zero_le _)⟩ ?_
          refine r_ald0 53 dX3_bringToLeastTerms_52 rfl ?_
          refine r_gL 56 dX3_bringToLeastTerms_53 rfl lfX3_15 rfl X (fun x115 X => ?_)
          obtain ⟨x117, h116, hc, X⟩ := bnd_ok X
          refine r_callS2 59 dX3_bringToLeastTerms_56 rfl lmX3_62 (mtX8_greatestCommonDivisor G hG hc) rfl ⟨(Nat.zero_le _), (Nat.zero_le _)⟩ ?_
          refine r_lst1 60 dX3_bringToLeastTerms_59 rfl rfl ?_
          refine r_lld1 61 dX3_bringToLeastTerms_60 rfl ?_
          refine r_lconst 62 _ dX3_bringToLeastTerms_61 rfl kl_0 ?_
          refine r_lif_ne 68 66 dX3_bringToLeastTerms_62 dX3_bringToLeastTerms_63 (by decide) rfl X (fun _ X => ?_) (fun _ X => ?_)
          · refine r_ald0 69 dX3_bringToLeastTerms_68 rfl ?_
            refine r_gL 72 dX3_bringToLeastTerms_69 rfl lfX3_21 rfl X (fun x118 X => ?_)
            refine r_lconst 73 _ dX3_bringToLeastTerms_72 rfl kl_0 ?_
            refine r_lif_ge 82 77 dX3_bringToLeastTerms_73 dX3_bringToLeastTerms_74 (by decide) rfl X (fun _ X => ?_) (fun _ X => ?_)
            · refine r_lld1 83 dX3_bringToLeastTerms_82 rfl ?_
              exact r_cut (wX3_bringToLeastTerms_83 G hG R _ _ _ X) ⟨rfl, trivial⟩
            · refine r_lld1 78 dX3_bringToLeastTerms_77 rfl ?_
              refine r_lneg 79 dX3_bringToLeastTerms_78 rfl ?_
              refine r_goto 83 dX3_bringToLeastTerms_79 (by decide) ?_
              exact r_cut (wX3_bringToLeastTerms_83 G hG R _ _ _ X) ⟨rfl, trivial⟩
          · refine r_iconst 67 _ dX3_bringToLeastTerms_66 rfl ki_0 ?_
            exact r_ret0 dX3_bringToLeastTerms_67 (Nat.zero_le _) (Nat.zero_le _) X
        · refine r_iconst 40 _ dX3_bringToLeastTerms_39 rfl ki_0 ?_
          exact r_ret0 dX3_bringToLeastTerms_40 (Nat.zero_le _) (Nat.zero_le _) X
theorem mtX3_bringToLeastTerms (G : GG) (hG : GT G) {a0 : Nat} {h h' : AH} {v : Int32} (hc : fX3_bringToLeastTerms a0 h = some (v, h')) : AMet G yX3_bringToLeastTerms cX3_bringToLeastTerms 5 (some .boolean) 2 41 0 0 [.ref (gB G + a0)] h (some (.int v)) h' :=
  amet_of false [some (.ref (gB G + a0)), none, none, none, none] (by decide +kernel) (by decide) (Nat.le_of_ble_eq_true rfl) rfl (Nat.le_of_ble_eq_true rfl) (wX3_bringToLeastTerms G hG (v, h') _ h hc)
abbrev eX7_becomeRatio (G : GG) (R : Unit × AH) : EE := eM G 14 none false 1 25 0 0 none R.2
theorem wX7_becomeRatio_77 (G : GG) (hG : GT G) (R : Unit × AH) (l0 : Nat) (l7 : Int64) (h : AH) (X : fX7_becomeRatio_77 l0 l7 h = some R) : AW (eX7_becomeRatio G R) RX7 cX7_becomeRatio 77 [some (.ref (gB G + l0)), none, none, none, none, none, none, some (.long l7), none, none, none, none, none, none] [] h 0 0 := by
  unfold fX7_becomeRatio_77 at X
  refine r_ald0 78 dX7_becomeRatio_77 rfl ?_
  refine r_lld7 80 dX7_becomeRatio_78 rfl ?_
  refine r_lconst 81 _ dX7_becomeRatio_80 rfl kl_0 ?_
  refine r_lif_ne 89 85 dX7_becomeRatio_81 dX7_becomeRatio_82 (by decide) rfl X (fun _ X => ?_) (fun _ X => ?_)
  · refine r_iconst 90 _ dX7_becomeRatio_89 rfl ki_0 ?_
    refine r_pZ 93 dX7_becomeRatio_90 rfl lpX7_26 rfl X (fun h101 X => ?_)
    exact r_retV dX7_becomeRatio_93 (Nat.zero_le _) (Nat.zero_le _) X
  · refine r_iconst 86 _ dX7_becomeRatio_85 rfl ki_1 ?_
    refine r_goto 90 dX7_becomeRatio_86 (by decide) ?_
    refine r_pZ 93 dX7_becomeRatio_90 rfl lpX7_26 rfl X (fun h102 X => ?_)
    exact r_retV dX7_becomeRatio_93 (Nat.zero_le _) (Nat.zero_le _) X
theorem wX7_becomeRatio_24 (G : GG) (hG : GT G) (R : Unit × AH) {K24 : Nat → Int64 → Int64 → Int32 → AH → Fn Unit} (hK24 : ∀ (l0 : Nat) (l5 : Int64) (l7 : Int64) (l9 : Int32) (h : AH), K24 l0 l5 l7 l9 h = some R → AW (eX7_becomeRatio G R) RX7 cX7_becomeRatio 24 [some (.ref (gB G + l0)), none, none, none, none, some (.long l5), none, some (.long l7), none, some (.int l9), none, none, none, none] [] h 0 0) (l0 : Nat) (l5 : Int64) (l7 : Int64) (l9 : Int32) (h : AH) (X : fX7_becomeRatio_24 K24 l0 l5 l7 l9 h = some R) : AW (eX7_becomeRatio G R) RX7 cX7_becomeRatio 24 [some (.ref (gB G + l0)), none, none, none, none, some (.long l5), none, some (.long l7), none, some (.int l9), none, none, none, none] [] h 0 0 := by
  unfold fX7_becomeRatio_24 at X
  refine r_ild9 26 dX7_becomeRatio_24 rfl ?_
  refine r_bipush 28 _ dX7_becomeRatio_26 rfl kb_60 ?_
  refine r_icmp_ge 77 31 dX7_becomeRatio_28 (by decide) rfl X (fun _ X => ?_) (fun _ X => ?_)
  · exact r_cut (wX7_becomeRatio_77 G hG R _ _ _ X) ⟨rfl, ⟨rfl, trivial⟩⟩
  · refine r_lld7 33 dX7_becomeRatio_31 rfl ?_
    refine r_lconst 34 _ dX7_becomeRatio_33 rfl kl_0 ?_
    refine r_lif_eq 77 38 dX7_becomeRatio_34 dX7_becomeRatio_35 (by decide) rfl X (fun _ X => ?_) (fun _ X => ?_)
    · exact r_cut (wX7_becomeRatio_77 G hG R _ _ _ X) ⟨rfl, ⟨rfl, trivial⟩⟩
    · refine r_lld5 40 dX7_becomeRatio_38 rfl ?_
      refine r_lld7 42 dX7_becomeRatio_40 rfl ?_
      obtain ⟨x102, h101, hc, X⟩ := bnd_ok X
      refine r_callS2 45 dX7_becomeRatio_42 rfl lmX7_49 (mtJ9_floorDiv_f86c9 G hG hc) rfl ⟨(Nat.zero_le _), (Nat.zero_le _)⟩ ?_
      refine r_lst10 47 dX7_becomeRatio_45 rfl rfl ?_
      refine r_ald0 48 dX7_becomeRatio_47 rfl ?_
      refine r_lld10 50 dX7_becomeRatio_48 rfl ?_
      obtain ⟨hs, X⟩ := r_cv X
      obtain ⟨_, h103, hc, X⟩ := bnd_ok X
      refine r_callV1v 53 dX7_becomeRatio_50 rfl lmX7_55 hs (mtX7_addPart G hG hc) rfl ⟨(Nat.zero_le _), (Nat.zero_le _)⟩ ?_
      refine r_lld5 55 dX7_becomeRatio_53 rfl ?_
      refine r_lld10 57 dX7_becomeRatio_55 rfl ?_
      refine r_lld7 59 dX7_becomeRatio_57 rfl ?_
      refine r_lmul 60 dX7_becomeRatio_59 rfl ?_
      refine r_lsub 61 dX7_becomeRatio_60 rfl ?_
      refine r_lst12w 63 dX7_becomeRatio_61 rfl rfl X (fun x104 X => ?_)
      refine r_lld7 65 dX7_becomeRatio_63 rfl ?_
      refine r_lst5 67 dX7_becomeRatio_65 rfl rfl ?_
      refine r_lld12 69 dX7_becomeRatio_67 rfl ?_
      refine r_lst7 71 dX7_becomeRatio_69 rfl rfl ?_
      refine r_iinc9w 74 dX7_becomeRatio_71 rfl rfl ki_1 X (fun x105 X => ?_)
      refine r_goto 24 dX7_becomeRatio_74 (by decide) ?_
      exact r_cut (hK24 _ _ _ _ _ X) ⟨rfl, ⟨rfl, ⟨rfl, ⟨rfl, trivial⟩⟩⟩⟩
theorem wX7_becomeRatio_24L (G : GG) (hG : GT G) (R : Unit × AH) : ∀ (m : Nat) (l0 : Nat) (l5 : Int64) (l7 : Int64) (l9 : Int32) (h : AH), fX7_becomeRatio_24L m l0 l5 l7 l9 h = some R → AW (eX7_becomeRatio G R) RX7 cX7_becomeRatio 24 [some (.ref (gB G + l0)), none, none, none, none, some (.long l5), none, some (.long l7), none, some (.int l9), none, none, none, none] [] h 0 0 := by
  intro m
  induction m with
  | zero => intro l0 l5 l7 l9 h X; exact nomatch (show (none : Fn Unit) = some R from X)
  | succ m ih => intro l0 l5 l7 l9 h X; exact wX7_becomeRatio_24 G hG R ih l0 l5 l7 l9 h X
theorem wX7_becomeRatio (G : GG) (hG : GT G) (R : Unit × AH) (a0 : Nat) (x0 : Int64) (x1 : Int64) (h : AH) (X : fX7_becomeRatio a0 x0 x1 h = some R) : AW (eX7_becomeRatio G R) RX7 cX7_becomeRatio 0 [some (.ref (gB G + a0)), some (.long x0), none, some (.long x1), none, none, none, none, none, none, none, none, none, none] [] h 0 0 := by
  unfold fX7_becomeRatio at X
  refine r_ald0 1 dX7_becomeRatio_0 rfl ?_
  refine r_iconst 2 _ dX7_becomeRatio_1 rfl ki_0 ?_
  obtain ⟨hs, X⟩ := r_cv X
  obtain ⟨_, h101, hc, X⟩ := bnd_ok X
  refine r_callV1v 5 dX7_becomeRatio_2 rfl lmX7_45 hs (mtX7_start G hG hc) rfl ⟨(Nat.zero_le _), (Nat.zero_le _)⟩ ?_
  refine r_ald0 6 dX7_becomeRatio_5 rfl ?_
  refine r_lld1 7 dX7_becomeRatio_6 rfl ?_
  refine r_pL 10 dX7_becomeRatio_7 rfl lpX7_32 rfl X (fun h102 X => ?_)
  refine r_ald0 11 dX7_becomeRatio_10 rfl ?_
  refine r_lld3 12 dX7_becomeRatio_11 rfl ?_
  refine r_pL 15 dX7_becomeRatio_12 rfl lpX7_42 rfl X (fun h103 X => ?_)
  refine r_lld1 16 dX7_becomeRatio_15 rfl ?_
  refine r_lst5 18 dX7_becomeRatio_16 rfl rfl ?_
  refine r_lld3 19 dX7_becomeRatio_18 rfl ?_
  refine r_lst7 21 dX7_becomeRatio_19 rfl rfl ?_
  refine r_iconst 22 _ dX7_becomeRatio_21 rfl ki_0 ?_
  refine r_ist9 24 dX7_becomeRatio_22 rfl rfl ?_
  exact r_cut (wX7_becomeRatio_24L G hG R 1000 _ _ _ _ _ X) ⟨rfl, ⟨rfl, ⟨rfl, ⟨rfl, trivial⟩⟩⟩⟩
theorem mtX7_becomeRatio (G : GG) (hG : GT G) {a0 : Nat} {x0 : Int64} {x1 : Int64} {h h' : AH} {v : Unit} (hc : fX7_becomeRatio a0 x0 x1 h = some (v, h')) : AMet G yX7_becomeRatio cX7_becomeRatio 14 none 1 25 0 0 [.ref (gB G + a0), .long x0, .long x1] h none h' :=
  amet_of false [some (.ref (gB G + a0)), some (.long x0), none, some (.long x1), none, none, none, none, none, none, none, none, none, none] (by decide +kernel) (by decide) (Nat.le_of_ble_eq_true rfl) rfl (Nat.le_of_ble_eq_true rfl) (wX7_becomeRatio G hG (v, h') _ _ _ h hc)
abbrev eX4_wholeBelow (G : GG) (R : Int64 × AH) : EE := eM G 4 (some .long) false 2 48 0 0 (some (.long R.1)) R.2
theorem wX4_wholeBelow (G : GG) (hG : GT G) (R : Int64 × AH) (x0 : Int64) (x1 : Int64) (h : AH) (X : fX4_wholeBelow x0 x1 h = some R) : AW (eX4_wholeBelow G R) RX4 cX4_wholeBelow 0 [some (.long x0), none, some (.long x1), none] [] h 0 0 := by
  unfold fX4_wholeBelow at X
  refine r_lld2 1 dX4_wholeBelow_0 rfl ?_
  refine r_lconst 2 _ dX4_wholeBelow_1 rfl kl_0 ?_
  refine r_lif_le 14 6 dX4_wholeBelow_2 dX4_wholeBelow_3 (by decide) rfl X (fun _ X => ?_) (fun _ X => ?_)
  · refine r_lld0 15 dX4_wholeBelow_14 rfl ?_
    refine r_lld2 16 dX4_wholeBelow_15 rfl ?_
    refine r_lneg 17 dX4_wholeBelow_16 rfl ?_
    obtain ⟨x102, h101, hc, X⟩ := bnd_ok X
    refine r_callS2 20 dX4_wholeBelow_17 rfl lmX4_51 (mtX8_floorOf G hG hc) rfl ⟨(Nat.zero_le _), (Nat.zero_le _)⟩ ?_
    refine r_lneg 21 dX4_wholeBelow_20 rfl ?_
    refine r_lconst 22 _ dX4_wholeBelow_21 rfl kl_1 ?_
    refine r_lsub 23 dX4_wholeBelow_22 rfl ?_
    exact r_retL dX4_wholeBelow_23 (Nat.zero_le _) (Nat.zero_le _) X
  · refine r_lld0 7 dX4_wholeBelow_6 rfl ?_
    refine r_lld2 8 dX4_wholeBelow_7 rfl ?_
    obtain ⟨x104, h103, hc, X⟩ := bnd_ok X
    refine r_callS2 11 dX4_wholeBelow_8 rfl lmX4_51 (mtX8_floorOf G hG hc) rfl ⟨(Nat.zero_le _), (Nat.zero_le _)⟩ ?_
    refine r_goto 23 dX4_wholeBelow_11 (by decide) ?_
    exact r_retL dX4_wholeBelow_23 (Nat.zero_le _) (Nat.zero_le _) X
theorem mtX4_wholeBelow (G : GG) (hG : GT G) {x0 : Int64} {x1 : Int64} {h h' : AH} {v : Int64} (hc : fX4_wholeBelow x0 x1 h = some (v, h')) : AMet G yX4_wholeBelow cX4_wholeBelow 4 (some .long) 2 48 0 0 [.long x0, .long x1] h (some (.long v)) h' :=
  amet_of false [some (.long x0), none, some (.long x1), none] (by decide +kernel) (by decide) (Nat.le_of_ble_eq_true rfl) rfl (Nat.le_of_ble_eq_true rfl) (wX4_wholeBelow G hG (v, h') _ _ h hc)
abbrev eX8_sideBelow (G : GG) (R : Int64 × AH) : EE := eM G 8 (some .long) false 0 0 0 0 (some (.long R.1)) R.2
theorem wX8_sideBelow_7 (G : GG) (hG : GT G) (R : Int64 × AH) {K7 : Int64 → Int64 → Int64 → AH → Fn Int64} (hK7 : ∀ (l0 : Int64) (l2 : Int64) (l4 : Int64) (h : AH), K7 l0 l2 l4 h = some R → AW (eX8_sideBelow G R) RX8 cX8_sideBelow 7 [some (.long l0), none, some (.long l2), none, some (.long l4), none, none, none] [] h 0 0) (l0 : Int64) (l2 : Int64) (l4 : Int64) (h : AH) (X : fX8_sideBelow_7 K7 l0 l2 l4 h = some R) : AW (eX8_sideBelow G R) RX8 cX8_sideBelow 7 [some (.long l0), none, some (.long l2), none, some (.long l4), none, none, none] [] h 0 0 := by
  unfold fX8_sideBelow_7 at X
  refine r_lld4 9 dX8_sideBelow_7 rfl ?_
  refine r_lconst 10 _ dX8_sideBelow_9 rfl kl_0 ?_
  refine r_lif_le 42 14 dX8_sideBelow_10 dX8_sideBelow_11 (by decide) rfl X (fun _ X => ?_) (fun _ X => ?_)
  · refine r_lld2 43 dX8_sideBelow_42 rfl ?_
    exact r_retL dX8_sideBelow_43 (Nat.zero_le _) (Nat.zero_le _) X
  · refine r_lld2 15 dX8_sideBelow_14 rfl ?_
    refine r_lld4 17 dX8_sideBelow_15 rfl ?_
    refine r_ladd 18 dX8_sideBelow_17 rfl ?_
    refine r_lst6w 20 dX8_sideBelow_18 rfl rfl X (fun x101 X => ?_)
    refine r_lld6 22 dX8_sideBelow_20 rfl ?_
    refine r_lld6 24 dX8_sideBelow_22 rfl ?_
    refine r_lmul 25 dX8_sideBelow_24 rfl ?_
    refine r_lld0 26 dX8_sideBelow_25 rfl ?_
    refine r_lif_gt 33 30 dX8_sideBelow_26 dX8_sideBelow_27 (by decide) rfl X (fun _ X => ?_) (fun _ X => ?_)
    · refine r_lld4 35 dX8_sideBelow_33 rfl ?_
      refine r_iconst 36 _ dX8_sideBelow_35 rfl ki_1 ?_
      refine r_lshr 37 dX8_sideBelow_36 rfl ?_
      refine r_lst4w 39 dX8_sideBelow_37 rfl rfl X (fun x102 X => ?_)
      refine r_goto 7 dX8_sideBelow_39 (by decide) ?_
      exact r_cut (hK7 _ _ _ _ X) ⟨rfl, ⟨rfl, ⟨rfl, trivial⟩⟩⟩
    · refine r_lld6 32 dX8_sideBelow_30 rfl ?_
      refine r_lst2 33 dX8_sideBelow_32 rfl rfl ?_
      refine r_lld4 35 dX8_sideBelow_33 rfl ?_
      refine r_iconst 36 _ dX8_sideBelow_35 rfl ki_1 ?_
      refine r_lshr 37 dX8_sideBelow_36 rfl ?_
      refine r_lst4w 39 dX8_sideBelow_37 rfl rfl X (fun x103 X => ?_)
      refine r_goto 7 dX8_sideBelow_39 (by decide) ?_
      exact r_cut (hK7 _ _ _ _ X) ⟨rfl, ⟨rfl, ⟨rfl, trivial⟩⟩⟩
theorem wX8_sideBelow_7L (G : GG) (hG : GT G) (R : Int64 × AH) : ∀ (m : Nat) (l0 : Int64) (l2 : Int64) (l4 : Int64) (h : AH), fX8_sideBelow_7L m l0 l2 l4 h = some R → AW (eX8_sideBelow G R) RX8 cX8_sideBelow 7 [some (.long l0), none, some (.long l2), none, some (.long l4), none, none, none] [] h 0 0 := by
  intro m
  induction m with
  | zero => intro l0 l2 l4 h X; exact nomatch (show (none : Fn Int64) = some R from X)
  | succ m ih => intro l0 l2 l4 h X; exact wX8_sideBelow_7 G hG R ih l0 l2 l4 h X
theorem wX8_sideBelow (G : GG) (hG : GT G) (R : Int64 × AH) (x0 : Int64) (h : AH) (X : fX8_sideBelow x0 h = some R) : AW (eX8_sideBelow G R) RX8 cX8_sideBelow 0 [some (.long x0), none, none, none, none, none, none, none] [] h 0 0 := by
  unfold fX8_sideBelow at X
  refine r_lconst 1 _ dX8_sideBelow_0 rfl kl_0 ?_
  refine r_lst2 2 dX8_sideBelow_1 rfl rfl ?_
  refine r_ldc2 5 dX8_sideBelow_2 rfl lkX8_302 ?_
  refine r_lst4 7 dX8_sideBelow_5 rfl rfl ?_
  exact r_cut (wX8_sideBelow_7L G hG R 1000 _ _ _ _ X) ⟨rfl, ⟨rfl, ⟨rfl, trivial⟩⟩⟩
theorem mtX8_sideBelow (G : GG) (hG : GT G) {x0 : Int64} {h h' : AH} {v : Int64} (hc : fX8_sideBelow x0 h = some (v, h')) : AMet G yX8_sideBelow cX8_sideBelow 8 (some .long) 0 0 0 0 [.long x0] h (some (.long v)) h' :=
  amet_of false [some (.long x0), none, none, none, none, none, none, none] (by decide +kernel) (by decide) (Nat.le_of_ble_eq_true rfl) rfl (Nat.le_of_ble_eq_true rfl) (wX8_sideBelow G hG (v, h') _ h hc)
abbrev eX4_go (G : GG) (R : Unit × AH) : EE := eM G 15 none false 3 71 0 0 none R.2
theorem wX4_go_75 (G : GG) (hG : GT G) (R : Unit × AH) {K75 : Nat → Int64 → Int64 → Int64 → Int64 → Int32 → AH → Fn Unit} (hK75 : ∀ (l0 : Nat) (l2 : Int64) (l4 : Int64) (l8 : Int64) (l10 : Int64) (l12 : Int32) (h : AH), K75 l0 l2 l4 l8 l10 l12 h = some R → AW (eX4_go G R) RX4 cX4_go 75 [some (.ref (gB G + l0)), none, some (.long l2), none, some (.long l4), none, none, none, some (.long l8), none, some (.long l10), none, some (.int l12), none, none] [] h 0 0) (l0 : Nat) (l2 : Int64) (l4 : Int64) (l8 : Int64) (l10 : Int64) (l12 : Int32) (h : AH) (X : fX4_go_75 K75 l0 l2 l4 l8 l10 l12 h = some R) : AW (eX4_go G R) RX4 cX4_go 75 [some (.ref (gB G + l0)), none, some (.long l2), none, some (.long l4), none, none, none, some (.long l8), none, some (.long l10), none, some (.int l12), none, none] [] h 0 0 := by
  unfold fX4_go_75 at X
  refine r_ild12 77 dX4_go_75 rfl ?_
  refine r_bipush 79 _ dX4_go_77 rfl kb_60 ?_
  refine r_icmp_gt 156 82 dX4_go_79 (by decide) rfl X (fun _ X => ?_) (fun _ X => ?_)
  · exact r_retV dX4_go_156 (Nat.zero_le _) (Nat.zero_le _) X
  · refine r_lld10 84 dX4_go_82 rfl ?_
    refine r_lconst 85 _ dX4_go_84 rfl kl_0 ?_
    refine r_lif_eq 156 89 dX4_go_85 dX4_go_86 (by decide) rfl X (fun _ X => ?_) (fun _ X => ?_)
    · exact r_retV dX4_go_156 (Nat.zero_le _) (Nat.zero_le _) X
    · refine r_lld8 91 dX4_go_89 rfl ?_
      refine r_lld4 93 dX4_go_91 rfl ?_
      refine r_ladd 94 dX4_go_93 rfl ?_
      refine r_lld10 96 dX4_go_94 rfl ?_
      obtain ⟨x102, h101, hc, X⟩ := bnd_ok X
      refine r_callS2 99 dX4_go_96 rfl lmX4_47 (mtX4_wholeBelow G hG hc) rfl ⟨(Nat.zero_le _), (Nat.zero_le _)⟩ ?_
      refine r_lst13 101 dX4_go_99 rfl rfl ?_
      refine r_ald0 102 dX4_go_101 rfl ?_
      refine r_gR 105 dX4_go_102 rfl lfX4_9 rfl X (fun b103 X => ?_)
      refine r_ild12 107 dX4_go_105 rfl ?_
      refine r_lld8 109 dX4_go_107 rfl ?_
      refine r_zL 110 1 dX4_go_109 rfl rfl X (fun h104 X => ?_)
      refine r_ald0 111 dX4_go_110 rfl ?_
      refine r_gR 114 dX4_go_111 rfl lfX4_15 rfl X (fun b105 X => ?_)
      refine r_ild12 116 dX4_go_114 rfl ?_
      refine r_lld10 118 dX4_go_116 rfl ?_
      refine r_zL 119 1 dX4_go_118 rfl rfl X (fun h106 X => ?_)
      refine r_ald0 120 dX4_go_119 rfl ?_
      refine r_gR 123 dX4_go_120 rfl lfX4_18 rfl X (fun b107 X => ?_)
      refine r_ild12 125 dX4_go_123 rfl ?_
      refine r_lld13 127 dX4_go_125 rfl ?_
      refine r_zL 128 1 dX4_go_127 rfl rfl X (fun h108 X => ?_)
      refine r_lld13 130 dX4_go_128 rfl ?_
      refine r_lld10 132 dX4_go_130 rfl ?_
      refine r_lmul 133 dX4_go_132 rfl ?_
      refine r_lld8 135 dX4_go_133 rfl ?_
      refine r_lsub 136 dX4_go_135 rfl ?_
      refine r_lst8w 138 dX4_go_136 rfl rfl X (fun x109 X => ?_)
      refine r_lld2 139 dX4_go_138 rfl ?_
      refine r_lld8 141 dX4_go_139 rfl ?_
      refine r_lld8 143 dX4_go_141 rfl ?_
      refine r_lmul 144 dX4_go_143 rfl ?_
      refine r_lsub 145 dX4_go_144 rfl ?_
      refine r_lld10 147 dX4_go_145 rfl ?_
      refine r_ldiv 148 dX4_go_147 rfl X (fun X => ?_)
      refine r_lst10w 150 dX4_go_148 rfl rfl X (fun x110 X => ?_)
      refine r_iinc12w 153 dX4_go_150 rfl rfl ki_1 X (fun x111 X => ?_)
      refine r_goto 75 dX4_go_153 (by decide) ?_
      exact r_cut (hK75 _ _ _ _ _ _ _ X) ⟨rfl, ⟨rfl, ⟨rfl, ⟨rfl, ⟨rfl, ⟨rfl, trivial⟩⟩⟩⟩⟩⟩
theorem wX4_go_75L (G : GG) (hG : GT G) (R : Unit × AH) : ∀ (m : Nat) (l0 : Nat) (l2 : Int64) (l4 : Int64) (l8 : Int64) (l10 : Int64) (l12 : Int32) (h : AH), fX4_go_75L m l0 l2 l4 l8 l10 l12 h = some R → AW (eX4_go G R) RX4 cX4_go 75 [some (.ref (gB G + l0)), none, some (.long l2), none, some (.long l4), none, none, none, some (.long l8), none, some (.long l10), none, some (.int l12), none, none] [] h 0 0 := by
  intro m
  induction m with
  | zero => intro l0 l2 l4 l8 l10 l12 h X; exact nomatch (show (none : Fn Unit) = some R from X)
  | succ m ih => intro l0 l2 l4 l8 l10 l12 h X; exact wX4_go_75 G hG R ih l0 l2 l4 l8 l10 l12 h X
theorem wX4_go_52 (G : GG) (hG : GT G) (R : Unit × AH) (l0 : Nat) (l1 : Nat) (l2 : Int64) (l4 : Int64) (s0 : Int64) (h : AH) (X : fX4_go_52 l0 l1 l2 l4 s0 h = some R) : AW (eX4_go G R) RX4 cX4_go 52 [some (.ref (gB G + l0)), some (.ref (gB G + l1)), some (.long l2), none, some (.long l4), none, none, none, none, none, none, none, none, none, none] [.long s0] h 0 0 := by
  unfold fX4_go_52 at X
  refine r_lst6 54 dX4_go_52 rfl rfl ?_
  refine r_ald1 55 dX4_go_54 rfl ?_
  refine r_gL 58 dX4_go_55 rfl lfX4_44 rfl X (fun x101 X => ?_)
  refine r_lld6 60 dX4_go_58 rfl ?_
  refine r_lmul 61 dX4_go_60 rfl ?_
  refine r_lst8w 63 dX4_go_61 rfl rfl X (fun x102 X => ?_)
  refine r_ald1 64 dX4_go_63 rfl ?_
  refine r_gL 67 dX4_go_64 rfl lfX4_37 rfl X (fun x103 X => ?_)
  refine r_lld6 69 dX4_go_67 rfl ?_
  refine r_lmul 70 dX4_go_69 rfl ?_
  refine r_lst10w 72 dX4_go_70 rfl rfl X (fun x104 X => ?_)
  refine r_iconst 73 _ dX4_go_72 rfl ki_0 ?_
  refine r_ist12 75 dX4_go_73 rfl rfl ?_
  exact r_cut (wX4_go_75L G hG R 1000 _ _ _ _ _ _ _ X) ⟨rfl, ⟨rfl, ⟨rfl, ⟨rfl, ⟨rfl, ⟨rfl, trivial⟩⟩⟩⟩⟩⟩
theorem wX4_go (G : GG) (hG : GT G) (R : Unit × AH) (a0 : Nat) (a1 : Nat) (h : AH) (X : fX4_go a0 a1 h = some R) : AW (eX4_go G R) RX4 cX4_go 0 [some (.ref (gB G + a0)), some (.ref (gB G + a1)), none, none, none, none, none, none, none, none, none, none, none, none, none] [] h 0 0 := by
  unfold fX4_go at X
  refine r_ald1 1 dX4_go_0 rfl ?_
  refine r_gL 4 dX4_go_1 rfl lfX4_28 rfl X (fun x101 X => ?_)
  refine r_ald1 5 dX4_go_4 rfl ?_
  refine r_gL 8 dX4_go_5 rfl lfX4_28 rfl X (fun x102 X => ?_)
  refine r_lmul 9 dX4_go_8 rfl ?_
  refine r_ald1 10 dX4_go_9 rfl ?_
  refine r_gL 13 dX4_go_10 rfl lfX4_34 rfl X (fun x103 X => ?_)
  refine r_lmul 14 dX4_go_13 rfl ?_
  refine r_ald1 15 dX4_go_14 rfl ?_
  refine r_gL 18 dX4_go_15 rfl lfX4_37 rfl X (fun x104 X => ?_)
  refine r_lmul 19 dX4_go_18 rfl ?_
  refine r_ald1 20 dX4_go_19 rfl ?_
  refine r_gL 23 dX4_go_20 rfl lfX4_37 rfl X (fun x105 X => ?_)
  refine r_lmul 24 dX4_go_23 rfl ?_
  refine r_lst2w 25 dX4_go_24 rfl rfl X (fun x106 X => ?_)
  refine r_lld2 26 dX4_go_25 rfl ?_
  obtain ⟨x108, h107, hc, X⟩ := bnd_ok X
  refine r_callS1 29 dX4_go_26 rfl lmX4_40 (mtX8_sideBelow G hG hc) rfl ⟨(Nat.zero_le _), (Nat.zero_le _)⟩ ?_
  refine r_lst4 31 dX4_go_29 rfl rfl ?_
  refine r_ald1 32 dX4_go_31 rfl ?_
  refine r_gL 35 dX4_go_32 rfl lfX4_28 rfl X (fun x109 X => ?_)
  refine r_lconst 36 _ dX4_go_35 rfl kl_0 ?_
  refine r_lif_ge 48 40 dX4_go_36 dX4_go_37 (by decide) rfl X (fun _ X => ?_) (fun _ X => ?_)
  · refine r_ald1 49 dX4_go_48 rfl ?_
    refine r_gL 52 dX4_go_49 rfl lfX4_37 rfl X (fun x110 X => ?_)
    exact r_cut (wX4_go_52 G hG R _ _ _ _ _ _ X) ⟨rfl, ⟨rfl, ⟨rfl, ⟨rfl, trivial⟩⟩⟩⟩
  · refine r_ald1 41 dX4_go_40 rfl ?_
    refine r_gL 44 dX4_go_41 rfl lfX4_37 rfl X (fun x111 X => ?_)
    refine r_lneg 45 dX4_go_44 rfl ?_
    refine r_goto 52 dX4_go_45 (by decide) ?_
    exact r_cut (wX4_go_52 G hG R _ _ _ _ _ _ X) ⟨rfl, ⟨rfl, ⟨rfl, ⟨rfl, trivial⟩⟩⟩⟩
theorem mtX4_go (G : GG) (hG : GT G) {a0 : Nat} {a1 : Nat} {h h' : AH} {v : Unit} (hc : fX4_go a0 a1 h = some (v, h')) : AMet G yX4_go cX4_go 15 none 3 71 0 0 [.ref (gB G + a0), .ref (gB G + a1)] h none h' :=
  amet_of false [some (.ref (gB G + a0)), some (.ref (gB G + a1)), none, none, none, none, none, none, none, none, none, none, none, none, none] (by decide +kernel) (by decide) (Nat.le_of_ble_eq_true rfl) rfl (Nat.le_of_ble_eq_true rfl) (wX4_go G hG (v, h') _ _ h hc)
