theorem dX2_workOut_0 : decode cX2_workOut 0 = .ok (.aload_n 0, 1) := by decide +kernel
theorem dX2_workOut_1 : decode cX2_workOut 1 = .ok (.iconst 0, 1) := by decide +kernel
theorem dX2_workOut_2 : decode cX2_workOut 2 = .ok (.putfield 18, 3) := by decide +kernel
theorem dX2_workOut_5 : decode cX2_workOut 5 = .ok (.iconst 0, 1) := by decide +kernel
theorem dX2_workOut_6 : decode cX2_workOut 6 = .ok (.istore_n 2, 1) := by decide +kernel
theorem dX2_workOut_7 : decode cX2_workOut 7 = .ok (.iload_n 2, 1) := by decide +kernel
theorem dX2_workOut_8 : decode cX2_workOut 8 = .ok (.bipush 60, 2) := by decide +kernel
theorem dX2_workOut_10 : decode cX2_workOut 10 = .ok (.if_icmp .ge 112, 3) := by decide +kernel
theorem dX2_workOut_13 : decode cX2_workOut 13 = .ok (.iload_n 2, 1) := by decide +kernel
theorem dX2_workOut_14 : decode cX2_workOut 14 = .ok (.aload_n 1, 1) := by decide +kernel
theorem dX2_workOut_15 : decode cX2_workOut 15 = .ok (.getfield 22, 3) := by decide +kernel
theorem dX2_workOut_18 : decode cX2_workOut 18 = .ok (.if_icmp .ge 104, 3) := by decide +kernel
theorem dX2_workOut_21 : decode cX2_workOut 21 = .ok (.aload_n 1, 1) := by decide +kernel
theorem dX2_workOut_22 : decode cX2_workOut 22 = .ok (.iload_n 2, 1) := by decide +kernel
theorem dX2_workOut_23 : decode cX2_workOut 23 = .ok (.invokevirtual 27, 3) := by decide +kernel
theorem dX2_workOut_26 : decode cX2_workOut 26 = .ok (.lstore_n 3, 1) := by decide +kernel
theorem dX2_workOut_27 : decode cX2_workOut 27 = .ok (.lload_n 3, 1) := by decide +kernel
theorem dX2_workOut_28 : decode cX2_workOut 28 = .ok (.aload_n 0, 1) := by decide +kernel
theorem dX2_workOut_29 : decode cX2_workOut 29 = .ok (.iload_n 2, 1) := by decide +kernel
theorem dX2_workOut_30 : decode cX2_workOut 30 = .ok (.iconst 1, 1) := by decide +kernel
theorem dX2_workOut_31 : decode cX2_workOut 31 = .ok (.isub, 1) := by decide +kernel
theorem dX2_workOut_32 : decode cX2_workOut 32 = .ok (.invokevirtual 31, 3) := by decide +kernel
theorem dX2_workOut_35 : decode cX2_workOut 35 = .ok (.invokestatic 34, 3) := by decide +kernel
theorem dX2_workOut_38 : decode cX2_workOut 38 = .ok (.aload_n 0, 1) := by decide +kernel
theorem dX2_workOut_39 : decode cX2_workOut 39 = .ok (.iload_n 2, 1) := by decide +kernel
theorem dX2_workOut_40 : decode cX2_workOut 40 = .ok (.iconst 2, 1) := by decide +kernel
theorem dX2_workOut_41 : decode cX2_workOut 41 = .ok (.isub, 1) := by decide +kernel
theorem dX2_workOut_42 : decode cX2_workOut 42 = .ok (.invokevirtual 31, 3) := by decide +kernel
theorem dX2_workOut_45 : decode cX2_workOut 45 = .ok (.invokestatic 38, 3) := by decide +kernel
theorem dX2_workOut_48 : decode cX2_workOut 48 = .ok (.lstore 5, 2) := by decide +kernel
theorem dX2_workOut_50 : decode cX2_workOut 50 = .ok (.lload_n 3, 1) := by decide +kernel
theorem dX2_workOut_51 : decode cX2_workOut 51 = .ok (.aload_n 0, 1) := by decide +kernel
theorem dX2_workOut_52 : decode cX2_workOut 52 = .ok (.iload_n 2, 1) := by decide +kernel
theorem dX2_workOut_53 : decode cX2_workOut 53 = .ok (.iconst 1, 1) := by decide +kernel
theorem dX2_workOut_54 : decode cX2_workOut 54 = .ok (.isub, 1) := by decide +kernel
theorem dX2_workOut_55 : decode cX2_workOut 55 = .ok (.invokevirtual 41, 3) := by decide +kernel
theorem dX2_workOut_58 : decode cX2_workOut 58 = .ok (.invokestatic 34, 3) := by decide +kernel
theorem dX2_workOut_61 : decode cX2_workOut 61 = .ok (.aload_n 0, 1) := by decide +kernel
theorem dX2_workOut_62 : decode cX2_workOut 62 = .ok (.iload_n 2, 1) := by decide +kernel
theorem dX2_workOut_63 : decode cX2_workOut 63 = .ok (.iconst 2, 1) := by decide +kernel
theorem dX2_workOut_64 : decode cX2_workOut 64 = .ok (.isub, 1) := by decide +kernel
theorem dX2_workOut_65 : decode cX2_workOut 65 = .ok (.invokevirtual 41, 3) := by decide +kernel
theorem dX2_workOut_68 : decode cX2_workOut 68 = .ok (.invokestatic 38, 3) := by decide +kernel
theorem dX2_workOut_71 : decode cX2_workOut 71 = .ok (.lstore 7, 2) := by decide +kernel
theorem dX2_workOut_73 : decode cX2_workOut 73 = .ok (.lload 5, 2) := by decide +kernel
theorem dX2_workOut_75 : decode cX2_workOut 75 = .ok (.invokestatic 44, 3) := by decide +kernel
theorem dX2_workOut_78 : decode cX2_workOut 78 = .ok (.ifCond .ne 11, 3) := by decide +kernel
theorem dX2_workOut_81 : decode cX2_workOut 81 = .ok (.lload 7, 2) := by decide +kernel
theorem dX2_workOut_83 : decode cX2_workOut 83 = .ok (.invokestatic 44, 3) := by decide +kernel
theorem dX2_workOut_86 : decode cX2_workOut 86 = .ok (.ifCond .eq 4, 3) := by decide +kernel
theorem dX2_workOut_89 : decode cX2_workOut 89 = .ok (.return_, 1) := by decide +kernel
theorem dX2_workOut_90 : decode cX2_workOut 90 = .ok (.aload_n 0, 1) := by decide +kernel
theorem dX2_workOut_91 : decode cX2_workOut 91 = .ok (.getfield 9, 3) := by decide +kernel
theorem dX2_workOut_94 : decode cX2_workOut 94 = .ok (.iload_n 2, 1) := by decide +kernel
theorem dX2_workOut_95 : decode cX2_workOut 95 = .ok (.lload 5, 2) := by decide +kernel
theorem dX2_workOut_97 : decode cX2_workOut 97 = .ok (.lastore, 1) := by decide +kernel
theorem dX2_workOut_98 : decode cX2_workOut 98 = .ok (.aload_n 0, 1) := by decide +kernel
theorem dX2_workOut_99 : decode cX2_workOut 99 = .ok (.getfield 15, 3) := by decide +kernel
theorem dX2_workOut_102 : decode cX2_workOut 102 = .ok (.iload_n 2, 1) := by decide +kernel
theorem dX2_workOut_103 : decode cX2_workOut 103 = .ok (.lload 7, 2) := by decide +kernel
theorem dX2_workOut_105 : decode cX2_workOut 105 = .ok (.lastore, 1) := by decide +kernel
theorem dX2_workOut_106 : decode cX2_workOut 106 = .ok (.aload_n 0, 1) := by decide +kernel
theorem dX2_workOut_107 : decode cX2_workOut 107 = .ok (.dup, 1) := by decide +kernel
theorem dX2_workOut_108 : decode cX2_workOut 108 = .ok (.getfield 18, 3) := by decide +kernel
theorem dX2_workOut_111 : decode cX2_workOut 111 = .ok (.iconst 1, 1) := by decide +kernel
theorem dX2_workOut_112 : decode cX2_workOut 112 = .ok (.iadd, 1) := by decide +kernel
theorem dX2_workOut_113 : decode cX2_workOut 113 = .ok (.putfield 18, 3) := by decide +kernel
theorem dX2_workOut_116 : decode cX2_workOut 116 = .ok (.iinc 2 1, 3) := by decide +kernel
theorem dX2_workOut_119 : decode cX2_workOut 119 = .ok (.goto (-112), 3) := by decide +kernel
theorem dX2_workOut_122 : decode cX2_workOut 122 = .ok (.return_, 1) := by decide +kernel
theorem dX2_upperAt_0 : decode cX2_upperAt 0 = .ok (.iload_n 1, 1) := by decide +kernel
theorem dX2_upperAt_1 : decode cX2_upperAt 1 = .ok (.ifCond .ge 14, 3) := by decide +kernel
theorem dX2_upperAt_4 : decode cX2_upperAt 4 = .ok (.iload_n 1, 1) := by decide +kernel
theorem dX2_upperAt_5 : decode cX2_upperAt 5 = .ok (.iconst (-1), 1) := by decide +kernel
theorem dX2_upperAt_6 : decode cX2_upperAt 6 = .ok (.if_icmp .ne 7, 3) := by decide +kernel
theorem dX2_upperAt_9 : decode cX2_upperAt 9 = .ok (.lconst 1, 1) := by decide +kernel
theorem dX2_upperAt_10 : decode cX2_upperAt 10 = .ok (.goto 4, 3) := by decide +kernel
theorem dX2_upperAt_13 : decode cX2_upperAt 13 = .ok (.lconst 0, 1) := by decide +kernel
theorem dX2_upperAt_14 : decode cX2_upperAt 14 = .ok (.lreturn, 1) := by decide +kernel
theorem dX2_upperAt_15 : decode cX2_upperAt 15 = .ok (.iload_n 1, 1) := by decide +kernel
theorem dX2_upperAt_16 : decode cX2_upperAt 16 = .ok (.bipush 60, 2) := by decide +kernel
theorem dX2_upperAt_18 : decode cX2_upperAt 18 = .ok (.if_icmp .ge 12, 3) := by decide +kernel
theorem dX2_upperAt_21 : decode cX2_upperAt 21 = .ok (.aload_n 0, 1) := by decide +kernel
theorem dX2_upperAt_22 : decode cX2_upperAt 22 = .ok (.getfield 9, 3) := by decide +kernel
theorem dX2_upperAt_25 : decode cX2_upperAt 25 = .ok (.iload_n 1, 1) := by decide +kernel
theorem dX2_upperAt_26 : decode cX2_upperAt 26 = .ok (.laload, 1) := by decide +kernel
theorem dX2_upperAt_27 : decode cX2_upperAt 27 = .ok (.goto 4, 3) := by decide +kernel
theorem dX2_upperAt_30 : decode cX2_upperAt 30 = .ok (.lconst 0, 1) := by decide +kernel
theorem dX2_upperAt_31 : decode cX2_upperAt 31 = .ok (.lreturn, 1) := by decide +kernel
theorem dX2_lowerAt_0 : decode cX2_lowerAt 0 = .ok (.iload_n 1, 1) := by decide +kernel
theorem dX2_lowerAt_1 : decode cX2_lowerAt 1 = .ok (.ifCond .ge 14, 3) := by decide +kernel
theorem dX2_lowerAt_4 : decode cX2_lowerAt 4 = .ok (.iload_n 1, 1) := by decide +kernel
theorem dX2_lowerAt_5 : decode cX2_lowerAt 5 = .ok (.iconst (-1), 1) := by decide +kernel
theorem dX2_lowerAt_6 : decode cX2_lowerAt 6 = .ok (.if_icmp .ne 7, 3) := by decide +kernel
theorem dX2_lowerAt_9 : decode cX2_lowerAt 9 = .ok (.lconst 0, 1) := by decide +kernel
theorem dX2_lowerAt_10 : decode cX2_lowerAt 10 = .ok (.goto 4, 3) := by decide +kernel
theorem dX2_lowerAt_13 : decode cX2_lowerAt 13 = .ok (.lconst 1, 1) := by decide +kernel
theorem dX2_lowerAt_14 : decode cX2_lowerAt 14 = .ok (.lreturn, 1) := by decide +kernel
theorem dX2_lowerAt_15 : decode cX2_lowerAt 15 = .ok (.iload_n 1, 1) := by decide +kernel
theorem dX2_lowerAt_16 : decode cX2_lowerAt 16 = .ok (.bipush 60, 2) := by decide +kernel
theorem dX2_lowerAt_18 : decode cX2_lowerAt 18 = .ok (.if_icmp .ge 12, 3) := by decide +kernel
theorem dX2_lowerAt_21 : decode cX2_lowerAt 21 = .ok (.aload_n 0, 1) := by decide +kernel
theorem dX2_lowerAt_22 : decode cX2_lowerAt 22 = .ok (.getfield 15, 3) := by decide +kernel
theorem dX2_lowerAt_25 : decode cX2_lowerAt 25 = .ok (.iload_n 1, 1) := by decide +kernel
theorem dX2_lowerAt_26 : decode cX2_lowerAt 26 = .ok (.laload, 1) := by decide +kernel
theorem dX2_lowerAt_27 : decode cX2_lowerAt 27 = .ok (.goto 4, 3) := by decide +kernel
theorem dX2_lowerAt_30 : decode cX2_lowerAt 30 = .ok (.lconst 1, 1) := by decide +kernel
theorem dX2_lowerAt_31 : decode cX2_lowerAt 31 = .ok (.lreturn, 1) := by decide +kernel
theorem dX3_become_0 : decode cX3_become 0 = .ok (.aload_n 0, 1) := by decide +kernel
theorem dX3_become_1 : decode cX3_become 1 = .ok (.lload_n 1, 1) := by decide +kernel
theorem dX3_become_2 : decode cX3_become 2 = .ok (.putfield 9, 3) := by decide +kernel
theorem dX3_become_5 : decode cX3_become 5 = .ok (.aload_n 0, 1) := by decide +kernel
theorem dX3_become_6 : decode cX3_become 6 = .ok (.lload_n 3, 1) := by decide +kernel
theorem dX3_become_7 : decode cX3_become 7 = .ok (.putfield 15, 3) := by decide +kernel
theorem dX3_become_10 : decode cX3_become 10 = .ok (.aload_n 0, 1) := by decide +kernel
theorem dX3_become_11 : decode cX3_become 11 = .ok (.lload 5, 2) := by decide +kernel
theorem dX3_become_13 : decode cX3_become 13 = .ok (.putfield 18, 3) := by decide +kernel
theorem dX3_become_16 : decode cX3_become 16 = .ok (.aload_n 0, 1) := by decide +kernel
theorem dX3_become_17 : decode cX3_become 17 = .ok (.lload 7, 2) := by decide +kernel
theorem dX3_become_19 : decode cX3_become 19 = .ok (.putfield 21, 3) := by decide +kernel
theorem dX3_become_22 : decode cX3_become 22 = .ok (.return_, 1) := by decide +kernel
theorem dX5_seek_0 : decode cX5_seek 0 = .ok (.iconst 0, 1) := by decide +kernel
theorem dX5_seek_1 : decode cX5_seek 1 = .ok (.istore 5, 2) := by decide +kernel
theorem dX5_seek_3 : decode cX5_seek 3 = .ok (.iload 5, 2) := by decide +kernel
theorem dX5_seek_5 : decode cX5_seek 5 = .ok (.aload_n 2, 1) := by decide +kernel
theorem dX5_seek_6 : decode cX5_seek 6 = .ok (.getfield 38, 3) := by decide +kernel
theorem dX5_seek_9 : decode cX5_seek 9 = .ok (.if_icmp .ge 30, 3) := by decide +kernel
theorem dX5_seek_12 : decode cX5_seek 12 = .ok (.aload_n 2, 1) := by decide +kernel
theorem dX5_seek_13 : decode cX5_seek 13 = .ok (.iload 5, 2) := by decide +kernel
theorem dX5_seek_15 : decode cX5_seek 15 = .ok (.invokevirtual 44, 3) := by decide +kernel
theorem dX5_seek_18 : decode cX5_seek 18 = .ok (.lload_n 3, 1) := by decide +kernel
theorem dX5_seek_19 : decode cX5_seek 19 = .ok (.lcmp, 1) := by decide +kernel
theorem dX5_seek_20 : decode cX5_seek 20 = .ok (.ifCond .le 13, 3) := by decide +kernel
theorem dX5_seek_23 : decode cX5_seek 23 = .ok (.aload_n 0, 1) := by decide +kernel
theorem dX5_seek_24 : decode cX5_seek 24 = .ok (.aload_n 2, 1) := by decide +kernel
theorem dX5_seek_25 : decode cX5_seek 25 = .ok (.iload 5, 2) := by decide +kernel
theorem dX5_seek_27 : decode cX5_seek 27 = .ok (.lload_n 3, 1) := by decide +kernel
theorem dX5_seek_28 : decode cX5_seek 28 = .ok (.invokevirtual 48, 3) := by decide +kernel
theorem dX5_seek_31 : decode cX5_seek 31 = .ok (.lconst 0, 1) := by decide +kernel
theorem dX5_seek_32 : decode cX5_seek 32 = .ok (.lreturn, 1) := by decide +kernel
theorem dX5_seek_33 : decode cX5_seek 33 = .ok (.iinc 5 1, 3) := by decide +kernel
theorem dX5_seek_36 : decode cX5_seek 36 = .ok (.goto (-33), 3) := by decide +kernel
theorem dX5_seek_39 : decode cX5_seek 39 = .ok (.aload_n 2, 1) := by decide +kernel
theorem dX5_seek_40 : decode cX5_seek 40 = .ok (.getfield 38, 3) := by decide +kernel
theorem dX5_seek_43 : decode cX5_seek 43 = .ok (.aload_n 1, 1) := by decide +kernel
theorem dX5_seek_44 : decode cX5_seek 44 = .ok (.getfield 52, 3) := by decide +kernel
theorem dX5_seek_47 : decode cX5_seek 47 = .ok (.if_icmp .ge 7, 3) := by decide +kernel
theorem dX5_seek_50 : decode cX5_seek 50 = .ok (.ldc2_w 55, 3) := by decide +kernel
theorem dX5_seek_53 : decode cX5_seek 53 = .ok (.lreturn, 1) := by decide +kernel
theorem dX5_seek_54 : decode cX5_seek 54 = .ok (.aload_n 1, 1) := by decide +kernel
theorem dX5_seek_55 : decode cX5_seek 55 = .ok (.getfield 57, 3) := by decide +kernel
theorem dX5_seek_58 : decode cX5_seek 58 = .ok (.ifCond .ne 7, 3) := by decide +kernel
theorem dX5_seek_61 : decode cX5_seek 61 = .ok (.ldc2_w 61, 3) := by decide +kernel
theorem dX5_seek_64 : decode cX5_seek 64 = .ok (.lreturn, 1) := by decide +kernel
theorem dX5_seek_65 : decode cX5_seek 65 = .ok (.aload_n 0, 1) := by decide +kernel
theorem dX5_seek_66 : decode cX5_seek 66 = .ok (.iconst 1, 1) := by decide +kernel
theorem dX5_seek_67 : decode cX5_seek 67 = .ok (.aload_n 2, 1) := by decide +kernel
theorem dX5_seek_68 : decode cX5_seek 68 = .ok (.aload_n 2, 1) := by decide +kernel
theorem dX5_seek_69 : decode cX5_seek 69 = .ok (.getfield 38, 3) := by decide +kernel
theorem dX5_seek_72 : decode cX5_seek 72 = .ok (.iconst 1, 1) := by decide +kernel
theorem dX5_seek_73 : decode cX5_seek 73 = .ok (.isub, 1) := by decide +kernel
theorem dX5_seek_74 : decode cX5_seek 74 = .ok (.invokevirtual 63, 3) := by decide +kernel
theorem dX5_seek_77 : decode cX5_seek 77 = .ok (.aload_n 2, 1) := by decide +kernel
theorem dX5_seek_78 : decode cX5_seek 78 = .ok (.aload_n 2, 1) := by decide +kernel
theorem dX5_seek_79 : decode cX5_seek 79 = .ok (.getfield 38, 3) := by decide +kernel
theorem dX5_seek_82 : decode cX5_seek 82 = .ok (.iconst 1, 1) := by decide +kernel
theorem dX5_seek_83 : decode cX5_seek 83 = .ok (.isub, 1) := by decide +kernel
theorem dX5_seek_84 : decode cX5_seek 84 = .ok (.invokevirtual 44, 3) := by decide +kernel
theorem dX5_seek_87 : decode cX5_seek 87 = .ok (.invokevirtual 66, 3) := by decide +kernel
theorem dX5_seek_90 : decode cX5_seek 90 = .ok (.aload_n 0, 1) := by decide +kernel
theorem dX5_seek_91 : decode cX5_seek 91 = .ok (.iconst 0, 1) := by decide +kernel
theorem dX5_seek_92 : decode cX5_seek 92 = .ok (.aload_n 2, 1) := by decide +kernel
theorem dX5_seek_93 : decode cX5_seek 93 = .ok (.aload_n 2, 1) := by decide +kernel
theorem dX5_seek_94 : decode cX5_seek 94 = .ok (.getfield 38, 3) := by decide +kernel
theorem dX5_seek_97 : decode cX5_seek 97 = .ok (.iconst 1, 1) := by decide +kernel
theorem dX5_seek_98 : decode cX5_seek 98 = .ok (.isub, 1) := by decide +kernel
theorem dX5_seek_99 : decode cX5_seek 99 = .ok (.invokevirtual 63, 3) := by decide +kernel
theorem dX5_seek_102 : decode cX5_seek 102 = .ok (.aload_n 2, 1) := by decide +kernel
theorem dX5_seek_103 : decode cX5_seek 103 = .ok (.aload_n 2, 1) := by decide +kernel
theorem dX5_seek_104 : decode cX5_seek 104 = .ok (.getfield 38, 3) := by decide +kernel
theorem dX5_seek_107 : decode cX5_seek 107 = .ok (.iconst 1, 1) := by decide +kernel
theorem dX5_seek_108 : decode cX5_seek 108 = .ok (.isub, 1) := by decide +kernel
theorem dX5_seek_109 : decode cX5_seek 109 = .ok (.invokevirtual 44, 3) := by decide +kernel
theorem dX5_seek_112 : decode cX5_seek 112 = .ok (.invokevirtual 66, 3) := by decide +kernel
theorem dX5_seek_115 : decode cX5_seek 115 = .ok (.lconst 0, 1) := by decide +kernel
theorem dX5_seek_116 : decode cX5_seek 116 = .ok (.lreturn, 1) := by decide +kernel
theorem dX5_settleAhead_0 : decode cX5_settleAhead 0 = .ok (.aload_n 1, 1) := by decide +kernel
theorem dX5_settleAhead_1 : decode cX5_settleAhead 1 = .ok (.iload_n 2, 1) := by decide +kernel
theorem dX5_settleAhead_2 : decode cX5_settleAhead 2 = .ok (.iconst 1, 1) := by decide +kernel
theorem dX5_settleAhead_3 : decode cX5_settleAhead 3 = .ok (.isub, 1) := by decide +kernel
theorem dX5_settleAhead_4 : decode cX5_settleAhead 4 = .ok (.invokevirtual 44, 3) := by decide +kernel
theorem dX5_settleAhead_7 : decode cX5_settleAhead 7 = .ok (.lstore 5, 2) := by decide +kernel
theorem dX5_settleAhead_9 : decode cX5_settleAhead 9 = .ok (.lload_n 3, 1) := by decide +kernel
theorem dX5_settleAhead_10 : decode cX5_settleAhead 10 = .ok (.aload_n 1, 1) := by decide +kernel
theorem dX5_settleAhead_11 : decode cX5_settleAhead 11 = .ok (.iload_n 2, 1) := by decide +kernel
theorem dX5_settleAhead_12 : decode cX5_settleAhead 12 = .ok (.iconst 2, 1) := by decide +kernel
theorem dX5_settleAhead_13 : decode cX5_settleAhead 13 = .ok (.isub, 1) := by decide +kernel
theorem dX5_settleAhead_14 : decode cX5_settleAhead 14 = .ok (.invokevirtual 44, 3) := by decide +kernel
theorem dX5_settleAhead_17 : decode cX5_settleAhead 17 = .ok (.lsub, 1) := by decide +kernel
theorem dX5_settleAhead_18 : decode cX5_settleAhead 18 = .ok (.lload 5, 2) := by decide +kernel
theorem dX5_settleAhead_20 : decode cX5_settleAhead 20 = .ok (.invokestatic 70, 3) := by decide +kernel
theorem dX5_settleAhead_23 : decode cX5_settleAhead 23 = .ok (.lstore 7, 2) := by decide +kernel
theorem dX5_settleAhead_25 : decode cX5_settleAhead 25 = .ok (.iload_n 2, 1) := by decide +kernel
theorem dX5_settleAhead_26 : decode cX5_settleAhead 26 = .ok (.iconst 1, 1) := by decide +kernel
theorem dX5_settleAhead_27 : decode cX5_settleAhead 27 = .ok (.isub, 1) := by decide +kernel
theorem dX5_settleAhead_28 : decode cX5_settleAhead 28 = .ok (.iconst 2, 1) := by decide +kernel
theorem dX5_settleAhead_29 : decode cX5_settleAhead 29 = .ok (.irem, 1) := by decide +kernel
theorem dX5_settleAhead_30 : decode cX5_settleAhead 30 = .ok (.ifCond .ne 7, 3) := by decide +kernel
theorem dX5_settleAhead_33 : decode cX5_settleAhead 33 = .ok (.iconst 1, 1) := by decide +kernel
theorem dX5_settleAhead_34 : decode cX5_settleAhead 34 = .ok (.goto 4, 3) := by decide +kernel
theorem dX5_settleAhead_37 : decode cX5_settleAhead 37 = .ok (.iconst 0, 1) := by decide +kernel
theorem dX5_settleAhead_38 : decode cX5_settleAhead 38 = .ok (.istore 9, 2) := by decide +kernel
theorem dX5_settleAhead_40 : decode cX5_settleAhead 40 = .ok (.aload_n 0, 1) := by decide +kernel
theorem dX5_settleAhead_41 : decode cX5_settleAhead 41 = .ok (.iload 9, 2) := by decide +kernel
theorem dX5_settleAhead_43 : decode cX5_settleAhead 43 = .ok (.aload_n 1, 1) := by decide +kernel
theorem dX5_settleAhead_44 : decode cX5_settleAhead 44 = .ok (.iload_n 2, 1) := by decide +kernel
theorem dX5_settleAhead_45 : decode cX5_settleAhead 45 = .ok (.iconst 1, 1) := by decide +kernel
theorem dX5_settleAhead_46 : decode cX5_settleAhead 46 = .ok (.isub, 1) := by decide +kernel
theorem dX5_settleAhead_47 : decode cX5_settleAhead 47 = .ok (.invokevirtual 63, 3) := by decide +kernel
theorem dX5_settleAhead_50 : decode cX5_settleAhead 50 = .ok (.lload 5, 2) := by decide +kernel
theorem dX5_settleAhead_52 : decode cX5_settleAhead 52 = .ok (.invokevirtual 66, 3) := by decide +kernel
theorem dX5_settleAhead_55 : decode cX5_settleAhead 55 = .ok (.aload_n 0, 1) := by decide +kernel
theorem dX5_settleAhead_56 : decode cX5_settleAhead 56 = .ok (.iload 9, 2) := by decide +kernel
theorem dX5_settleAhead_58 : decode cX5_settleAhead 58 = .ok (.ifCond .ne 7, 3) := by decide +kernel
theorem dX5_settleAhead_61 : decode cX5_settleAhead 61 = .ok (.iconst 1, 1) := by decide +kernel
theorem dX5_settleAhead_62 : decode cX5_settleAhead 62 = .ok (.goto 4, 3) := by decide +kernel
theorem dX5_settleAhead_65 : decode cX5_settleAhead 65 = .ok (.iconst 0, 1) := by decide +kernel
theorem dX5_settleAhead_66 : decode cX5_settleAhead 66 = .ok (.aload_n 1, 1) := by decide +kernel
theorem dX5_settleAhead_67 : decode cX5_settleAhead 67 = .ok (.iload_n 2, 1) := by decide +kernel
theorem dX5_settleAhead_68 : decode cX5_settleAhead 68 = .ok (.iconst 2, 1) := by decide +kernel
theorem dX5_settleAhead_69 : decode cX5_settleAhead 69 = .ok (.isub, 1) := by decide +kernel
theorem dX5_settleAhead_70 : decode cX5_settleAhead 70 = .ok (.invokevirtual 63, 3) := by decide +kernel
theorem dX5_settleAhead_73 : decode cX5_settleAhead 73 = .ok (.lload 7, 2) := by decide +kernel
theorem dX5_settleAhead_75 : decode cX5_settleAhead 75 = .ok (.aload_n 1, 1) := by decide +kernel
theorem dX5_settleAhead_76 : decode cX5_settleAhead 76 = .ok (.iload_n 2, 1) := by decide +kernel
theorem dX5_settleAhead_77 : decode cX5_settleAhead 77 = .ok (.iconst 1, 1) := by decide +kernel
theorem dX5_settleAhead_78 : decode cX5_settleAhead 78 = .ok (.isub, 1) := by decide +kernel
theorem dX5_settleAhead_79 : decode cX5_settleAhead 79 = .ok (.invokevirtual 63, 3) := by decide +kernel
theorem dX5_settleAhead_82 : decode cX5_settleAhead 82 = .ok (.lmul, 1) := by decide +kernel
theorem dX5_settleAhead_83 : decode cX5_settleAhead 83 = .ok (.ladd, 1) := by decide +kernel
theorem dX5_settleAhead_84 : decode cX5_settleAhead 84 = .ok (.aload_n 1, 1) := by decide +kernel
theorem dX5_settleAhead_85 : decode cX5_settleAhead 85 = .ok (.iload_n 2, 1) := by decide +kernel
theorem dX5_settleAhead_86 : decode cX5_settleAhead 86 = .ok (.iconst 2, 1) := by decide +kernel
theorem dX5_settleAhead_87 : decode cX5_settleAhead 87 = .ok (.isub, 1) := by decide +kernel
theorem dX5_settleAhead_88 : decode cX5_settleAhead 88 = .ok (.invokevirtual 44, 3) := by decide +kernel
theorem dX5_settleAhead_91 : decode cX5_settleAhead 91 = .ok (.lload 7, 2) := by decide +kernel
theorem dX5_settleAhead_93 : decode cX5_settleAhead 93 = .ok (.lload 5, 2) := by decide +kernel
theorem dX5_settleAhead_95 : decode cX5_settleAhead 95 = .ok (.lmul, 1) := by decide +kernel
theorem dX5_settleAhead_96 : decode cX5_settleAhead 96 = .ok (.ladd, 1) := by decide +kernel
theorem dX5_settleAhead_97 : decode cX5_settleAhead 97 = .ok (.invokevirtual 66, 3) := by decide +kernel
theorem dX5_settleAhead_100 : decode cX5_settleAhead 100 = .ok (.return_, 1) := by decide +kernel
theorem dX5_setSide_0 : decode cX5_setSide 0 = .ok (.iload_n 1, 1) := by decide +kernel
theorem dX5_setSide_1 : decode cX5_setSide 1 = .ok (.ifCond .eq 17, 3) := by decide +kernel
theorem dX5_setSide_4 : decode cX5_setSide 4 = .ok (.aload_n 0, 1) := by decide +kernel
theorem dX5_setSide_5 : decode cX5_setSide 5 = .ok (.lload_n 2, 1) := by decide +kernel
theorem dX5_setSide_6 : decode cX5_setSide 6 = .ok (.putfield 9, 3) := by decide +kernel
theorem dX5_setSide_9 : decode cX5_setSide 9 = .ok (.aload_n 0, 1) := by decide +kernel
theorem dX5_setSide_10 : decode cX5_setSide 10 = .ok (.lload 4, 2) := by decide +kernel
theorem dX5_setSide_12 : decode cX5_setSide 12 = .ok (.putfield 15, 3) := by decide +kernel
theorem dX5_setSide_15 : decode cX5_setSide 15 = .ok (.goto 14, 3) := by decide +kernel
theorem dX5_setSide_18 : decode cX5_setSide 18 = .ok (.aload_n 0, 1) := by decide +kernel
theorem dX5_setSide_19 : decode cX5_setSide 19 = .ok (.lload_n 2, 1) := by decide +kernel
theorem dX5_setSide_20 : decode cX5_setSide 20 = .ok (.putfield 18, 3) := by decide +kernel
theorem dX5_setSide_23 : decode cX5_setSide 23 = .ok (.aload_n 0, 1) := by decide +kernel
theorem dX5_setSide_24 : decode cX5_setSide 24 = .ok (.lload 4, 2) := by decide +kernel
theorem dX5_setSide_26 : decode cX5_setSide 26 = .ok (.putfield 21, 3) := by decide +kernel
theorem dX5_setSide_29 : decode cX5_setSide 29 = .ok (.return_, 1) := by decide +kernel
theorem dX5_againstMiddle_0 : decode cX5_againstMiddle 0 = .ok (.aload_n 0, 1) := by decide +kernel
theorem dX5_againstMiddle_1 : decode cX5_againstMiddle 1 = .ok (.getfield 9, 3) := by decide +kernel
theorem dX5_againstMiddle_4 : decode cX5_againstMiddle 4 = .ok (.aload_n 0, 1) := by decide +kernel
theorem dX5_againstMiddle_5 : decode cX5_againstMiddle 5 = .ok (.getfield 21, 3) := by decide +kernel
theorem dX5_againstMiddle_8 : decode cX5_againstMiddle 8 = .ok (.invokestatic 74, 3) := by decide +kernel
theorem dX5_againstMiddle_11 : decode cX5_againstMiddle 11 = .ok (.aload_n 0, 1) := by decide +kernel
theorem dX5_againstMiddle_12 : decode cX5_againstMiddle 12 = .ok (.getfield 18, 3) := by decide +kernel
theorem dX5_againstMiddle_15 : decode cX5_againstMiddle 15 = .ok (.aload_n 0, 1) := by decide +kernel
theorem dX5_againstMiddle_16 : decode cX5_againstMiddle 16 = .ok (.getfield 15, 3) := by decide +kernel
theorem dX5_againstMiddle_19 : decode cX5_againstMiddle 19 = .ok (.invokestatic 74, 3) := by decide +kernel
theorem dX5_againstMiddle_22 : decode cX5_againstMiddle 22 = .ok (.invokestatic 77, 3) := by decide +kernel
theorem dX5_againstMiddle_25 : decode cX5_againstMiddle 25 = .ok (.lstore_n 2, 1) := by decide +kernel
theorem dX5_againstMiddle_26 : decode cX5_againstMiddle 26 = .ok (.ldc2_w 80, 3) := by decide +kernel
theorem dX5_againstMiddle_29 : decode cX5_againstMiddle 29 = .ok (.aload_n 0, 1) := by decide +kernel
theorem dX5_againstMiddle_30 : decode cX5_againstMiddle 30 = .ok (.getfield 15, 3) := by decide +kernel
theorem dX5_againstMiddle_33 : decode cX5_againstMiddle 33 = .ok (.invokestatic 74, 3) := by decide +kernel
theorem dX5_againstMiddle_36 : decode cX5_againstMiddle 36 = .ok (.aload_n 0, 1) := by decide +kernel
theorem dX5_againstMiddle_37 : decode cX5_againstMiddle 37 = .ok (.getfield 21, 3) := by decide +kernel
theorem dX5_againstMiddle_40 : decode cX5_againstMiddle 40 = .ok (.invokestatic 74, 3) := by decide +kernel
theorem dX5_againstMiddle_43 : decode cX5_againstMiddle 43 = .ok (.lstore 4, 2) := by decide +kernel
theorem dX5_againstMiddle_45 : decode cX5_againstMiddle 45 = .ok (.aload_n 0, 1) := by decide +kernel
theorem dX5_againstMiddle_46 : decode cX5_againstMiddle 46 = .ok (.getfield 27, 3) := by decide +kernel
theorem dX5_againstMiddle_49 : decode cX5_againstMiddle 49 = .ok (.lload_n 2, 1) := by decide +kernel
theorem dX5_againstMiddle_50 : decode cX5_againstMiddle 50 = .ok (.lconst 0, 1) := by decide +kernel
theorem dX5_againstMiddle_51 : decode cX5_againstMiddle 51 = .ok (.lconst 0, 1) := by decide +kernel
theorem dX5_againstMiddle_52 : decode cX5_againstMiddle 52 = .ok (.lload 4, 2) := by decide +kernel
theorem dX5_againstMiddle_54 : decode cX5_againstMiddle 54 = .ok (.invokevirtual 82, 3) := by decide +kernel
theorem dX5_againstMiddle_57 : decode cX5_againstMiddle 57 = .ok (.aload_n 0, 1) := by decide +kernel
theorem dX5_againstMiddle_58 : decode cX5_againstMiddle 58 = .ok (.getfield 27, 3) := by decide +kernel
theorem dX5_againstMiddle_61 : decode cX5_againstMiddle 61 = .ok (.invokevirtual 86, 3) := by decide +kernel
theorem dX5_againstMiddle_64 : decode cX5_againstMiddle 64 = .ok (.ifCond .ne 7, 3) := by decide +kernel
theorem dX5_againstMiddle_67 : decode cX5_againstMiddle 67 = .ok (.ldc2_w 55, 3) := by decide +kernel
theorem dX5_againstMiddle_70 : decode cX5_againstMiddle 70 = .ok (.lreturn, 1) := by decide +kernel
theorem dX5_againstMiddle_71 : decode cX5_againstMiddle 71 = .ok (.aload_n 0, 1) := by decide +kernel
theorem dX5_againstMiddle_72 : decode cX5_againstMiddle 72 = .ok (.getfield 34, 3) := by decide +kernel
theorem dX5_againstMiddle_75 : decode cX5_againstMiddle 75 = .ok (.aload_n 0, 1) := by decide +kernel
theorem dX5_againstMiddle_76 : decode cX5_againstMiddle 76 = .ok (.getfield 27, 3) := by decide +kernel
theorem dX5_againstMiddle_79 : decode cX5_againstMiddle 79 = .ok (.getfield 90, 3) := by decide +kernel
theorem dX5_againstMiddle_82 : decode cX5_againstMiddle 82 = .ok (.aload_n 0, 1) := by decide +kernel
theorem dX5_againstMiddle_83 : decode cX5_againstMiddle 83 = .ok (.getfield 27, 3) := by decide +kernel
theorem dX5_againstMiddle_86 : decode cX5_againstMiddle 86 = .ok (.getfield 93, 3) := by decide +kernel
theorem dX5_againstMiddle_89 : decode cX5_againstMiddle 89 = .ok (.invokevirtual 96, 3) := by decide +kernel
theorem dX5_againstMiddle_92 : decode cX5_againstMiddle 92 = .ok (.aload_n 1, 1) := by decide +kernel
theorem dX5_againstMiddle_93 : decode cX5_againstMiddle 93 = .ok (.aload_n 0, 1) := by decide +kernel
theorem dX5_againstMiddle_94 : decode cX5_againstMiddle 94 = .ok (.getfield 34, 3) := by decide +kernel
theorem dX5_againstMiddle_97 : decode cX5_againstMiddle 97 = .ok (.invokevirtual 100, 3) := by decide +kernel
theorem dX5_againstMiddle_100 : decode cX5_againstMiddle 100 = .ok (.lreturn, 1) := by decide +kernel
theorem dX5_upperIsSimpler_0 : decode cX5_upperIsSimpler 0 = .ok (.aload_n 0, 1) := by decide +kernel
theorem dX5_upperIsSimpler_1 : decode cX5_upperIsSimpler 1 = .ok (.getfield 21, 3) := by decide +kernel
theorem dX5_upperIsSimpler_4 : decode cX5_upperIsSimpler 4 = .ok (.aload_n 0, 1) := by decide +kernel
theorem dX5_upperIsSimpler_5 : decode cX5_upperIsSimpler 5 = .ok (.getfield 15, 3) := by decide +kernel
theorem dX5_upperIsSimpler_8 : decode cX5_upperIsSimpler 8 = .ok (.lcmp, 1) := by decide +kernel
theorem dX5_upperIsSimpler_9 : decode cX5_upperIsSimpler 9 = .ok (.ifCond .ge 7, 3) := by decide +kernel
theorem dX5_upperIsSimpler_12 : decode cX5_upperIsSimpler 12 = .ok (.iconst 1, 1) := by decide +kernel
theorem dX5_upperIsSimpler_13 : decode cX5_upperIsSimpler 13 = .ok (.goto 4, 3) := by decide +kernel
theorem dX5_upperIsSimpler_16 : decode cX5_upperIsSimpler 16 = .ok (.iconst 0, 1) := by decide +kernel
theorem dX5_upperIsSimpler_17 : decode cX5_upperIsSimpler 17 = .ok (.ireturn, 1) := by decide +kernel
theorem dX5_tell_0 : decode cX5_tell 0 = .ok (.iload_n 1, 1) := by decide +kernel
theorem dX5_tell_1 : decode cX5_tell 1 = .ok (.ifCond .eq 19, 3) := by decide +kernel
theorem dX5_tell_4 : decode cX5_tell 4 = .ok (.iload_n 2, 1) := by decide +kernel
theorem dX5_tell_5 : decode cX5_tell 5 = .ok (.ifCond .ne 10, 3) := by decide +kernel
theorem dX5_tell_8 : decode cX5_tell 8 = .ok (.aload_n 0, 1) := by decide +kernel
theorem dX5_tell_9 : decode cX5_tell 9 = .ok (.getfield 18, 3) := by decide +kernel
theorem dX5_tell_12 : decode cX5_tell 12 = .ok (.goto 7, 3) := by decide +kernel
theorem dX5_tell_15 : decode cX5_tell 15 = .ok (.aload_n 0, 1) := by decide +kernel
theorem dX5_tell_16 : decode cX5_tell 16 = .ok (.getfield 21, 3) := by decide +kernel
theorem dX5_tell_19 : decode cX5_tell 19 = .ok (.lreturn, 1) := by decide +kernel
theorem dX5_tell_20 : decode cX5_tell 20 = .ok (.iload_n 2, 1) := by decide +kernel
theorem dX5_tell_21 : decode cX5_tell 21 = .ok (.ifCond .ne 10, 3) := by decide +kernel
theorem dX5_tell_24 : decode cX5_tell 24 = .ok (.aload_n 0, 1) := by decide +kernel
theorem dX5_tell_25 : decode cX5_tell 25 = .ok (.getfield 9, 3) := by decide +kernel
theorem dX5_tell_28 : decode cX5_tell 28 = .ok (.goto 7, 3) := by decide +kernel
theorem dX5_tell_31 : decode cX5_tell 31 = .ok (.aload_n 0, 1) := by decide +kernel
theorem dX5_tell_32 : decode cX5_tell 32 = .ok (.getfield 15, 3) := by decide +kernel
theorem dX5_tell_35 : decode cX5_tell 35 = .ok (.lreturn, 1) := by decide +kernel
theorem dX7_becomeRoot_0 : decode cX7_becomeRoot 0 = .ok (.aload_n 0, 1) := by decide +kernel
theorem dX7_becomeRoot_1 : decode cX7_becomeRoot 1 = .ok (.iconst 1, 1) := by decide +kernel
theorem dX7_becomeRoot_2 : decode cX7_becomeRoot 2 = .ok (.invokevirtual 45, 3) := by decide +kernel
theorem dX7_becomeRoot_5 : decode cX7_becomeRoot 5 = .ok (.aload_n 0, 1) := by decide +kernel
theorem dX7_becomeRoot_6 : decode cX7_becomeRoot 6 = .ok (.aload_n 1, 1) := by decide +kernel
theorem dX7_becomeRoot_7 : decode cX7_becomeRoot 7 = .ok (.getfield 59, 3) := by decide +kernel
theorem dX7_becomeRoot_10 : decode cX7_becomeRoot 10 = .ok (.putfield 32, 3) := by decide +kernel
theorem dX7_becomeRoot_13 : decode cX7_becomeRoot 13 = .ok (.aload_n 0, 1) := by decide +kernel
theorem dX7_becomeRoot_14 : decode cX7_becomeRoot 14 = .ok (.aload_n 1, 1) := by decide +kernel
theorem dX7_becomeRoot_15 : decode cX7_becomeRoot 15 = .ok (.getfield 62, 3) := by decide +kernel
theorem dX7_becomeRoot_18 : decode cX7_becomeRoot 18 = .ok (.putfield 36, 3) := by decide +kernel
theorem dX7_becomeRoot_21 : decode cX7_becomeRoot 21 = .ok (.aload_n 0, 1) := by decide +kernel
theorem dX7_becomeRoot_22 : decode cX7_becomeRoot 22 = .ok (.aload_n 1, 1) := by decide +kernel
theorem dX7_becomeRoot_23 : decode cX7_becomeRoot 23 = .ok (.getfield 63, 3) := by decide +kernel
theorem dX7_becomeRoot_26 : decode cX7_becomeRoot 26 = .ok (.putfield 39, 3) := by decide +kernel
theorem dX7_becomeRoot_29 : decode cX7_becomeRoot 29 = .ok (.aload_n 0, 1) := by decide +kernel
theorem dX7_becomeRoot_30 : decode cX7_becomeRoot 30 = .ok (.aload_n 1, 1) := by decide +kernel
theorem dX7_becomeRoot_31 : decode cX7_becomeRoot 31 = .ok (.getfield 64, 3) := by decide +kernel
theorem dX7_becomeRoot_34 : decode cX7_becomeRoot 34 = .ok (.putfield 42, 3) := by decide +kernel
theorem dX7_becomeRoot_37 : decode cX7_becomeRoot 37 = .ok (.aload_n 2, 1) := by decide +kernel
theorem dX7_becomeRoot_38 : decode cX7_becomeRoot 38 = .ok (.aload_n 0, 1) := by decide +kernel
theorem dX7_becomeRoot_39 : decode cX7_becomeRoot 39 = .ok (.invokevirtual 65, 3) := by decide +kernel
theorem dX7_becomeRoot_42 : decode cX7_becomeRoot 42 = .ok (.iconst 0, 1) := by decide +kernel
theorem dX7_becomeRoot_43 : decode cX7_becomeRoot 43 = .ok (.istore_n 3, 1) := by decide +kernel
theorem dX7_becomeRoot_44 : decode cX7_becomeRoot 44 = .ok (.iload_n 3, 1) := by decide +kernel
theorem dX7_becomeRoot_45 : decode cX7_becomeRoot 45 = .ok (.bipush 60, 2) := by decide +kernel
theorem dX7_becomeRoot_47 : decode cX7_becomeRoot 47 = .ok (.if_icmp .ge 19, 3) := by decide +kernel
theorem dX7_becomeRoot_50 : decode cX7_becomeRoot 50 = .ok (.aload_n 0, 1) := by decide +kernel
theorem dX7_becomeRoot_51 : decode cX7_becomeRoot 51 = .ok (.aload_n 2, 1) := by decide +kernel
theorem dX7_becomeRoot_52 : decode cX7_becomeRoot 52 = .ok (.getfield 71, 3) := by decide +kernel
theorem dX7_becomeRoot_55 : decode cX7_becomeRoot 55 = .ok (.iload_n 3, 1) := by decide +kernel
theorem dX7_becomeRoot_56 : decode cX7_becomeRoot 56 = .ok (.laload, 1) := by decide +kernel
theorem dX7_becomeRoot_57 : decode cX7_becomeRoot 57 = .ok (.invokevirtual 55, 3) := by decide +kernel
theorem dX7_becomeRoot_60 : decode cX7_becomeRoot 60 = .ok (.iinc 3 1, 3) := by decide +kernel
theorem dX7_becomeRoot_63 : decode cX7_becomeRoot 63 = .ok (.goto (-19), 3) := by decide +kernel
theorem dX7_becomeRoot_66 : decode cX7_becomeRoot 66 = .ok (.return_, 1) := by decide +kernel
theorem dX7_isSameRoot_0 : decode cX7_isSameRoot 0 = .ok (.aload_n 0, 1) := by decide +kernel
theorem dX7_isSameRoot_1 : decode cX7_isSameRoot 1 = .ok (.getfield 19, 3) := by decide +kernel
theorem dX7_isSameRoot_4 : decode cX7_isSameRoot 4 = .ok (.iconst 1, 1) := by decide +kernel
theorem dX7_isSameRoot_5 : decode cX7_isSameRoot 5 = .ok (.if_icmp .ne 63, 3) := by decide +kernel
theorem dX7_isSameRoot_8 : decode cX7_isSameRoot 8 = .ok (.aload_n 1, 1) := by decide +kernel
theorem dX7_isSameRoot_9 : decode cX7_isSameRoot 9 = .ok (.getfield 19, 3) := by decide +kernel
theorem dX7_isSameRoot_12 : decode cX7_isSameRoot 12 = .ok (.iconst 1, 1) := by decide +kernel
theorem dX7_isSameRoot_13 : decode cX7_isSameRoot 13 = .ok (.if_icmp .ne 55, 3) := by decide +kernel
theorem dX7_isSameRoot_16 : decode cX7_isSameRoot 16 = .ok (.aload_n 0, 1) := by decide +kernel
theorem dX7_isSameRoot_17 : decode cX7_isSameRoot 17 = .ok (.getfield 32, 3) := by decide +kernel
theorem dX7_isSameRoot_20 : decode cX7_isSameRoot 20 = .ok (.aload_n 1, 1) := by decide +kernel
theorem dX7_isSameRoot_21 : decode cX7_isSameRoot 21 = .ok (.getfield 32, 3) := by decide +kernel
theorem dX7_isSameRoot_24 : decode cX7_isSameRoot 24 = .ok (.lcmp, 1) := by decide +kernel
theorem dX7_isSameRoot_25 : decode cX7_isSameRoot 25 = .ok (.ifCond .ne 43, 3) := by decide +kernel
theorem dX7_isSameRoot_28 : decode cX7_isSameRoot 28 = .ok (.aload_n 0, 1) := by decide +kernel
theorem dX7_isSameRoot_29 : decode cX7_isSameRoot 29 = .ok (.getfield 36, 3) := by decide +kernel
theorem dX7_isSameRoot_32 : decode cX7_isSameRoot 32 = .ok (.aload_n 1, 1) := by decide +kernel
theorem dX7_isSameRoot_33 : decode cX7_isSameRoot 33 = .ok (.getfield 36, 3) := by decide +kernel
theorem dX7_isSameRoot_36 : decode cX7_isSameRoot 36 = .ok (.lcmp, 1) := by decide +kernel
theorem dX7_isSameRoot_37 : decode cX7_isSameRoot 37 = .ok (.ifCond .ne 31, 3) := by decide +kernel
theorem dX7_isSameRoot_40 : decode cX7_isSameRoot 40 = .ok (.aload_n 0, 1) := by decide +kernel
theorem dX7_isSameRoot_41 : decode cX7_isSameRoot 41 = .ok (.getfield 39, 3) := by decide +kernel
theorem dX7_isSameRoot_44 : decode cX7_isSameRoot 44 = .ok (.aload_n 1, 1) := by decide +kernel
theorem dX7_isSameRoot_45 : decode cX7_isSameRoot 45 = .ok (.getfield 39, 3) := by decide +kernel
theorem dX7_isSameRoot_48 : decode cX7_isSameRoot 48 = .ok (.lcmp, 1) := by decide +kernel
theorem dX7_isSameRoot_49 : decode cX7_isSameRoot 49 = .ok (.ifCond .ne 19, 3) := by decide +kernel
theorem dX7_isSameRoot_52 : decode cX7_isSameRoot 52 = .ok (.aload_n 0, 1) := by decide +kernel
theorem dX7_isSameRoot_53 : decode cX7_isSameRoot 53 = .ok (.getfield 42, 3) := by decide +kernel
theorem dX7_isSameRoot_56 : decode cX7_isSameRoot 56 = .ok (.aload_n 1, 1) := by decide +kernel
theorem dX7_isSameRoot_57 : decode cX7_isSameRoot 57 = .ok (.getfield 42, 3) := by decide +kernel
theorem dX7_isSameRoot_60 : decode cX7_isSameRoot 60 = .ok (.lcmp, 1) := by decide +kernel
theorem dX7_isSameRoot_61 : decode cX7_isSameRoot 61 = .ok (.ifCond .ne 7, 3) := by decide +kernel
theorem dX7_isSameRoot_64 : decode cX7_isSameRoot 64 = .ok (.iconst 1, 1) := by decide +kernel
theorem dX7_isSameRoot_65 : decode cX7_isSameRoot 65 = .ok (.goto 4, 3) := by decide +kernel
theorem dX7_isSameRoot_68 : decode cX7_isSameRoot 68 = .ok (.iconst 0, 1) := by decide +kernel
theorem dX7_isSameRoot_69 : decode cX7_isSameRoot 69 = .ok (.ireturn, 1) := by decide +kernel
theorem dX7_heldAgainst_0 : decode cX7_heldAgainst 0 = .ok (.iconst 0, 1) := by decide +kernel
theorem dX7_heldAgainst_1 : decode cX7_heldAgainst 1 = .ok (.istore_n 2, 1) := by decide +kernel
theorem dX7_heldAgainst_2 : decode cX7_heldAgainst 2 = .ok (.iload_n 2, 1) := by decide +kernel
theorem dX7_heldAgainst_3 : decode cX7_heldAgainst 3 = .ok (.bipush 60, 2) := by decide +kernel
theorem dX7_heldAgainst_5 : decode cX7_heldAgainst 5 = .ok (.if_icmp .gt 153, 3) := by decide +kernel
theorem dX7_heldAgainst_8 : decode cX7_heldAgainst 8 = .ok (.iload_n 2, 1) := by decide +kernel
theorem dX7_heldAgainst_9 : decode cX7_heldAgainst 9 = .ok (.aload_n 0, 1) := by decide +kernel
theorem dX7_heldAgainst_10 : decode cX7_heldAgainst 10 = .ok (.getfield 23, 3) := by decide +kernel
theorem dX7_heldAgainst_13 : decode cX7_heldAgainst 13 = .ok (.if_icmp .lt 7, 3) := by decide +kernel
theorem dX7_heldAgainst_16 : decode cX7_heldAgainst 16 = .ok (.iconst 1, 1) := by decide +kernel
theorem dX7_heldAgainst_17 : decode cX7_heldAgainst 17 = .ok (.goto 4, 3) := by decide +kernel
theorem dX7_heldAgainst_20 : decode cX7_heldAgainst 20 = .ok (.iconst 0, 1) := by decide +kernel
theorem dX7_heldAgainst_21 : decode cX7_heldAgainst 21 = .ok (.istore_n 3, 1) := by decide +kernel
theorem dX7_heldAgainst_22 : decode cX7_heldAgainst 22 = .ok (.iload_n 2, 1) := by decide +kernel
theorem dX7_heldAgainst_23 : decode cX7_heldAgainst 23 = .ok (.aload_n 1, 1) := by decide +kernel
theorem dX7_heldAgainst_24 : decode cX7_heldAgainst 24 = .ok (.getfield 23, 3) := by decide +kernel
theorem dX7_heldAgainst_27 : decode cX7_heldAgainst 27 = .ok (.if_icmp .lt 7, 3) := by decide +kernel
theorem dX7_heldAgainst_30 : decode cX7_heldAgainst 30 = .ok (.iconst 1, 1) := by decide +kernel
theorem dX7_heldAgainst_31 : decode cX7_heldAgainst 31 = .ok (.goto 4, 3) := by decide +kernel
theorem dX7_heldAgainst_34 : decode cX7_heldAgainst 34 = .ok (.iconst 0, 1) := by decide +kernel
theorem dX7_heldAgainst_35 : decode cX7_heldAgainst 35 = .ok (.istore 4, 2) := by decide +kernel
theorem dX7_heldAgainst_37 : decode cX7_heldAgainst 37 = .ok (.iload_n 3, 1) := by decide +kernel
theorem dX7_heldAgainst_38 : decode cX7_heldAgainst 38 = .ok (.ifCond .eq 10, 3) := by decide +kernel
theorem dX7_heldAgainst_41 : decode cX7_heldAgainst 41 = .ok (.aload_n 0, 1) := by decide +kernel
theorem dX7_heldAgainst_42 : decode cX7_heldAgainst 42 = .ok (.getfield 26, 3) := by decide +kernel
theorem dX7_heldAgainst_45 : decode cX7_heldAgainst 45 = .ok (.ifCond .eq 15, 3) := by decide +kernel
theorem dX7_heldAgainst_48 : decode cX7_heldAgainst 48 = .ok (.iload 4, 2) := by decide +kernel
theorem dX7_heldAgainst_50 : decode cX7_heldAgainst 50 = .ok (.ifCond .eq 14, 3) := by decide +kernel
theorem dX7_heldAgainst_53 : decode cX7_heldAgainst 53 = .ok (.aload_n 1, 1) := by decide +kernel
theorem dX7_heldAgainst_54 : decode cX7_heldAgainst 54 = .ok (.getfield 26, 3) := by decide +kernel
theorem dX7_heldAgainst_57 : decode cX7_heldAgainst 57 = .ok (.ifCond .ne 7, 3) := by decide +kernel
theorem dX7_heldAgainst_60 : decode cX7_heldAgainst 60 = .ok (.ldc2_w 74, 3) := by decide +kernel
theorem dX7_heldAgainst_63 : decode cX7_heldAgainst 63 = .ok (.lreturn, 1) := by decide +kernel
theorem dX7_heldAgainst_64 : decode cX7_heldAgainst 64 = .ok (.iload_n 3, 1) := by decide +kernel
theorem dX7_heldAgainst_65 : decode cX7_heldAgainst 65 = .ok (.ifCond .eq 10, 3) := by decide +kernel
theorem dX7_heldAgainst_68 : decode cX7_heldAgainst 68 = .ok (.iload 4, 2) := by decide +kernel
theorem dX7_heldAgainst_70 : decode cX7_heldAgainst 70 = .ok (.ifCond .eq 5, 3) := by decide +kernel
theorem dX7_heldAgainst_73 : decode cX7_heldAgainst 73 = .ok (.lconst 0, 1) := by decide +kernel
theorem dX7_heldAgainst_74 : decode cX7_heldAgainst 74 = .ok (.lreturn, 1) := by decide +kernel
theorem dX7_heldAgainst_75 : decode cX7_heldAgainst 75 = .ok (.iload_n 3, 1) := by decide +kernel
theorem dX7_heldAgainst_76 : decode cX7_heldAgainst 76 = .ok (.ifCond .ne 22, 3) := by decide +kernel
theorem dX7_heldAgainst_79 : decode cX7_heldAgainst 79 = .ok (.iload 4, 2) := by decide +kernel
theorem dX7_heldAgainst_81 : decode cX7_heldAgainst 81 = .ok (.ifCond .ne 17, 3) := by decide +kernel
theorem dX7_heldAgainst_84 : decode cX7_heldAgainst 84 = .ok (.aload_n 0, 1) := by decide +kernel
theorem dX7_heldAgainst_85 : decode cX7_heldAgainst 85 = .ok (.iload_n 2, 1) := by decide +kernel
theorem dX7_heldAgainst_86 : decode cX7_heldAgainst 86 = .ok (.invokevirtual 76, 3) := by decide +kernel
theorem dX7_heldAgainst_89 : decode cX7_heldAgainst 89 = .ok (.aload_n 1, 1) := by decide +kernel
theorem dX7_heldAgainst_90 : decode cX7_heldAgainst 90 = .ok (.iload_n 2, 1) := by decide +kernel
theorem dX7_heldAgainst_91 : decode cX7_heldAgainst 91 = .ok (.invokevirtual 76, 3) := by decide +kernel
theorem dX7_heldAgainst_94 : decode cX7_heldAgainst 94 = .ok (.lcmp, 1) := by decide +kernel
theorem dX7_heldAgainst_95 : decode cX7_heldAgainst 95 = .ok (.ifCond .eq 57, 3) := by decide +kernel
theorem dX7_heldAgainst_98 : decode cX7_heldAgainst 98 = .ok (.iload 4, 2) := by decide +kernel
theorem dX7_heldAgainst_100 : decode cX7_heldAgainst 100 = .ok (.ifCond .ne 21, 3) := by decide +kernel
theorem dX7_heldAgainst_103 : decode cX7_heldAgainst 103 = .ok (.iload_n 3, 1) := by decide +kernel
theorem dX7_heldAgainst_104 : decode cX7_heldAgainst 104 = .ok (.ifCond .ne 21, 3) := by decide +kernel
theorem dX7_heldAgainst_107 : decode cX7_heldAgainst 107 = .ok (.aload_n 0, 1) := by decide +kernel
theorem dX7_heldAgainst_108 : decode cX7_heldAgainst 108 = .ok (.iload_n 2, 1) := by decide +kernel
theorem dX7_heldAgainst_109 : decode cX7_heldAgainst 109 = .ok (.invokevirtual 76, 3) := by decide +kernel
theorem dX7_heldAgainst_112 : decode cX7_heldAgainst 112 = .ok (.aload_n 1, 1) := by decide +kernel
theorem dX7_heldAgainst_113 : decode cX7_heldAgainst 113 = .ok (.iload_n 2, 1) := by decide +kernel
theorem dX7_heldAgainst_114 : decode cX7_heldAgainst 114 = .ok (.invokevirtual 76, 3) := by decide +kernel
theorem dX7_heldAgainst_117 : decode cX7_heldAgainst 117 = .ok (.lcmp, 1) := by decide +kernel
theorem dX7_heldAgainst_118 : decode cX7_heldAgainst 118 = .ok (.ifCond .ge 7, 3) := by decide +kernel
theorem dX7_heldAgainst_121 : decode cX7_heldAgainst 121 = .ok (.iconst 1, 1) := by decide +kernel
theorem dX7_heldAgainst_122 : decode cX7_heldAgainst 122 = .ok (.goto 4, 3) := by decide +kernel
theorem dX7_heldAgainst_125 : decode cX7_heldAgainst 125 = .ok (.iconst 0, 1) := by decide +kernel
theorem dX7_heldAgainst_126 : decode cX7_heldAgainst 126 = .ok (.istore 5, 2) := by decide +kernel
theorem dX7_heldAgainst_128 : decode cX7_heldAgainst 128 = .ok (.iload 5, 2) := by decide +kernel
theorem dX7_heldAgainst_130 : decode cX7_heldAgainst 130 = .ok (.iload_n 2, 1) := by decide +kernel
theorem dX7_heldAgainst_131 : decode cX7_heldAgainst 131 = .ok (.iconst 2, 1) := by decide +kernel
theorem dX7_heldAgainst_132 : decode cX7_heldAgainst 132 = .ok (.irem, 1) := by decide +kernel
theorem dX7_heldAgainst_133 : decode cX7_heldAgainst 133 = .ok (.ifCond .ne 7, 3) := by decide +kernel
theorem dX7_heldAgainst_136 : decode cX7_heldAgainst 136 = .ok (.iconst 1, 1) := by decide +kernel
theorem dX7_heldAgainst_137 : decode cX7_heldAgainst 137 = .ok (.goto 4, 3) := by decide +kernel
theorem dX7_heldAgainst_140 : decode cX7_heldAgainst 140 = .ok (.iconst 0, 1) := by decide +kernel
theorem dX7_heldAgainst_141 : decode cX7_heldAgainst 141 = .ok (.if_icmp .ne 9, 3) := by decide +kernel
theorem dX7_heldAgainst_144 : decode cX7_heldAgainst 144 = .ok (.ldc2_w 80, 3) := by decide +kernel
theorem dX7_heldAgainst_147 : decode cX7_heldAgainst 147 = .ok (.goto 4, 3) := by decide +kernel
theorem dX7_heldAgainst_150 : decode cX7_heldAgainst 150 = .ok (.lconst 1, 1) := by decide +kernel
theorem dX7_heldAgainst_151 : decode cX7_heldAgainst 151 = .ok (.lreturn, 1) := by decide +kernel
theorem dX7_heldAgainst_152 : decode cX7_heldAgainst 152 = .ok (.iinc 2 1, 3) := by decide +kernel
theorem dX7_heldAgainst_155 : decode cX7_heldAgainst 155 = .ok (.goto (-153), 3) := by decide +kernel
theorem dX7_heldAgainst_158 : decode cX7_heldAgainst 158 = .ok (.ldc2_w 74, 3) := by decide +kernel
theorem dX7_heldAgainst_161 : decode cX7_heldAgainst 161 = .ok (.lreturn, 1) := by decide +kernel
theorem dX8_act_0 : decode cX8_act 0 = .ok (.aload_n 0, 1) := by decide +kernel
theorem dX8_act_1 : decode cX8_act 1 = .ok (.iload_n 2, 1) := by decide +kernel
theorem dX8_act_2 : decode cX8_act 2 = .ok (.invokevirtual 118, 3) := by decide +kernel
theorem dX8_act_5 : decode cX8_act 5 = .ok (.astore 4, 2) := by decide +kernel
theorem dX8_act_7 : decode cX8_act 7 = .ok (.aload_n 0, 1) := by decide +kernel
theorem dX8_act_8 : decode cX8_act 8 = .ok (.iload_n 3, 1) := by decide +kernel
theorem dX8_act_9 : decode cX8_act 9 = .ok (.invokevirtual 118, 3) := by decide +kernel
theorem dX8_act_12 : decode cX8_act 12 = .ok (.astore 5, 2) := by decide +kernel
theorem dX8_act_14 : decode cX8_act 14 = .ok (.aload 4, 2) := by decide +kernel
theorem dX8_act_16 : decode cX8_act 16 = .ok (.ifnull 8, 3) := by decide +kernel
theorem dX8_act_19 : decode cX8_act 19 = .ok (.aload 5, 2) := by decide +kernel
theorem dX8_act_21 : decode cX8_act 21 = .ok (.ifnonnull 7, 3) := by decide +kernel
theorem dX8_act_24 : decode cX8_act 24 = .ok (.ldc2_w 122, 3) := by decide +kernel
theorem dX8_act_27 : decode cX8_act 27 = .ok (.lreturn, 1) := by decide +kernel
theorem dX8_act_28 : decode cX8_act 28 = .ok (.iload_n 1, 1) := by decide +kernel
theorem dX8_act_29 : decode cX8_act 29 = .ok (.ifCond .lt 8, 3) := by decide +kernel
theorem dX8_act_32 : decode cX8_act 32 = .ok (.iload_n 1, 1) := by decide +kernel
theorem dX8_act_33 : decode cX8_act 33 = .ok (.iconst 3, 1) := by decide +kernel
theorem dX8_act_34 : decode cX8_act 34 = .ok (.if_icmp .le 7, 3) := by decide +kernel
theorem dX8_act_37 : decode cX8_act 37 = .ok (.ldc2_w 84, 3) := by decide +kernel
theorem dX8_act_40 : decode cX8_act 40 = .ok (.lreturn, 1) := by decide +kernel
theorem dX8_act_41 : decode cX8_act 41 = .ok (.iload_n 1, 1) := by decide +kernel
theorem dX8_act_42 : decode cX8_act 42 = .ok (.iconst 3, 1) := by decide +kernel
theorem dX8_act_43 : decode cX8_act 43 = .ok (.if_icmp .ne 15, 3) := by decide +kernel
theorem dX8_act_46 : decode cX8_act 46 = .ok (.aload 5, 2) := by decide +kernel
theorem dX8_act_48 : decode cX8_act 48 = .ok (.invokevirtual 124, 3) := by decide +kernel
theorem dX8_act_51 : decode cX8_act 51 = .ok (.ifCond .eq 7, 3) := by decide +kernel
theorem dX8_act_54 : decode cX8_act 54 = .ok (.ldc2_w 109, 3) := by decide +kernel
theorem dX8_act_57 : decode cX8_act 57 = .ok (.lreturn, 1) := by decide +kernel
theorem dX8_act_58 : decode cX8_act 58 = .ok (.aload_n 0, 1) := by decide +kernel
theorem dX8_act_59 : decode cX8_act 59 = .ok (.invokevirtual 86, 3) := by decide +kernel
theorem dX8_act_62 : decode cX8_act 62 = .ok (.istore 6, 2) := by decide +kernel
theorem dX8_act_64 : decode cX8_act 64 = .ok (.iload 6, 2) := by decide +kernel
theorem dX8_act_66 : decode cX8_act 66 = .ok (.iconst (-1), 1) := by decide +kernel
theorem dX8_act_67 : decode cX8_act 67 = .ok (.if_icmp .ne 7, 3) := by decide +kernel
theorem dX8_act_70 : decode cX8_act 70 = .ok (.ldc2_w 90, 3) := by decide +kernel
theorem dX8_act_73 : decode cX8_act 73 = .ok (.lreturn, 1) := by decide +kernel
theorem dX8_act_74 : decode cX8_act 74 = .ok (.aload 4, 2) := by decide +kernel
theorem dX8_act_76 : decode cX8_act 76 = .ok (.aload 5, 2) := by decide +kernel
theorem dX8_act_78 : decode cX8_act 78 = .ok (.invokestatic 128, 3) := by decide +kernel
theorem dX8_act_81 : decode cX8_act 81 = .ok (.ifCond .eq 22, 3) := by decide +kernel
theorem dX8_act_84 : decode cX8_act 84 = .ok (.aload_n 0, 1) := by decide +kernel
theorem dX8_act_85 : decode cX8_act 85 = .ok (.getfield 37, 3) := by decide +kernel
theorem dX8_act_88 : decode cX8_act 88 = .ok (.iload_n 1, 1) := by decide +kernel
theorem dX8_act_89 : decode cX8_act 89 = .ok (.aload 4, 2) := by decide +kernel
theorem dX8_act_91 : decode cX8_act 91 = .ok (.aload 5, 2) := by decide +kernel
theorem dX8_act_93 : decode cX8_act 93 = .ok (.invokevirtual 132, 3) := by decide +kernel
theorem dX8_act_96 : decode cX8_act 96 = .ok (.aload_n 0, 1) := by decide +kernel
theorem dX8_act_97 : decode cX8_act 97 = .ok (.iload 6, 2) := by decide +kernel
theorem dX8_act_99 : decode cX8_act 99 = .ok (.invokevirtual 96, 3) := by decide +kernel
theorem dX8_act_102 : decode cX8_act 102 = .ok (.lreturn, 1) := by decide +kernel
theorem dX8_act_103 : decode cX8_act 103 = .ok (.aload_n 0, 1) := by decide +kernel
theorem dX8_act_104 : decode cX8_act 104 = .ok (.getfield 51, 3) := by decide +kernel
theorem dX8_act_107 : decode cX8_act 107 = .ok (.iload_n 1, 1) := by decide +kernel
theorem dX8_act_108 : decode cX8_act 108 = .ok (.invokevirtual 136, 3) := by decide +kernel
theorem dX8_act_111 : decode cX8_act 111 = .ok (.aload_n 0, 1) := by decide +kernel
theorem dX8_act_112 : decode cX8_act 112 = .ok (.getfield 51, 3) := by decide +kernel
theorem dX8_act_115 : decode cX8_act 115 = .ok (.aload_n 0, 1) := by decide +kernel
theorem dX8_act_116 : decode cX8_act 116 = .ok (.getfield 11, 3) := by decide +kernel
theorem dX8_act_119 : decode cX8_act 119 = .ok (.iload 6, 2) := by decide +kernel
theorem dX8_act_121 : decode cX8_act 121 = .ok (.aaload, 1) := by decide +kernel
theorem dX8_act_122 : decode cX8_act 122 = .ok (.aload 4, 2) := by decide +kernel
theorem dX8_act_124 : decode cX8_act 124 = .ok (.aload 5, 2) := by decide +kernel
theorem dX8_act_126 : decode cX8_act 126 = .ok (.invokevirtual 140, 3) := by decide +kernel
theorem dX8_act_129 : decode cX8_act 129 = .ok (.aload_n 0, 1) := by decide +kernel
theorem dX8_act_130 : decode cX8_act 130 = .ok (.iload 6, 2) := by decide +kernel
theorem dX8_act_132 : decode cX8_act 132 = .ok (.invokevirtual 115, 3) := by decide +kernel
theorem dX8_act_135 : decode cX8_act 135 = .ok (.lreturn, 1) := by decide +kernel
theorem dX8_compare_0 : decode cX8_compare 0 = .ok (.aload_n 0, 1) := by decide +kernel
theorem dX8_compare_1 : decode cX8_compare 1 = .ok (.iload_n 1, 1) := by decide +kernel
theorem dX8_compare_2 : decode cX8_compare 2 = .ok (.invokevirtual 118, 3) := by decide +kernel
theorem dX8_compare_5 : decode cX8_compare 5 = .ok (.astore_n 3, 1) := by decide +kernel
theorem dX8_compare_6 : decode cX8_compare 6 = .ok (.aload_n 0, 1) := by decide +kernel
theorem dX8_compare_7 : decode cX8_compare 7 = .ok (.iload_n 2, 1) := by decide +kernel
theorem dX8_compare_8 : decode cX8_compare 8 = .ok (.invokevirtual 118, 3) := by decide +kernel
theorem dX8_compare_11 : decode cX8_compare 11 = .ok (.astore 4, 2) := by decide +kernel
theorem dX8_compare_13 : decode cX8_compare 13 = .ok (.aload_n 3, 1) := by decide +kernel
theorem dX8_compare_14 : decode cX8_compare 14 = .ok (.ifnull 8, 3) := by decide +kernel
theorem dX8_compare_17 : decode cX8_compare 17 = .ok (.aload 4, 2) := by decide +kernel
theorem dX8_compare_19 : decode cX8_compare 19 = .ok (.ifnonnull 7, 3) := by decide +kernel
theorem dX8_compare_22 : decode cX8_compare 22 = .ok (.ldc2_w 122, 3) := by decide +kernel
theorem dX8_compare_25 : decode cX8_compare 25 = .ok (.lreturn, 1) := by decide +kernel
theorem dX8_compare_26 : decode cX8_compare 26 = .ok (.aload_n 3, 1) := by decide +kernel
theorem dX8_compare_27 : decode cX8_compare 27 = .ok (.aload 4, 2) := by decide +kernel
theorem dX8_compare_29 : decode cX8_compare 29 = .ok (.invokevirtual 210, 3) := by decide +kernel
theorem dX8_compare_32 : decode cX8_compare 32 = .ok (.ifCond .eq 5, 3) := by decide +kernel
theorem dX8_compare_35 : decode cX8_compare 35 = .ok (.lconst 0, 1) := by decide +kernel
theorem dX8_compare_36 : decode cX8_compare 36 = .ok (.lreturn, 1) := by decide +kernel
theorem dX8_compare_37 : decode cX8_compare 37 = .ok (.aload_n 3, 1) := by decide +kernel
theorem dX8_compare_38 : decode cX8_compare 38 = .ok (.aload 4, 2) := by decide +kernel
theorem dX8_compare_40 : decode cX8_compare 40 = .ok (.invokevirtual 214, 3) := by decide +kernel
theorem dX8_compare_43 : decode cX8_compare 43 = .ok (.lreturn, 1) := by decide +kernel
theorem dX8_best_0 : decode cX8_best 0 = .ok (.aload_n 0, 1) := by decide +kernel
theorem dX8_best_1 : decode cX8_best 1 = .ok (.iload_n 1, 1) := by decide +kernel
theorem dX8_best_2 : decode cX8_best 2 = .ok (.invokevirtual 118, 3) := by decide +kernel
theorem dX8_best_5 : decode cX8_best 5 = .ok (.astore 5, 2) := by decide +kernel
theorem dX8_best_7 : decode cX8_best 7 = .ok (.aload 5, 2) := by decide +kernel
theorem dX8_best_9 : decode cX8_best 9 = .ok (.ifnonnull 7, 3) := by decide +kernel
theorem dX8_best_12 : decode cX8_best 12 = .ok (.ldc2_w 122, 3) := by decide +kernel
theorem dX8_best_15 : decode cX8_best 15 = .ok (.lreturn, 1) := by decide +kernel
theorem dX8_best_16 : decode cX8_best 16 = .ok (.iload_n 2, 1) := by decide +kernel
theorem dX8_best_17 : decode cX8_best 17 = .ok (.iconst 1, 1) := by decide +kernel
theorem dX8_best_18 : decode cX8_best 18 = .ok (.if_icmp .lt 29, 3) := by decide +kernel
theorem dX8_best_21 : decode cX8_best 21 = .ok (.iload_n 2, 1) := by decide +kernel
theorem dX8_best_22 : decode cX8_best 22 = .ok (.ldc 108, 2) := by decide +kernel
theorem dX8_best_24 : decode cX8_best 24 = .ok (.if_icmp .gt 23, 3) := by decide +kernel
theorem dX8_best_27 : decode cX8_best 27 = .ok (.iload_n 3, 1) := by decide +kernel
theorem dX8_best_28 : decode cX8_best 28 = .ok (.ifCond .lt 19, 3) := by decide +kernel
theorem dX8_best_31 : decode cX8_best 31 = .ok (.iload_n 3, 1) := by decide +kernel
theorem dX8_best_32 : decode cX8_best 32 = .ok (.iconst 2, 1) := by decide +kernel
theorem dX8_best_33 : decode cX8_best 33 = .ok (.if_icmp .gt 14, 3) := by decide +kernel
theorem dX8_best_36 : decode cX8_best 36 = .ok (.iload 4, 2) := by decide +kernel
theorem dX8_best_38 : decode cX8_best 38 = .ok (.ifCond .lt 9, 3) := by decide +kernel
theorem dX8_best_41 : decode cX8_best 41 = .ok (.iload 4, 2) := by decide +kernel
theorem dX8_best_43 : decode cX8_best 43 = .ok (.iconst 1, 1) := by decide +kernel
theorem dX8_best_44 : decode cX8_best 44 = .ok (.if_icmp .le 7, 3) := by decide +kernel
theorem dX8_best_47 : decode cX8_best 47 = .ok (.ldc2_w 84, 3) := by decide +kernel
theorem dX8_best_50 : decode cX8_best 50 = .ok (.lreturn, 1) := by decide +kernel
theorem dX8_best_51 : decode cX8_best 51 = .ok (.aload_n 0, 1) := by decide +kernel
theorem dX8_best_52 : decode cX8_best 52 = .ok (.getfield 58, 3) := by decide +kernel
theorem dX8_best_55 : decode cX8_best 55 = .ok (.aload 5, 2) := by decide +kernel
theorem dX8_best_57 : decode cX8_best 57 = .ok (.invokevirtual 218, 3) := by decide +kernel
theorem dX8_best_60 : decode cX8_best 60 = .ok (.aload_n 0, 1) := by decide +kernel
theorem dX8_best_61 : decode cX8_best 61 = .ok (.getfield 65, 3) := by decide +kernel
theorem dX8_best_64 : decode cX8_best 64 = .ok (.aload 5, 2) := by decide +kernel
theorem dX8_best_66 : decode cX8_best 66 = .ok (.aload_n 0, 1) := by decide +kernel
theorem dX8_best_67 : decode cX8_best 67 = .ok (.getfield 58, 3) := by decide +kernel
theorem dX8_best_70 : decode cX8_best 70 = .ok (.iload_n 2, 1) := by decide +kernel
theorem dX8_best_71 : decode cX8_best 71 = .ok (.i2l, 1) := by decide +kernel
theorem dX8_best_72 : decode cX8_best 72 = .ok (.invokevirtual 232, 3) := by decide +kernel
theorem dX8_best_75 : decode cX8_best 75 = .ok (.lstore 6, 2) := by decide +kernel
theorem dX8_best_77 : decode cX8_best 77 = .ok (.lload 6, 2) := by decide +kernel
theorem dX8_best_79 : decode cX8_best 79 = .ok (.lconst 0, 1) := by decide +kernel
theorem dX8_best_80 : decode cX8_best 80 = .ok (.lcmp, 1) := by decide +kernel
theorem dX8_best_81 : decode cX8_best 81 = .ok (.ifCond .eq 6, 3) := by decide +kernel
theorem dX8_best_84 : decode cX8_best 84 = .ok (.lload 6, 2) := by decide +kernel
theorem dX8_best_86 : decode cX8_best 86 = .ok (.lreturn, 1) := by decide +kernel
theorem dX8_best_87 : decode cX8_best 87 = .ok (.iload_n 3, 1) := by decide +kernel
theorem dX8_best_88 : decode cX8_best 88 = .ok (.ifCond .eq 23, 3) := by decide +kernel
theorem dX8_best_91 : decode cX8_best 91 = .ok (.aload_n 0, 1) := by decide +kernel
theorem dX8_best_92 : decode cX8_best 92 = .ok (.getfield 65, 3) := by decide +kernel
theorem dX8_best_95 : decode cX8_best 95 = .ok (.iload_n 3, 1) := by decide +kernel
theorem dX8_best_96 : decode cX8_best 96 = .ok (.iconst 2, 1) := by decide +kernel
theorem dX8_best_97 : decode cX8_best 97 = .ok (.if_icmp .ne 7, 3) := by decide +kernel
theorem dX8_best_100 : decode cX8_best 100 = .ok (.iconst 1, 1) := by decide +kernel
theorem dX8_best_101 : decode cX8_best 101 = .ok (.goto 4, 3) := by decide +kernel
theorem dX8_best_104 : decode cX8_best 104 = .ok (.iconst 0, 1) := by decide +kernel
theorem dX8_best_105 : decode cX8_best 105 = .ok (.iload 4, 2) := by decide +kernel
theorem dX8_best_107 : decode cX8_best 107 = .ok (.invokevirtual 236, 3) := by decide +kernel
theorem dX8_best_110 : decode cX8_best 110 = .ok (.lreturn, 1) := by decide +kernel
theorem dX8_best_111 : decode cX8_best 111 = .ok (.aload_n 0, 1) := by decide +kernel
theorem dX8_best_112 : decode cX8_best 112 = .ok (.getfield 65, 3) := by decide +kernel
theorem dX8_best_115 : decode cX8_best 115 = .ok (.aload 5, 2) := by decide +kernel
theorem dX8_best_117 : decode cX8_best 117 = .ok (.invokevirtual 240, 3) := by decide +kernel
theorem dX8_best_120 : decode cX8_best 120 = .ok (.lstore 8, 2) := by decide +kernel
theorem dX8_best_122 : decode cX8_best 122 = .ok (.lload 8, 2) := by decide +kernel
theorem dX8_best_124 : decode cX8_best 124 = .ok (.ldc2_w 224, 3) := by decide +kernel
theorem dX8_best_127 : decode cX8_best 127 = .ok (.lcmp, 1) := by decide +kernel
theorem dX8_best_128 : decode cX8_best 128 = .ok (.ifCond .eq 12, 3) := by decide +kernel
theorem dX8_best_131 : decode cX8_best 131 = .ok (.lload 8, 2) := by decide +kernel
theorem dX8_best_133 : decode cX8_best 133 = .ok (.ldc2_w 185, 3) := by decide +kernel
theorem dX8_best_136 : decode cX8_best 136 = .ok (.lcmp, 1) := by decide +kernel
theorem dX8_best_137 : decode cX8_best 137 = .ok (.ifCond .ne 6, 3) := by decide +kernel
theorem dX8_best_140 : decode cX8_best 140 = .ok (.lload 8, 2) := by decide +kernel
theorem dX8_best_142 : decode cX8_best 142 = .ok (.lreturn, 1) := by decide +kernel
theorem dX8_best_143 : decode cX8_best 143 = .ok (.aload_n 0, 1) := by decide +kernel
theorem dX8_best_144 : decode cX8_best 144 = .ok (.getfield 65, 3) := by decide +kernel
theorem dX8_best_147 : decode cX8_best 147 = .ok (.lload 8, 2) := by decide +kernel
theorem dX8_best_149 : decode cX8_best 149 = .ok (.lconst 0, 1) := by decide +kernel
theorem dX8_best_150 : decode cX8_best 150 = .ok (.lcmp, 1) := by decide +kernel
theorem dX8_best_151 : decode cX8_best 151 = .ok (.ifCond .gt 20, 3) := by decide +kernel
theorem dX8_best_154 : decode cX8_best 154 = .ok (.lload 8, 2) := by decide +kernel
theorem dX8_best_156 : decode cX8_best 156 = .ok (.lconst 0, 1) := by decide +kernel
theorem dX8_best_157 : decode cX8_best 157 = .ok (.lcmp, 1) := by decide +kernel
theorem dX8_best_158 : decode cX8_best 158 = .ok (.ifCond .ne 17, 3) := by decide +kernel
theorem dX8_best_161 : decode cX8_best 161 = .ok (.aload_n 0, 1) := by decide +kernel
theorem dX8_best_162 : decode cX8_best 162 = .ok (.getfield 65, 3) := by decide +kernel
theorem dX8_best_165 : decode cX8_best 165 = .ok (.invokevirtual 243, 3) := by decide +kernel
theorem dX8_best_168 : decode cX8_best 168 = .ok (.ifCond .eq 7, 3) := by decide +kernel
theorem dX8_best_171 : decode cX8_best 171 = .ok (.iconst 1, 1) := by decide +kernel
theorem dX8_best_172 : decode cX8_best 172 = .ok (.goto 4, 3) := by decide +kernel
theorem dX8_best_175 : decode cX8_best 175 = .ok (.iconst 0, 1) := by decide +kernel
theorem dX8_best_176 : decode cX8_best 176 = .ok (.iload 4, 2) := by decide +kernel
theorem dX8_best_178 : decode cX8_best 178 = .ok (.invokevirtual 236, 3) := by decide +kernel
theorem dX8_best_181 : decode cX8_best 181 = .ok (.lreturn, 1) := by decide +kernel
theorem dX8_placeOutcome_0 : decode cX8_placeOutcome 0 = .ok (.aload_n 0, 1) := by decide +kernel
theorem dX8_placeOutcome_1 : decode cX8_placeOutcome 1 = .ok (.getfield 37, 3) := by decide +kernel
theorem dX8_placeOutcome_4 : decode cX8_placeOutcome 4 = .ok (.invokevirtual 264, 3) := by decide +kernel
theorem dX8_placeOutcome_7 : decode cX8_placeOutcome 7 = .ok (.ifCond .ne 7, 3) := by decide +kernel
theorem dX8_placeOutcome_10 : decode cX8_placeOutcome 10 = .ok (.ldc2_w 224, 3) := by decide +kernel
theorem dX8_placeOutcome_13 : decode cX8_placeOutcome 13 = .ok (.lreturn, 1) := by decide +kernel
theorem dX8_placeOutcome_14 : decode cX8_placeOutcome 14 = .ok (.aload_n 0, 1) := by decide +kernel
theorem dX8_placeOutcome_15 : decode cX8_placeOutcome 15 = .ok (.getfield 11, 3) := by decide +kernel
theorem dX8_placeOutcome_18 : decode cX8_placeOutcome 18 = .ok (.iload_n 1, 1) := by decide +kernel
theorem dX8_placeOutcome_19 : decode cX8_placeOutcome 19 = .ok (.aaload, 1) := by decide +kernel
theorem dX8_placeOutcome_20 : decode cX8_placeOutcome 20 = .ok (.astore_n 2, 1) := by decide +kernel
theorem dX8_placeOutcome_21 : decode cX8_placeOutcome 21 = .ok (.aload_n 0, 1) := by decide +kernel
theorem dX8_placeOutcome_22 : decode cX8_placeOutcome 22 = .ok (.getfield 37, 3) := by decide +kernel
theorem dX8_placeOutcome_25 : decode cX8_placeOutcome 25 = .ok (.getfield 267, 3) := by decide +kernel
theorem dX8_placeOutcome_28 : decode cX8_placeOutcome 28 = .ok (.lconst 0, 1) := by decide +kernel
theorem dX8_placeOutcome_29 : decode cX8_placeOutcome 29 = .ok (.lcmp, 1) := by decide +kernel
theorem dX8_placeOutcome_30 : decode cX8_placeOutcome 30 = .ok (.ifCond .ne 24, 3) := by decide +kernel
theorem dX8_placeOutcome_33 : decode cX8_placeOutcome 33 = .ok (.aload_n 2, 1) := by decide +kernel
theorem dX8_placeOutcome_34 : decode cX8_placeOutcome 34 = .ok (.aload_n 0, 1) := by decide +kernel
theorem dX8_placeOutcome_35 : decode cX8_placeOutcome 35 = .ok (.getfield 37, 3) := by decide +kernel
theorem dX8_placeOutcome_38 : decode cX8_placeOutcome 38 = .ok (.getfield 270, 3) := by decide +kernel
theorem dX8_placeOutcome_41 : decode cX8_placeOutcome 41 = .ok (.aload_n 0, 1) := by decide +kernel
theorem dX8_placeOutcome_42 : decode cX8_placeOutcome 42 = .ok (.getfield 37, 3) := by decide +kernel
theorem dX8_placeOutcome_45 : decode cX8_placeOutcome 45 = .ok (.getfield 151, 3) := by decide +kernel
theorem dX8_placeOutcome_48 : decode cX8_placeOutcome 48 = .ok (.invokevirtual 76, 3) := by decide +kernel
theorem dX8_placeOutcome_51 : decode cX8_placeOutcome 51 = .ok (.goto 15, 3) := by decide +kernel
theorem dX8_placeOutcome_54 : decode cX8_placeOutcome 54 = .ok (.aload_n 2, 1) := by decide +kernel
theorem dX8_placeOutcome_55 : decode cX8_placeOutcome 55 = .ok (.aload_n 0, 1) := by decide +kernel
theorem dX8_placeOutcome_56 : decode cX8_placeOutcome 56 = .ok (.getfield 37, 3) := by decide +kernel
theorem dX8_placeOutcome_59 : decode cX8_placeOutcome 59 = .ok (.aload_n 0, 1) := by decide +kernel
theorem dX8_placeOutcome_60 : decode cX8_placeOutcome 60 = .ok (.getfield 44, 3) := by decide +kernel
theorem dX8_placeOutcome_63 : decode cX8_placeOutcome 63 = .ok (.invokevirtual 271, 3) := by decide +kernel
theorem dX8_placeOutcome_66 : decode cX8_placeOutcome 66 = .ok (.aload_n 0, 1) := by decide +kernel
theorem dX8_placeOutcome_67 : decode cX8_placeOutcome 67 = .ok (.iload_n 1, 1) := by decide +kernel
theorem dX8_placeOutcome_68 : decode cX8_placeOutcome 68 = .ok (.invokevirtual 115, 3) := by decide +kernel
theorem dX8_placeOutcome_71 : decode cX8_placeOutcome 71 = .ok (.lreturn, 1) := by decide +kernel
abbrev eX7_becomeRoot (G : GG) (R : Unit × AH) : EE := eM G 4 none false 4 105 0 0 none R.2
theorem wX7_becomeRoot_44 (G : GG) (hG : GT G) (R : Unit × AH) {K44 : Nat → Nat → Int32 → AH → Fn Unit} (hK44 : ∀ (l0 : Nat) (l2 : Nat) (l3 : Int32) (h : AH), K44 l0 l2 l3 h = some R → AW (eX7_becomeRoot G R) RX7 cX7_becomeRoot 44 [some (.ref (gB G + l0)), none, some (.ref (gB G + l2)), some (.int l3)] [] h 0 0) (l0 : Nat) (l2 : Nat) (l3 : Int32) (h : AH) (X : fX7_becomeRoot_44 K44 l0 l2 l3 h = some R) : AW (eX7_becomeRoot G R) RX7 cX7_becomeRoot 44 [some (.ref (gB G + l0)), none, some (.ref (gB G + l2)), some (.int l3)] [] h 0 0 := by
  unfold fX7_becomeRoot_44 at X
  refine r_ild3 45 dX7_becomeRoot_44 rfl ?_
  refine r_bipush 47 _ dX7_becomeRoot_45 rfl kb_60 ?_
  refine r_icmp_ge 66 50 dX7_becomeRoot_47 (by decide) rfl X (fun _ X => ?_) (fun _ X => ?_)
  · exact r_retV dX7_becomeRoot_66 (Nat.zero_le _) (Nat.zero_le _) X
  · refine r_ald0 51 dX7_becomeRoot_50 rfl ?_
    refine r_ald2 52 dX7_becomeRoot_51 rfl ?_
    refine r_gR 55 dX7_becomeRoot_52 rfl lfX7_71 rfl X (fun b101 X => ?_)
    refine r_ild3 56 dX7_becomeRoot_55 rfl ?_
    refine r_aL 57 1 dX7_becomeRoot_56 rfl rfl X (fun x102 X => ?_)
    obtain ⟨hs, X⟩ := r_cv X
    obtain ⟨_, h103, hc, X⟩ := bnd_ok X
    refine r_callV1v 60 dX7_becomeRoot_57 rfl lmX7_55 hs (mtX7_addPart G hG hc) rfl ⟨(Nat.zero_le _), (Nat.zero_le _)⟩ ?_
    refine r_iinc3w 63 dX7_becomeRoot_60 rfl rfl ki_1 X (fun x104 X => ?_)
    refine r_goto 44 dX7_becomeRoot_63 (by decide) ?_
    exact r_cut (hK44 _ _ _ _ X) ⟨rfl, ⟨rfl, ⟨rfl, trivial⟩⟩⟩
theorem wX7_becomeRoot_44L (G : GG) (hG : GT G) (R : Unit × AH) : ∀ (m : Nat) (l0 : Nat) (l2 : Nat) (l3 : Int32) (h : AH), fX7_becomeRoot_44L m l0 l2 l3 h = some R → AW (eX7_becomeRoot G R) RX7 cX7_becomeRoot 44 [some (.ref (gB G + l0)), none, some (.ref (gB G + l2)), some (.int l3)] [] h 0 0 := by
  intro m
  induction m with
  | zero => intro l0 l2 l3 h X; exact nomatch (show (none : Fn Unit) = some R from X)
  | succ m ih => intro l0 l2 l3 h X; exact wX7_becomeRoot_44 G hG R ih l0 l2 l3 h X
theorem wX7_becomeRoot (G : GG) (hG : GT G) (R : Unit × AH) (a0 : Nat) (a1 : Nat) (a2 : Nat) (h : AH) (X : fX7_becomeRoot a0 a1 a2 h = some R) : AW (eX7_becomeRoot G R) RX7 cX7_becomeRoot 0 [some (.ref (gB G + a0)), some (.ref (gB G + a1)), some (.ref (gB G + a2)), none] [] h 0 0 := by
  unfold fX7_becomeRoot at X
  refine r_ald0 1 dX7_becomeRoot_0 rfl ?_
  refine r_iconst 2 _ dX7_becomeRoot_1 rfl ki_1 ?_
  obtain ⟨hs, X⟩ := r_cv X
  obtain ⟨_, h101, hc, X⟩ := bnd_ok X
  refine r_callV1v 5 dX7_becomeRoot_2 rfl lmX7_45 hs (mtX7_start G hG hc) rfl ⟨(Nat.zero_le _), (Nat.zero_le _)⟩ ?_
  refine r_ald0 6 dX7_becomeRoot_5 rfl ?_
  refine r_ald1 7 dX7_becomeRoot_6 rfl ?_
  refine r_gL 10 dX7_becomeRoot_7 rfl lfX7_59 rfl X (fun x102 X => ?_)
  refine r_pL 13 dX7_becomeRoot_10 rfl lpX7_32 rfl X (fun h103 X => ?_)
  refine r_ald0 14 dX7_becomeRoot_13 rfl ?_
  refine r_ald1 15 dX7_becomeRoot_14 rfl ?_
  refine r_gL 18 dX7_becomeRoot_15 rfl lfX7_62 rfl X (fun x104 X => ?_)
  refine r_pL 21 dX7_becomeRoot_18 rfl lpX7_36 rfl X (fun h105 X => ?_)
  refine r_ald0 22 dX7_becomeRoot_21 rfl ?_
  refine r_ald1 23 dX7_becomeRoot_22 rfl ?_
  refine r_gL 26 dX7_becomeRoot_23 rfl lfX7_63 rfl X (fun x106 X => ?_)
  refine r_pL 29 dX7_becomeRoot_26 rfl lpX7_39 rfl X (fun h107 X => ?_)
  refine r_ald0 30 dX7_becomeRoot_29 rfl ?_
  refine r_ald1 31 dX7_becomeRoot_30 rfl ?_
  refine r_gL 34 dX7_becomeRoot_31 rfl lfX7_64 rfl X (fun x108 X => ?_)
  refine r_pL 37 dX7_becomeRoot_34 rfl lpX7_42 rfl X (fun h109 X => ?_)
  refine r_ald2 38 dX7_becomeRoot_37 rfl ?_
  refine r_ald0 39 dX7_becomeRoot_38 rfl ?_
  obtain ⟨hs, X⟩ := r_cv X
  obtain ⟨_, h110, hc, X⟩ := bnd_ok X
  refine r_callV1v 42 dX7_becomeRoot_39 rfl lmX7_65 hs (mtX4_go G hG hc) rfl ⟨(Nat.zero_le _), (Nat.zero_le _)⟩ ?_
  refine r_iconst 43 _ dX7_becomeRoot_42 rfl ki_0 ?_
  refine r_ist3 44 dX7_becomeRoot_43 rfl rfl ?_
  exact r_cut (wX7_becomeRoot_44L G hG R 1000 _ _ _ _ X) ⟨rfl, ⟨rfl, ⟨rfl, trivial⟩⟩⟩
theorem mtX7_becomeRoot (G : GG) (hG : GT G) {a0 : Nat} {a1 : Nat} {a2 : Nat} {h h' : AH} {v : Unit} (hc : fX7_becomeRoot a0 a1 a2 h = some (v, h')) : AMet G yX7_becomeRoot cX7_becomeRoot 4 none 4 105 0 0 [.ref (gB G + a0), .ref (gB G + a1), .ref (gB G + a2)] h none h' :=
  amet_of false [some (.ref (gB G + a0)), some (.ref (gB G + a1)), some (.ref (gB G + a2)), none] (by decide +kernel) (by decide) (Nat.le_of_ble_eq_true rfl) rfl (Nat.le_of_ble_eq_true rfl) (wX7_becomeRoot G hG (v, h') _ _ _ h hc)
abbrev eX8_placeOutcome (G : GG) (R : Int64 × AH) : EE := eM G 3 (some .long) false 5 128 0 0 (some (.long R.1)) R.2
theorem wX8_placeOutcome (G : GG) (hG : GT G) (R : Int64 × AH) (a0 : Nat) (x0 : Int32) (h : AH) (X : fX8_placeOutcome a0 x0 h = some R) : AW (eX8_placeOutcome G R) RX8 cX8_placeOutcome 0 [some (.ref (gB G + a0)), some (.int x0), none] [] h 0 0 := by
  unfold fX8_placeOutcome at X
  refine r_ald0 1 dX8_placeOutcome_0 rfl ?_
  refine r_gR 4 dX8_placeOutcome_1 rfl lfX8_37 rfl X (fun b101 X => ?_)
  obtain ⟨hs, X⟩ := r_cv X
  obtain ⟨x103, h102, hc, X⟩ := bnd_ok X
  refine r_callV0 7 dX8_placeOutcome_4 rfl lmX8_264 hs (mtX3_bringToLeastTerms G hG hc) rfl ⟨(Nat.zero_le _), (Nat.zero_le _)⟩ ?_
  refine r_if_ne 14 10 dX8_placeOutcome_7 (by decide) rfl X (fun _ X => ?_) (fun _ X => ?_)
  · refine r_ald0 15 dX8_placeOutcome_14 rfl ?_
    refine r_gR 18 dX8_placeOutcome_15 rfl lfX8_11 rfl X (fun b104 X => ?_)
    refine r_ild1 19 dX8_placeOutcome_18 rfl ?_
    refine r_aR 20 3 dX8_placeOutcome_19 rfl rfl X (fun b105 X => ?_)
    refine r_ast2 21 dX8_placeOutcome_20 rfl rfl ?_
    refine r_ald0 22 dX8_placeOutcome_21 rfl ?_
    refine r_gR 25 dX8_placeOutcome_22 rfl lfX8_37 rfl X (fun b106 X => ?_)
    refine r_gL 28 dX8_placeOutcome_25 rfl lfX8_267 rfl X (fun x107 X => ?_)
    refine r_lconst 29 _ dX8_placeOutcome_28 rfl kl_0 ?_
    refine r_lif_ne 54 33 dX8_placeOutcome_29 dX8_placeOutcome_30 (by decide) rfl X (fun _ X => ?_) (fun _ X => ?_)
    · refine r_ald2 55 dX8_placeOutcome_54 rfl ?_
      refine r_ald0 56 dX8_placeOutcome_55 rfl ?_
      refine r_gR 59 dX8_placeOutcome_56 rfl lfX8_37 rfl X (fun b108 X => ?_)
      refine r_ald0 60 dX8_placeOutcome_59 rfl ?_
      refine r_gR 63 dX8_placeOutcome_60 rfl lfX8_44 rfl X (fun b109 X => ?_)
      obtain ⟨hs, X⟩ := r_cv X
      obtain ⟨_, h110, hc, X⟩ := bnd_ok X
      refine r_callV2v 66 dX8_placeOutcome_63 rfl lmX8_271 hs (mtX7_becomeRoot G hG hc) rfl ⟨(Nat.zero_le _), (Nat.zero_le _)⟩ ?_
      refine r_ald0 67 dX8_placeOutcome_66 rfl ?_
      refine r_ild1 68 dX8_placeOutcome_67 rfl ?_
      obtain ⟨hs, X⟩ := r_cv X
      obtain ⟨x112, h111, hc, X⟩ := bnd_ok X
      refine r_callV1 71 dX8_placeOutcome_68 rfl lmX8_115 hs (mtX8_place G hG hc) rfl ⟨(Nat.zero_le _), (Nat.zero_le _)⟩ ?_
      exact r_retL dX8_placeOutcome_71 (Nat.zero_le _) (Nat.zero_le _) X
    · refine r_ald2 34 dX8_placeOutcome_33 rfl ?_
      refine r_ald0 35 dX8_placeOutcome_34 rfl ?_
      refine r_gR 38 dX8_placeOutcome_35 rfl lfX8_37 rfl X (fun b113 X => ?_)
      refine r_gL 41 dX8_placeOutcome_38 rfl lfX8_270 rfl X (fun x114 X => ?_)
      refine r_ald0 42 dX8_placeOutcome_41 rfl ?_
      refine r_gR 45 dX8_placeOutcome_42 rfl lfX8_37 rfl X (fun b115 X => ?_)
      refine r_gL 48 dX8_placeOutcome_45 rfl lfX8_151 rfl X (fun x116 X => ?_)
      obtain ⟨hs, X⟩ := r_cv X
      obtain ⟨_, h117, hc, X⟩ := bnd_ok X
      refine r_callV2v 51 dX8_placeOutcome_48 rfl lmX8_76 hs (mtX7_becomeRatio G hG hc) rfl ⟨(Nat.zero_le _), (Nat.zero_le _)⟩ ?_
      refine r_goto 66 dX8_placeOutcome_51 (by decide) ?_
      refine r_ald0 67 dX8_placeOutcome_66 rfl ?_
      refine r_ild1 68 dX8_placeOutcome_67 rfl ?_
      obtain ⟨hs, X⟩ := r_cv X
      obtain ⟨x119, h118, hc, X⟩ := bnd_ok X
      refine r_callV1 71 dX8_placeOutcome_68 rfl lmX8_115 hs (mtX8_place G hG hc) rfl ⟨(Nat.zero_le _), (Nat.zero_le _)⟩ ?_
      exact r_retL dX8_placeOutcome_71 (Nat.zero_le _) (Nat.zero_le _) X
  · refine r_ldc2 13 dX8_placeOutcome_10 rfl lkX8_224 ?_
    exact r_retL dX8_placeOutcome_13 (Nat.zero_le _) (Nat.zero_le _) X
theorem mtX8_placeOutcome (G : GG) (hG : GT G) {a0 : Nat} {x0 : Int32} {h h' : AH} {v : Int64} (hc : fX8_placeOutcome a0 x0 h = some (v, h')) : AMet G yX8_placeOutcome cX8_placeOutcome 3 (some .long) 5 128 0 0 [.ref (gB G + a0), .int x0] h (some (.long v)) h' :=
  amet_of false [some (.ref (gB G + a0)), some (.int x0), none] (by decide +kernel) (by decide) (Nat.le_of_ble_eq_true rfl) rfl (Nat.le_of_ble_eq_true rfl) (wX8_placeOutcome G hG (v, h') _ _ h hc)
abbrev eX8_act (G : GG) (R : Int64 × AH) : EE := eM G 7 (some .long) false 6 150 0 0 (some (.long R.1)) R.2
theorem wX8_act_58 (G : GG) (hG : GT G) (R : Int64 × AH) (l0 : Nat) (l1 : Int32) (l4 : Nat) (l5 : Nat) (h : AH) (X : fX8_act_58 l0 l1 l4 l5 h = some R) : AW (eX8_act G R) RX8 cX8_act 58 [some (.ref (gB G + l0)), some (.int l1), none, none, some (.ref (gB G + l4)), some (.ref (gB G + l5)), none] [] h 0 0 := by
  unfold fX8_act_58 at X
  refine r_ald0 59 dX8_act_58 rfl ?_
  obtain ⟨hs, X⟩ := r_cv X
  obtain ⟨x102, h101, hc, X⟩ := bnd_ok X
  refine r_callV0 62 dX8_act_59 rfl lmX8_86 hs (mtX8_leastFree G hG hc) rfl ⟨(Nat.zero_le _), (Nat.zero_le _)⟩ ?_
  refine r_ist6 64 dX8_act_62 rfl rfl ?_
  refine r_ild6 66 dX8_act_64 rfl ?_
  refine r_iconst 67 _ dX8_act_66 rfl ki_m1 ?_
  refine r_icmp_ne 74 70 dX8_act_67 (by decide) rfl X (fun _ X => ?_) (fun _ X => ?_)
  · refine r_ald4 76 dX8_act_74 rfl ?_
    refine r_ald5 78 dX8_act_76 rfl ?_
    obtain ⟨x104, h103, hc, X⟩ := bnd_ok X
    refine r_callS2 81 dX8_act_78 rfl lmX8_128 (mtX8_isExactAct G hG hc) rfl ⟨(Nat.zero_le _), (Nat.zero_le _)⟩ ?_
    refine r_if_eq 103 84 dX8_act_81 (by decide) rfl X (fun _ X => ?_) (fun _ X => ?_)
    · refine r_ald0 104 dX8_act_103 rfl ?_
      refine r_gR 107 dX8_act_104 rfl lfX8_51 rfl X (fun b105 X => ?_)
      refine r_ild1 108 dX8_act_107 rfl ?_
      obtain ⟨hs, X⟩ := r_cv X
      obtain ⟨_, h106, hc, X⟩ := bnd_ok X
      refine r_callV1v 111 dX8_act_108 rfl lmX8_136 hs (mtX1_startWithAct G hG hc) rfl ⟨(Nat.zero_le _), (Nat.zero_le _)⟩ ?_
      refine r_ald0 112 dX8_act_111 rfl ?_
      refine r_gR 115 dX8_act_112 rfl lfX8_51 rfl X (fun b107 X => ?_)
      refine r_ald0 116 dX8_act_115 rfl ?_
      refine r_gR 119 dX8_act_116 rfl lfX8_11 rfl X (fun b108 X => ?_)
      refine r_ild6 121 dX8_act_119 rfl ?_
      refine r_aR 122 3 dX8_act_121 rfl rfl X (fun b109 X => ?_)
      refine r_ald4 124 dX8_act_122 rfl ?_
      refine r_ald5 126 dX8_act_124 rfl ?_
      obtain ⟨hs, X⟩ := r_cv X
      obtain ⟨_, h110, hc, X⟩ := bnd_ok X
      refine r_callV3v 129 dX8_act_126 rfl lmX8_140 hs (mtX1_make G hG hc) rfl ⟨(Nat.zero_le _), (Nat.zero_le _)⟩ ?_
      refine r_ald0 130 dX8_act_129 rfl ?_
      refine r_ild6 132 dX8_act_130 rfl ?_
      obtain ⟨hs, X⟩ := r_cv X
      obtain ⟨x112, h111, hc, X⟩ := bnd_ok X
      refine r_callV1 135 dX8_act_132 rfl lmX8_115 hs (mtX8_place G hG hc) rfl ⟨(Nat.zero_le _), (Nat.zero_le _)⟩ ?_
      exact r_retL dX8_act_135 (Nat.zero_le _) (Nat.zero_le _) X
    · refine r_ald0 85 dX8_act_84 rfl ?_
      refine r_gR 88 dX8_act_85 rfl lfX8_37 rfl X (fun b113 X => ?_)
      refine r_ild1 89 dX8_act_88 rfl ?_
      refine r_ald4 91 dX8_act_89 rfl ?_
      refine r_ald5 93 dX8_act_91 rfl ?_
      obtain ⟨hs, X⟩ := r_cv X
      obtain ⟨_, h114, hc, X⟩ := bnd_ok X
      refine r_callV3v 96 dX8_act_93 rfl lmX8_132 hs (mtX3_work G hG hc) rfl ⟨(Nat.zero_le _), (Nat.zero_le _)⟩ ?_
      refine r_ald0 97 dX8_act_96 rfl ?_
      refine r_ild6 99 dX8_act_97 rfl ?_
      obtain ⟨hs, X⟩ := r_cv X
      obtain ⟨x116, h115, hc, X⟩ := bnd_ok X
      refine r_callV1 102 dX8_act_99 rfl lmX8_96 hs (mtX8_placeOutcome G hG hc) rfl ⟨(Nat.zero_le _), (Nat.zero_le _)⟩ ?_
      exact r_retL dX8_act_102 (Nat.zero_le _) (Nat.zero_le _) X
  · refine r_ldc2 73 dX8_act_70 rfl lkX8_90 ?_
    exact r_retL dX8_act_73 (Nat.zero_le _) (Nat.zero_le _) X
theorem wX8_act (G : GG) (hG : GT G) (R : Int64 × AH) (a0 : Nat) (x0 : Int32) (x1 : Int32) (x2 : Int32) (h : AH) (X : fX8_act a0 x0 x1 x2 h = some R) : AW (eX8_act G R) RX8 cX8_act 0 [some (.ref (gB G + a0)), some (.int x0), some (.int x1), some (.int x2), none, none, none] [] h 0 0 := by
  unfold fX8_act at X
  refine r_ald0 1 dX8_act_0 rfl ?_
  refine r_ild2 2 dX8_act_1 rfl ?_
  obtain ⟨hs, X⟩ := r_cv X
  obtain ⟨r102, h101, hc, X⟩ := bnd_ok X
  refine r_callV1 5 dX8_act_2 rfl lmX8_118 hs (mtX8_find G hG hc) rfl ⟨(Nat.zero_le _), (Nat.zero_le _)⟩ ?_
  refine r_split X (fun X => ?_) (fun b103 X => ?_)
  · refine r_astN4 7 dX8_act_5 rfl rfl ?_
    refine r_ald0 8 dX8_act_7 rfl ?_
    refine r_ild3 9 dX8_act_8 rfl ?_
    obtain ⟨hs, X⟩ := r_cv X
    obtain ⟨r105, h104, hc, X⟩ := bnd_ok X
    refine r_callV1 12 dX8_act_9 rfl lmX8_118 hs (mtX8_find G hG hc) rfl ⟨(Nat.zero_le _), (Nat.zero_le _)⟩ ?_
    refine r_split X (fun X => ?_) (fun b106 X => ?_)
    · refine r_astN5 14 dX8_act_12 rfl rfl ?_
      refine r_aldN4 16 dX8_act_14 rfl ?_
      refine r_ifnullN 24 dX8_act_16 (by decide) ?_
      refine r_ldc2 27 dX8_act_24 rfl lkX8_122 ?_
      exact r_retL dX8_act_27 (Nat.zero_le _) (Nat.zero_le _) X
    · refine r_ast5 14 dX8_act_12 rfl rfl ?_
      refine r_aldN4 16 dX8_act_14 rfl ?_
      refine r_ifnullN 24 dX8_act_16 (by decide) ?_
      refine r_ldc2 27 dX8_act_24 rfl lkX8_122 ?_
      exact r_retL dX8_act_27 (Nat.zero_le _) (Nat.zero_le _) X
  · refine r_ast4 7 dX8_act_5 rfl rfl ?_
    refine r_ald0 8 dX8_act_7 rfl ?_
    refine r_ild3 9 dX8_act_8 rfl ?_
    obtain ⟨hs, X⟩ := r_cv X
    obtain ⟨r108, h107, hc, X⟩ := bnd_ok X
    refine r_callV1 12 dX8_act_9 rfl lmX8_118 hs (mtX8_find G hG hc) rfl ⟨(Nat.zero_le _), (Nat.zero_le _)⟩ ?_
    refine r_split X (fun X => ?_) (fun b109 X => ?_)
    · refine r_astN5 14 dX8_act_12 rfl rfl ?_
      refine r_ald4 16 dX8_act_14 rfl ?_
      refine r_ifnull 19 dX8_act_16 rfl ?_
      refine r_aldN5 21 dX8_act_19 rfl ?_
      refine r_ifnonnullN 24 dX8_act_21 rfl ?_
      refine r_ldc2 27 dX8_act_24 rfl lkX8_122 ?_
      exact r_retL dX8_act_27 (Nat.zero_le _) (Nat.zero_le _) X
    · refine r_ast5 14 dX8_act_12 rfl rfl ?_
      refine r_ald4 16 dX8_act_14 rfl ?_
      refine r_ifnull 19 dX8_act_16 rfl ?_
      refine r_ald5 21 dX8_act_19 rfl ?_
      refine r_ifnonnull 28 dX8_act_21 (by decide) ?_
      refine r_ild1 29 dX8_act_28 rfl ?_
      refine r_if_lt 37 32 dX8_act_29 (by decide) rfl X (fun _ X => ?_) (fun _ X => ?_)
      · refine r_ldc2 40 dX8_act_37 rfl lkX8_84 ?_
        exact r_retL dX8_act_40 (Nat.zero_le _) (Nat.zero_le _) X
      · refine r_ild1 33 dX8_act_32 rfl ?_
        refine r_iconst 34 _ dX8_act_33 rfl ki_3 ?_
        refine r_icmp_le 41 37 dX8_act_34 (by decide) rfl X (fun _ X => ?_) (fun _ X => ?_)
        · refine r_ild1 42 dX8_act_41 rfl ?_
          refine r_iconst 43 _ dX8_act_42 rfl ki_3 ?_
          refine r_icmp_ne 58 46 dX8_act_43 (by decide) rfl X (fun _ X => ?_) (fun _ X => ?_)
          · exact r_cut (wX8_act_58 G hG R _ _ _ _ _ X) ⟨rfl, ⟨rfl, ⟨rfl, ⟨rfl, trivial⟩⟩⟩⟩
          · refine r_ald5 48 dX8_act_46 rfl ?_
            obtain ⟨hs, X⟩ := r_cv X
            obtain ⟨x111, h110, hc, X⟩ := bnd_ok X
            refine r_callV0 51 dX8_act_48 rfl lmX8_124 hs (mtX7_isZeroRatio G hG hc) rfl ⟨(Nat.zero_le _), (Nat.zero_le _)⟩ ?_
            refine r_if_eq 58 54 dX8_act_51 (by decide) rfl X (fun _ X => ?_) (fun _ X => ?_)
            · exact r_cut (wX8_act_58 G hG R _ _ _ _ _ X) ⟨rfl, ⟨rfl, ⟨rfl, ⟨rfl, trivial⟩⟩⟩⟩
            · refine r_ldc2 57 dX8_act_54 rfl lkX8_109 ?_
              exact r_retL dX8_act_57 (Nat.zero_le _) (Nat.zero_le _) X
        · refine r_ldc2 40 dX8_act_37 rfl lkX8_84 ?_
          exact r_retL dX8_act_40 (Nat.zero_le _) (Nat.zero_le _) X
theorem mtX8_act (G : GG) (hG : GT G) {a0 : Nat} {x0 : Int32} {x1 : Int32} {x2 : Int32} {h h' : AH} {v : Int64} (hc : fX8_act a0 x0 x1 x2 h = some (v, h')) : AMet G yX8_act cX8_act 7 (some .long) 6 150 0 0 [.ref (gB G + a0), .int x0, .int x1, .int x2] h (some (.long v)) h' :=
  amet_of false [some (.ref (gB G + a0)), some (.int x0), some (.int x1), some (.int x2), none, none, none] (by decide +kernel) (by decide) (Nat.le_of_ble_eq_true rfl) rfl (Nat.le_of_ble_eq_true rfl) (wX8_act G hG (v, h') _ _ _ _ h hc)
abbrev eX2_lowerAt (G : GG) (R : Int64 × AH) : EE := eM G 2 (some .long) false 0 0 0 0 (some (.long R.1)) R.2
theorem wX2_lowerAt (G : GG) (hG : GT G) (R : Int64 × AH) (a0 : Nat) (x0 : Int32) (h : AH) (X : fX2_lowerAt a0 x0 h = some R) : AW (eX2_lowerAt G R) RX2 cX2_lowerAt 0 [some (.ref (gB G + a0)), some (.int x0)] [] h 0 0 := by
  unfold fX2_lowerAt at X
  refine r_ild1 1 dX2_lowerAt_0 rfl ?_
  refine r_if_ge 15 4 dX2_lowerAt_1 (by decide) rfl X (fun _ X => ?_) (fun _ X => ?_)
  · refine r_ild1 16 dX2_lowerAt_15 rfl ?_
    refine r_bipush 18 _ dX2_lowerAt_16 rfl kb_60 ?_
    refine r_icmp_ge 30 21 dX2_lowerAt_18 (by decide) rfl X (fun _ X => ?_) (fun _ X => ?_)
    · refine r_lconst 31 _ dX2_lowerAt_30 rfl kl_1 ?_
      exact r_retL dX2_lowerAt_31 (Nat.zero_le _) (Nat.zero_le _) X
    · refine r_ald0 22 dX2_lowerAt_21 rfl ?_
      refine r_gR 25 dX2_lowerAt_22 rfl lfX2_15 rfl X (fun b101 X => ?_)
      refine r_ild1 26 dX2_lowerAt_25 rfl ?_
      refine r_aL 27 1 dX2_lowerAt_26 rfl rfl X (fun x102 X => ?_)
      refine r_goto 31 dX2_lowerAt_27 (by decide) ?_
      exact r_retL dX2_lowerAt_31 (Nat.zero_le _) (Nat.zero_le _) X
  · refine r_ild1 5 dX2_lowerAt_4 rfl ?_
    refine r_iconst 6 _ dX2_lowerAt_5 rfl ki_m1 ?_
    refine r_icmp_ne 13 9 dX2_lowerAt_6 (by decide) rfl X (fun _ X => ?_) (fun _ X => ?_)
    · refine r_lconst 14 _ dX2_lowerAt_13 rfl kl_1 ?_
      exact r_retL dX2_lowerAt_14 (Nat.zero_le _) (Nat.zero_le _) X
    · refine r_lconst 10 _ dX2_lowerAt_9 rfl kl_0 ?_
      refine r_goto 14 dX2_lowerAt_10 (by decide) ?_
      exact r_retL dX2_lowerAt_14 (Nat.zero_le _) (Nat.zero_le _) X
theorem mtX2_lowerAt (G : GG) (hG : GT G) {a0 : Nat} {x0 : Int32} {h h' : AH} {v : Int64} (hc : fX2_lowerAt a0 x0 h = some (v, h')) : AMet G yX2_lowerAt cX2_lowerAt 2 (some .long) 0 0 0 0 [.ref (gB G + a0), .int x0] h (some (.long v)) h' :=
  amet_of false [some (.ref (gB G + a0)), some (.int x0)] (by decide +kernel) (by decide) (Nat.le_of_ble_eq_true rfl) rfl (Nat.le_of_ble_eq_true rfl) (wX2_lowerAt G hG (v, h') _ _ h hc)
abbrev eX2_upperAt (G : GG) (R : Int64 × AH) : EE := eM G 2 (some .long) false 0 0 0 0 (some (.long R.1)) R.2
theorem wX2_upperAt (G : GG) (hG : GT G) (R : Int64 × AH) (a0 : Nat) (x0 : Int32) (h : AH) (X : fX2_upperAt a0 x0 h = some R) : AW (eX2_upperAt G R) RX2 cX2_upperAt 0 [some (.ref (gB G + a0)), some (.int x0)] [] h 0 0 := by
  unfold fX2_upperAt at X
  refine r_ild1 1 dX2_upperAt_0 rfl ?_
  refine r_if_ge 15 4 dX2_upperAt_1 (by decide) rfl X (fun _ X => ?_) (fun _ X => ?_)
  · refine r_ild1 16 dX2_upperAt_15 rfl ?_
    refine r_bipush 18 _ dX2_upperAt_16 rfl kb_60 ?_
    refine r_icmp_ge 30 21 dX2_upperAt_18 (by decide) rfl X (fun _ X => ?_) (fun _ X => ?_)
    · refine r_lconst 31 _ dX2_upperAt_30 rfl kl_0 ?_
      exact r_retL dX2_upperAt_31 (Nat.zero_le _) (Nat.zero_le _) X
    · refine r_ald0 22 dX2_upperAt_21 rfl ?_
      refine r_gR 25 dX2_upperAt_22 rfl lfX2_9 rfl X (fun b101 X => ?_)
      refine r_ild1 26 dX2_upperAt_25 rfl ?_
      refine r_aL 27 1 dX2_upperAt_26 rfl rfl X (fun x102 X => ?_)
      refine r_goto 31 dX2_upperAt_27 (by decide) ?_
      exact r_retL dX2_upperAt_31 (Nat.zero_le _) (Nat.zero_le _) X
  · refine r_ild1 5 dX2_upperAt_4 rfl ?_
    refine r_iconst 6 _ dX2_upperAt_5 rfl ki_m1 ?_
    refine r_icmp_ne 13 9 dX2_upperAt_6 (by decide) rfl X (fun _ X => ?_) (fun _ X => ?_)
    · refine r_lconst 14 _ dX2_upperAt_13 rfl kl_0 ?_
      exact r_retL dX2_upperAt_14 (Nat.zero_le _) (Nat.zero_le _) X
    · refine r_lconst 10 _ dX2_upperAt_9 rfl kl_1 ?_
      refine r_goto 14 dX2_upperAt_10 (by decide) ?_
      exact r_retL dX2_upperAt_14 (Nat.zero_le _) (Nat.zero_le _) X
theorem mtX2_upperAt (G : GG) (hG : GT G) {a0 : Nat} {x0 : Int32} {h h' : AH} {v : Int64} (hc : fX2_upperAt a0 x0 h = some (v, h')) : AMet G yX2_upperAt cX2_upperAt 2 (some .long) 0 0 0 0 [.ref (gB G + a0), .int x0] h (some (.long v)) h' :=
  amet_of false [some (.ref (gB G + a0)), some (.int x0)] (by decide +kernel) (by decide) (Nat.le_of_ble_eq_true rfl) rfl (Nat.le_of_ble_eq_true rfl) (wX2_upperAt G hG (v, h') _ _ h hc)
abbrev eX2_workOut (G : GG) (R : Unit × AH) : EE := eM G 9 none false 2 44 0 0 none R.2
theorem wX2_workOut_7 (G : GG) (hG : GT G) (R : Unit × AH) {K7 : Nat → Nat → Int32 → AH → Fn Unit} (hK7 : ∀ (l0 : Nat) (l1 : Nat) (l2 : Int32) (h : AH), K7 l0 l1 l2 h = some R → AW (eX2_workOut G R) RX2 cX2_workOut 7 [some (.ref (gB G + l0)), some (.ref (gB G + l1)), some (.int l2), none, none, none, none, none, none] [] h 0 0) (l0 : Nat) (l1 : Nat) (l2 : Int32) (h : AH) (X : fX2_workOut_7 K7 l0 l1 l2 h = some R) : AW (eX2_workOut G R) RX2 cX2_workOut 7 [some (.ref (gB G + l0)), some (.ref (gB G + l1)), some (.int l2), none, none, none, none, none, none] [] h 0 0 := by
  unfold fX2_workOut_7 at X
  refine r_ild2 8 dX2_workOut_7 rfl ?_
  refine r_bipush 10 _ dX2_workOut_8 rfl kb_60 ?_
  refine r_icmp_ge 122 13 dX2_workOut_10 (by decide) rfl X (fun _ X => ?_) (fun _ X => ?_)
  · exact r_retV dX2_workOut_122 (Nat.zero_le _) (Nat.zero_le _) X
  · refine r_ild2 14 dX2_workOut_13 rfl ?_
    refine r_ald1 15 dX2_workOut_14 rfl ?_
    refine r_gI 18 dX2_workOut_15 rfl lfX2_22 rfl X (fun x101 X => ?_)
    refine r_icmp_ge 122 21 dX2_workOut_18 (by decide) rfl X (fun _ X => ?_) (fun _ X => ?_)
    · exact r_retV dX2_workOut_122 (Nat.zero_le _) (Nat.zero_le _) X
    · refine r_ald1 22 dX2_workOut_21 rfl ?_
      refine r_ild2 23 dX2_workOut_22 rfl ?_
      obtain ⟨hs, X⟩ := r_cv X
      obtain ⟨x103, h102, hc, X⟩ := bnd_ok X
      refine r_callV1 26 dX2_workOut_23 rfl lmX2_27 hs (mtX7_partAt G hG hc) rfl ⟨(Nat.zero_le _), (Nat.zero_le _)⟩ ?_
      refine r_lst3 27 dX2_workOut_26 rfl rfl ?_
      refine r_lld3 28 dX2_workOut_27 rfl ?_
      refine r_ald0 29 dX2_workOut_28 rfl ?_
      refine r_ild2 30 dX2_workOut_29 rfl ?_
      refine r_iconst 31 _ dX2_workOut_30 rfl ki_1 ?_
      refine r_isub 32 dX2_workOut_31 rfl ?_
      obtain ⟨hs, X⟩ := r_cv X
      obtain ⟨x105, h104, hc, X⟩ := bnd_ok X
      refine r_callV1 35 dX2_workOut_32 rfl lmX2_31 hs (mtX2_upperAt G hG hc) rfl ⟨(Nat.zero_le _), (Nat.zero_le _)⟩ ?_
      obtain ⟨x107, h106, hc, X⟩ := bnd_ok X
      refine r_callS2 38 dX2_workOut_35 rfl lmX2_34 (mtX8_times G hG hc) rfl ⟨(Nat.zero_le _), (Nat.zero_le _)⟩ ?_
      refine r_ald0 39 dX2_workOut_38 rfl ?_
      refine r_ild2 40 dX2_workOut_39 rfl ?_
      refine r_iconst 41 _ dX2_workOut_40 rfl ki_2 ?_
      refine r_isub 42 dX2_workOut_41 rfl ?_
      obtain ⟨hs, X⟩ := r_cv X
      obtain ⟨x109, h108, hc, X⟩ := bnd_ok X
      refine r_callV1 45 dX2_workOut_42 rfl lmX2_31 hs (mtX2_upperAt G hG hc) rfl ⟨(Nat.zero_le _), (Nat.zero_le _)⟩ ?_
      obtain ⟨x111, h110, hc, X⟩ := bnd_ok X
      refine r_callS2 48 dX2_workOut_45 rfl lmX2_38 (mtX8_plus G hG hc) rfl ⟨(Nat.zero_le _), (Nat.zero_le _)⟩ ?_
      refine r_lst5 50 dX2_workOut_48 rfl rfl ?_
      refine r_lld3 51 dX2_workOut_50 rfl ?_
      refine r_ald0 52 dX2_workOut_51 rfl ?_
      refine r_ild2 53 dX2_workOut_52 rfl ?_
      refine r_iconst 54 _ dX2_workOut_53 rfl ki_1 ?_
      refine r_isub 55 dX2_workOut_54 rfl ?_
      obtain ⟨hs, X⟩ := r_cv X
      obtain ⟨x113, h112, hc, X⟩ := bnd_ok X
      refine r_callV1 58 dX2_workOut_55 rfl lmX2_41 hs (mtX2_lowerAt G hG hc) rfl ⟨(Nat.zero_le _), (Nat.zero_le _)⟩ ?_
      obtain ⟨x115, h114, hc, X⟩ := bnd_ok X
      refine r_callS2 61 dX2_workOut_58 rfl lmX2_34 (mtX8_times G hG hc) rfl ⟨(Nat.zero_le _), (Nat.zero_le _)⟩ ?_
      refine r_ald0 62 dX2_workOut_61 rfl ?_
      refine r_ild2 63 dX2_workOut_62 rfl ?_
      refine r_iconst 64 _ dX2_workOut_63 rfl ki_2 ?_
      refine r_isub 65 dX2_workOut_64 rfl ?_
      obtain ⟨hs, X⟩ := r_cv X
      obtain ⟨x117, h116, hc, X⟩ := bnd_ok X
      refine r_callV1 68 dX2_workOut_65 rfl lmX2_41 hs (mtX2_lowerAt G hG hc) rfl ⟨(Nat.zero_le _), (Nat.zero_le _)⟩ ?_
      obtain ⟨x119, h118, hc, X⟩ := bnd_ok X
      refine r_callS2 71 dX2_workOut_68 rfl lmX2_38 (mtX8_plus G hG hc) rfl ⟨(Nat.zero_le _), (Nat.zero_le _)⟩ ?_
      refine r_lst7 73 dX2_workOut_71 rfl rfl ?_
      refine r_lld5 75 dX2_workOut_73 rfl ?_
      obtain ⟨x121, h120, hc, X⟩ := bnd_ok X
      refine r_callS1 78 dX2_workOut_75 rfl lmX2_44 (mtX8_isFar G hG hc) rfl ⟨(Nat.zero_le _), (Nat.zero_le _)⟩ ?_
      refine r_if_ne 89 81 dX2_workOut_78 (by decide) rfl X (fun _ X => ?_) (fun _ X => ?_)
      · exact r_retV dX2_workOut_89 (Nat.zero_le _) (Nat.zero_le _) X
      · refine r_lld7 83 dX2_workOut_81 rfl ?_
        obtain ⟨x123, h122, hc, X⟩ := bnd_ok X
        refine r_callS1 86 dX2_workOut_83 rfl lmX2_44 (mtX8_isFar G hG hc) rfl ⟨(Nat.zero_le _), (Nat.zero_le _)⟩ ?_
        refine r_if_eq 90 89 dX2_workOut_86 (by decide) rfl X (fun _ X => ?_) (fun _ X => ?_)
        · refine r_ald0 91 dX2_workOut_90 rfl ?_
          refine r_gR 94 dX2_workOut_91 rfl lfX2_9 rfl X (fun b124 X => ?_)
          refine r_ild2 95 dX2_workOut_94 rfl ?_
          refine r_lld5 97 dX2_workOut_95 rfl ?_
          refine r_zL 98 1 dX2_workOut_97 rfl rfl X (fun h125 X => ?_)
          refine r_ald0 99 dX2_workOut_98 rfl ?_
          refine r_gR 102 dX2_workOut_99 rfl lfX2_15 rfl X (fun b126 X => ?_)
          refine r_ild2 103 dX2_workOut_102 rfl ?_
          refine r_lld7 105 dX2_workOut_103 rfl ?_
          refine r_zL 106 1 dX2_workOut_105 rfl rfl X (fun h127 X => ?_)
          refine r_ald0 107 dX2_workOut_106 rfl ?_
          refine r_dup 108 dX2_workOut_107 rfl rfl ?_
          refine r_gI 111 dX2_workOut_108 rfl lfX2_18 rfl X (fun x128 X => ?_)
          refine r_iconst 112 _ dX2_workOut_111 rfl ki_1 ?_
          refine r_iadd 113 dX2_workOut_112 rfl ?_
          refine r_pI 116 dX2_workOut_113 rfl lpX2_18 rfl X (fun h129 X => ?_)
          refine r_iinc2w 119 dX2_workOut_116 rfl rfl ki_1 X (fun x130 X => ?_)
          refine r_goto 7 dX2_workOut_119 (by decide) ?_
          exact r_cut (hK7 _ _ _ _ X) ⟨rfl, ⟨rfl, ⟨rfl, trivial⟩⟩⟩
        · exact r_retV dX2_workOut_89 (Nat.zero_le _) (Nat.zero_le _) X
theorem wX2_workOut_7L (G : GG) (hG : GT G) (R : Unit × AH) : ∀ (m : Nat) (l0 : Nat) (l1 : Nat) (l2 : Int32) (h : AH), fX2_workOut_7L m l0 l1 l2 h = some R → AW (eX2_workOut G R) RX2 cX2_workOut 7 [some (.ref (gB G + l0)), some (.ref (gB G + l1)), some (.int l2), none, none, none, none, none, none] [] h 0 0 := by
  intro m
  induction m with
  | zero => intro l0 l1 l2 h X; exact nomatch (show (none : Fn Unit) = some R from X)
  | succ m ih => intro l0 l1 l2 h X; exact wX2_workOut_7 G hG R ih l0 l1 l2 h X
theorem wX2_workOut (G : GG) (hG : GT G) (R : Unit × AH) (a0 : Nat) (a1 : Nat) (h : AH) (X : fX2_workOut a0 a1 h = some R) : AW (eX2_workOut G R) RX2 cX2_workOut 0 [some (.ref (gB G + a0)), some (.ref (gB G + a1)), none, none, none, none, none, none, none] [] h 0 0 := by
  unfold fX2_workOut at X
  refine r_ald0 1 dX2_workOut_0 rfl ?_
  refine r_iconst 2 _ dX2_workOut_1 rfl ki_0 ?_
  refine r_pI 5 dX2_workOut_2 rfl lpX2_18 rfl X (fun h101 X => ?_)
  refine r_iconst 6 _ dX2_workOut_5 rfl ki_0 ?_
  refine r_ist2 7 dX2_workOut_6 rfl rfl ?_
  exact r_cut (wX2_workOut_7L G hG R 1000 _ _ _ _ X) ⟨rfl, ⟨rfl, ⟨rfl, trivial⟩⟩⟩
theorem mtX2_workOut (G : GG) (hG : GT G) {a0 : Nat} {a1 : Nat} {h h' : AH} {v : Unit} (hc : fX2_workOut a0 a1 h = some (v, h')) : AMet G yX2_workOut cX2_workOut 9 none 2 44 0 0 [.ref (gB G + a0), .ref (gB G + a1)] h none h' :=
  amet_of false [some (.ref (gB G + a0)), some (.ref (gB G + a1)), none, none, none, none, none, none, none] (by decide +kernel) (by decide) (Nat.le_of_ble_eq_true rfl) rfl (Nat.le_of_ble_eq_true rfl) (wX2_workOut G hG (v, h') _ _ h hc)
abbrev eX3_become (G : GG) (R : Unit × AH) : EE := eM G 9 none false 0 0 0 0 none R.2
theorem wX3_become (G : GG) (hG : GT G) (R : Unit × AH) (a0 : Nat) (x0 : Int64) (x1 : Int64) (x2 : Int64) (x3 : Int64) (h : AH) (X : fX3_become a0 x0 x1 x2 x3 h = some R) : AW (eX3_become G R) RX3 cX3_become 0 [some (.ref (gB G + a0)), some (.long x0), none, some (.long x1), none, some (.long x2), none, some (.long x3), none] [] h 0 0 := by
  unfold fX3_become at X
  refine r_ald0 1 dX3_become_0 rfl ?_
  refine r_lld1 2 dX3_become_1 rfl ?_
  refine r_pL 5 dX3_become_2 rfl lpX3_9 rfl X (fun h101 X => ?_)
  refine r_ald0 6 dX3_become_5 rfl ?_
  refine r_lld3 7 dX3_become_6 rfl ?_
  refine r_pL 10 dX3_become_7 rfl lpX3_15 rfl X (fun h102 X => ?_)
  refine r_ald0 11 dX3_become_10 rfl ?_
  refine r_lld5 13 dX3_become_11 rfl ?_
  refine r_pL 16 dX3_become_13 rfl lpX3_18 rfl X (fun h103 X => ?_)
  refine r_ald0 17 dX3_become_16 rfl ?_
  refine r_lld7 19 dX3_become_17 rfl ?_
  refine r_pL 22 dX3_become_19 rfl lpX3_21 rfl X (fun h104 X => ?_)
  exact r_retV dX3_become_22 (Nat.zero_le _) (Nat.zero_le _) X
theorem mtX3_become (G : GG) (hG : GT G) {a0 : Nat} {x0 : Int64} {x1 : Int64} {x2 : Int64} {x3 : Int64} {h h' : AH} {v : Unit} (hc : fX3_become a0 x0 x1 x2 x3 h = some (v, h')) : AMet G yX3_become cX3_become 9 none 0 0 0 0 [.ref (gB G + a0), .long x0, .long x1, .long x2, .long x3] h none h' :=
  amet_of false [some (.ref (gB G + a0)), some (.long x0), none, some (.long x1), none, some (.long x2), none, some (.long x3), none] (by decide +kernel) (by decide) (Nat.le_of_ble_eq_true rfl) rfl (Nat.le_of_ble_eq_true rfl) (wX3_become G hG (v, h') _ _ _ _ _ h hc)
abbrev eX7_heldAgainst (G : GG) (R : Int64 × AH) : EE := eM G 6 (some .long) false 1 21 0 0 (some (.long R.1)) R.2
theorem wX7_heldAgainst_126 (G : GG) (hG : GT G) (R : Int64 × AH) (l2 : Int32) (s0 : Int32) (h : AH) (X : fX7_heldAgainst_126 l2 s0 h = some R) : AW (eX7_heldAgainst G R) RX7 cX7_heldAgainst 126 [none, none, some (.int l2), none, none, none] [.int s0] h 0 0 := by
  unfold fX7_heldAgainst_126 at X
  refine r_ist5 128 dX7_heldAgainst_126 rfl rfl ?_
  refine r_ild5 130 dX7_heldAgainst_128 rfl ?_
  refine r_ild2 131 dX7_heldAgainst_130 rfl ?_
  refine r_iconst 132 _ dX7_heldAgainst_131 rfl ki_2 ?_
  refine r_irem 133 dX7_heldAgainst_132 rfl X (fun X => ?_)
  refine r_if_ne 140 136 dX7_heldAgainst_133 (by decide) rfl X (fun _ X => ?_) (fun _ X => ?_)
  · refine r_iconst 141 _ dX7_heldAgainst_140 rfl ki_0 ?_
    refine r_icmp_ne 150 144 dX7_heldAgainst_141 (by decide) rfl X (fun _ X => ?_) (fun _ X => ?_)
    · refine r_lconst 151 _ dX7_heldAgainst_150 rfl kl_1 ?_
      exact r_retL dX7_heldAgainst_151 (Nat.zero_le _) (Nat.zero_le _) X
    · refine r_ldc2 147 dX7_heldAgainst_144 rfl lkX7_80 ?_
      refine r_goto 151 dX7_heldAgainst_147 (by decide) ?_
      exact r_retL dX7_heldAgainst_151 (Nat.zero_le _) (Nat.zero_le _) X
  · refine r_iconst 137 _ dX7_heldAgainst_136 rfl ki_1 ?_
    refine r_goto 141 dX7_heldAgainst_137 (by decide) ?_
    refine r_icmp_ne 150 144 dX7_heldAgainst_141 (by decide) rfl X (fun _ X => ?_) (fun _ X => ?_)
    · refine r_lconst 151 _ dX7_heldAgainst_150 rfl kl_1 ?_
      exact r_retL dX7_heldAgainst_151 (Nat.zero_le _) (Nat.zero_le _) X
    · refine r_ldc2 147 dX7_heldAgainst_144 rfl lkX7_80 ?_
      refine r_goto 151 dX7_heldAgainst_147 (by decide) ?_
      exact r_retL dX7_heldAgainst_151 (Nat.zero_le _) (Nat.zero_le _) X
theorem wX7_heldAgainst_98 (G : GG) (hG : GT G) (R : Int64 × AH) (l0 : Nat) (l1 : Nat) (l2 : Int32) (l3 : Int32) (l4 : Int32) (h : AH) (X : fX7_heldAgainst_98 l0 l1 l2 l3 l4 h = some R) : AW (eX7_heldAgainst G R) RX7 cX7_heldAgainst 98 [some (.ref (gB G + l0)), some (.ref (gB G + l1)), some (.int l2), some (.int l3), some (.int l4), none] [] h 0 0 := by
  unfold fX7_heldAgainst_98 at X
  refine r_ild4 100 dX7_heldAgainst_98 rfl ?_
  refine r_if_ne 121 103 dX7_heldAgainst_100 (by decide) rfl X (fun _ X => ?_) (fun _ X => ?_)
  · refine r_iconst 122 _ dX7_heldAgainst_121 rfl ki_1 ?_
    refine r_goto 126 dX7_heldAgainst_122 (by decide) ?_
    exact r_cut (wX7_heldAgainst_126 G hG R _ _ _ X) ⟨rfl, trivial⟩
  · refine r_ild3 104 dX7_heldAgainst_103 rfl ?_
    refine r_if_ne 125 107 dX7_heldAgainst_104 (by decide) rfl X (fun _ X => ?_) (fun _ X => ?_)
    · refine r_iconst 126 _ dX7_heldAgainst_125 rfl ki_0 ?_
      exact r_cut (wX7_heldAgainst_126 G hG R _ _ _ X) ⟨rfl, trivial⟩
    · refine r_ald0 108 dX7_heldAgainst_107 rfl ?_
      refine r_ild2 109 dX7_heldAgainst_108 rfl ?_
      obtain ⟨hs, X⟩ := r_cv X
      obtain ⟨x102, h101, hc, X⟩ := bnd_ok X
      refine r_callV1 112 dX7_heldAgainst_109 rfl lmX7_76 hs (mtX7_partAt G hG hc) rfl ⟨(Nat.zero_le _), (Nat.zero_le _)⟩ ?_
      refine r_ald1 113 dX7_heldAgainst_112 rfl ?_
      refine r_ild2 114 dX7_heldAgainst_113 rfl ?_
      obtain ⟨hs, X⟩ := r_cv X
      obtain ⟨x104, h103, hc, X⟩ := bnd_ok X
      refine r_callV1 117 dX7_heldAgainst_114 rfl lmX7_76 hs (mtX7_partAt G hG hc) rfl ⟨(Nat.zero_le _), (Nat.zero_le _)⟩ ?_
      refine r_lif_ge 125 121 dX7_heldAgainst_117 dX7_heldAgainst_118 (by decide) rfl X (fun _ X => ?_) (fun _ X => ?_)
      · refine r_iconst 126 _ dX7_heldAgainst_125 rfl ki_0 ?_
        exact r_cut (wX7_heldAgainst_126 G hG R _ _ _ X) ⟨rfl, trivial⟩
      · refine r_iconst 122 _ dX7_heldAgainst_121 rfl ki_1 ?_
        refine r_goto 126 dX7_heldAgainst_122 (by decide) ?_
        exact r_cut (wX7_heldAgainst_126 G hG R _ _ _ X) ⟨rfl, trivial⟩
theorem wX7_heldAgainst_75 (G : GG) (hG : GT G) (R : Int64 × AH) {K2 : Nat → Nat → Int32 → AH → Fn Int64} (hK2 : ∀ (l0 : Nat) (l1 : Nat) (l2 : Int32) (h : AH), K2 l0 l1 l2 h = some R → AW (eX7_heldAgainst G R) RX7 cX7_heldAgainst 2 [some (.ref (gB G + l0)), some (.ref (gB G + l1)), some (.int l2), none, none, none] [] h 0 0) (l0 : Nat) (l1 : Nat) (l2 : Int32) (l3 : Int32) (l4 : Int32) (h : AH) (X : fX7_heldAgainst_75 K2 l0 l1 l2 l3 l4 h = some R) : AW (eX7_heldAgainst G R) RX7 cX7_heldAgainst 75 [some (.ref (gB G + l0)), some (.ref (gB G + l1)), some (.int l2), some (.int l3), some (.int l4), none] [] h 0 0 := by
  unfold fX7_heldAgainst_75 at X
  refine r_ild3 76 dX7_heldAgainst_75 rfl ?_
  refine r_if_ne 98 79 dX7_heldAgainst_76 (by decide) rfl X (fun _ X => ?_) (fun _ X => ?_)
  · exact r_cut (wX7_heldAgainst_98 G hG R _ _ _ _ _ _ X) ⟨rfl, ⟨rfl, ⟨rfl, ⟨rfl, ⟨rfl, trivial⟩⟩⟩⟩⟩
  · refine r_ild4 81 dX7_heldAgainst_79 rfl ?_
    refine r_if_ne 98 84 dX7_heldAgainst_81 (by decide) rfl X (fun _ X => ?_) (fun _ X => ?_)
    · exact r_cut (wX7_heldAgainst_98 G hG R _ _ _ _ _ _ X) ⟨rfl, ⟨rfl, ⟨rfl, ⟨rfl, ⟨rfl, trivial⟩⟩⟩⟩⟩
    · refine r_ald0 85 dX7_heldAgainst_84 rfl ?_
      refine r_ild2 86 dX7_heldAgainst_85 rfl ?_
      obtain ⟨hs, X⟩ := r_cv X
      obtain ⟨x102, h101, hc, X⟩ := bnd_ok X
      refine r_callV1 89 dX7_heldAgainst_86 rfl lmX7_76 hs (mtX7_partAt G hG hc) rfl ⟨(Nat.zero_le _), (Nat.zero_le _)⟩ ?_
      refine r_ald1 90 dX7_heldAgainst_89 rfl ?_
      refine r_ild2 91 dX7_heldAgainst_90 rfl ?_
      obtain ⟨hs, X⟩ := r_cv X
      obtain ⟨x104, h103, hc, X⟩ := bnd_ok X
      refine r_callV1 94 dX7_heldAgainst_91 rfl lmX7_76 hs (mtX7_partAt G hG hc) rfl ⟨(Nat.zero_le _), (Nat.zero_le _)⟩ ?_
      refine r_lif_eq 152 98 dX7_heldAgainst_94 dX7_heldAgainst_95 (by decide) rfl X (fun _ X => ?_) (fun _ X => ?_)
      · refine r_iinc2w 155 dX7_heldAgainst_152 rfl rfl ki_1 X (fun x105 X => ?_)
        refine r_goto 2 dX7_heldAgainst_155 (by decide) ?_
        exact r_cut (hK2 _ _ _ _ X) ⟨rfl, ⟨rfl, ⟨rfl, trivial⟩⟩⟩
      · exact r_cut (wX7_heldAgainst_98 G hG R _ _ _ _ _ _ X) ⟨rfl, ⟨rfl, ⟨rfl, ⟨rfl, ⟨rfl, trivial⟩⟩⟩⟩⟩
theorem wX7_heldAgainst_48 (G : GG) (hG : GT G) (R : Int64 × AH) {K2 : Nat → Nat → Int32 → AH → Fn Int64} (hK2 : ∀ (l0 : Nat) (l1 : Nat) (l2 : Int32) (h : AH), K2 l0 l1 l2 h = some R → AW (eX7_heldAgainst G R) RX7 cX7_heldAgainst 2 [some (.ref (gB G + l0)), some (.ref (gB G + l1)), some (.int l2), none, none, none] [] h 0 0) (l0 : Nat) (l1 : Nat) (l2 : Int32) (l3 : Int32) (l4 : Int32) (h : AH) (X : fX7_heldAgainst_48 K2 l0 l1 l2 l3 l4 h = some R) : AW (eX7_heldAgainst G R) RX7 cX7_heldAgainst 48 [some (.ref (gB G + l0)), some (.ref (gB G + l1)), some (.int l2), some (.int l3), some (.int l4), none] [] h 0 0 := by
  unfold fX7_heldAgainst_48 at X
  refine r_ild4 50 dX7_heldAgainst_48 rfl ?_
  refine r_if_eq 64 53 dX7_heldAgainst_50 (by decide) rfl X (fun _ X => ?_) (fun _ X => ?_)
  · refine r_ild3 65 dX7_heldAgainst_64 rfl ?_
    refine r_if_eq 75 68 dX7_heldAgainst_65 (by decide) rfl X (fun _ X => ?_) (fun _ X => ?_)
    · exact r_cut (wX7_heldAgainst_75 G hG R hK2 _ _ _ _ _ _ X) ⟨rfl, ⟨rfl, ⟨rfl, ⟨rfl, ⟨rfl, trivial⟩⟩⟩⟩⟩
    · refine r_ild4 70 dX7_heldAgainst_68 rfl ?_
      refine r_if_eq 75 73 dX7_heldAgainst_70 (by decide) rfl X (fun _ X => ?_) (fun _ X => ?_)
      · exact r_cut (wX7_heldAgainst_75 G hG R hK2 _ _ _ _ _ _ X) ⟨rfl, ⟨rfl, ⟨rfl, ⟨rfl, ⟨rfl, trivial⟩⟩⟩⟩⟩
      · refine r_lconst 74 _ dX7_heldAgainst_73 rfl kl_0 ?_
        exact r_retL dX7_heldAgainst_74 (Nat.zero_le _) (Nat.zero_le _) X
  · refine r_ald1 54 dX7_heldAgainst_53 rfl ?_
    refine r_gI 57 dX7_heldAgainst_54 rfl lfX7_26 rfl X (fun x101 X => ?_)
    refine r_if_ne 64 60 dX7_heldAgainst_57 (by decide) rfl X (fun _ X => ?_) (fun _ X => ?_)
    · refine r_ild3 65 dX7_heldAgainst_64 rfl ?_
      refine r_if_eq 75 68 dX7_heldAgainst_65 (by decide) rfl X (fun _ X => ?_) (fun _ X => ?_)
      · exact r_cut (wX7_heldAgainst_75 G hG R hK2 _ _ _ _ _ _ X) ⟨rfl, ⟨rfl, ⟨rfl, ⟨rfl, ⟨rfl, trivial⟩⟩⟩⟩⟩
      · refine r_ild4 70 dX7_heldAgainst_68 rfl ?_
        refine r_if_eq 75 73 dX7_heldAgainst_70 (by decide) rfl X (fun _ X => ?_) (fun _ X => ?_)
        · exact r_cut (wX7_heldAgainst_75 G hG R hK2 _ _ _ _ _ _ X) ⟨rfl, ⟨rfl, ⟨rfl, ⟨rfl, ⟨rfl, trivial⟩⟩⟩⟩⟩
        · refine r_lconst 74 _ dX7_heldAgainst_73 rfl kl_0 ?_
          exact r_retL dX7_heldAgainst_74 (Nat.zero_le _) (Nat.zero_le _) X
    · refine r_ldc2 63 dX7_heldAgainst_60 rfl lkX7_74 ?_
      exact r_retL dX7_heldAgainst_63 (Nat.zero_le _) (Nat.zero_le _) X
theorem wX7_heldAgainst_21 (G : GG) (hG : GT G) (R : Int64 × AH) {K2 : Nat → Nat → Int32 → AH → Fn Int64} (hK2 : ∀ (l0 : Nat) (l1 : Nat) (l2 : Int32) (h : AH), K2 l0 l1 l2 h = some R → AW (eX7_heldAgainst G R) RX7 cX7_heldAgainst 2 [some (.ref (gB G + l0)), some (.ref (gB G + l1)), some (.int l2), none, none, none] [] h 0 0) (l0 : Nat) (l1 : Nat) (l2 : Int32) (s0 : Int32) (h : AH) (X : fX7_heldAgainst_21 K2 l0 l1 l2 s0 h = some R) : AW (eX7_heldAgainst G R) RX7 cX7_heldAgainst 21 [some (.ref (gB G + l0)), some (.ref (gB G + l1)), some (.int l2), none, none, none] [.int s0] h 0 0 := by
  unfold fX7_heldAgainst_21 at X
  refine r_ist3 22 dX7_heldAgainst_21 rfl rfl ?_
  refine r_ild2 23 dX7_heldAgainst_22 rfl ?_
  refine r_ald1 24 dX7_heldAgainst_23 rfl ?_
  refine r_gI 27 dX7_heldAgainst_24 rfl lfX7_23 rfl X (fun x101 X => ?_)
  refine r_icmp_lt 34 30 dX7_heldAgainst_27 (by decide) rfl X (fun _ X => ?_) (fun _ X => ?_)
  · refine r_iconst 35 _ dX7_heldAgainst_34 rfl ki_0 ?_
    refine r_ist4 37 dX7_heldAgainst_35 rfl rfl ?_
    refine r_ild3 38 dX7_heldAgainst_37 rfl ?_
    refine r_if_eq 48 41 dX7_heldAgainst_38 (by decide) rfl X (fun _ X => ?_) (fun _ X => ?_)
    · exact r_cut (wX7_heldAgainst_48 G hG R hK2 _ _ _ _ _ _ X) ⟨rfl, ⟨rfl, ⟨rfl, ⟨rfl, ⟨rfl, trivial⟩⟩⟩⟩⟩
    · refine r_ald0 42 dX7_heldAgainst_41 rfl ?_
      refine r_gI 45 dX7_heldAgainst_42 rfl lfX7_26 rfl X (fun x102 X => ?_)
      refine r_if_eq 60 48 dX7_heldAgainst_45 (by decide) rfl X (fun _ X => ?_) (fun _ X => ?_)
      · refine r_ldc2 63 dX7_heldAgainst_60 rfl lkX7_74 ?_
        exact r_retL dX7_heldAgainst_63 (Nat.zero_le _) (Nat.zero_le _) X
      · exact r_cut (wX7_heldAgainst_48 G hG R hK2 _ _ _ _ _ _ X) ⟨rfl, ⟨rfl, ⟨rfl, ⟨rfl, ⟨rfl, trivial⟩⟩⟩⟩⟩
  · refine r_iconst 31 _ dX7_heldAgainst_30 rfl ki_1 ?_
    refine r_goto 35 dX7_heldAgainst_31 (by decide) ?_
    refine r_ist4 37 dX7_heldAgainst_35 rfl rfl ?_
    refine r_ild3 38 dX7_heldAgainst_37 rfl ?_
    refine r_if_eq 48 41 dX7_heldAgainst_38 (by decide) rfl X (fun _ X => ?_) (fun _ X => ?_)
    · exact r_cut (wX7_heldAgainst_48 G hG R hK2 _ _ _ _ _ _ X) ⟨rfl, ⟨rfl, ⟨rfl, ⟨rfl, ⟨rfl, trivial⟩⟩⟩⟩⟩
    · refine r_ald0 42 dX7_heldAgainst_41 rfl ?_
      refine r_gI 45 dX7_heldAgainst_42 rfl lfX7_26 rfl X (fun x103 X => ?_)
      refine r_if_eq 60 48 dX7_heldAgainst_45 (by decide) rfl X (fun _ X => ?_) (fun _ X => ?_)
      · refine r_ldc2 63 dX7_heldAgainst_60 rfl lkX7_74 ?_
        exact r_retL dX7_heldAgainst_63 (Nat.zero_le _) (Nat.zero_le _) X
      · exact r_cut (wX7_heldAgainst_48 G hG R hK2 _ _ _ _ _ _ X) ⟨rfl, ⟨rfl, ⟨rfl, ⟨rfl, ⟨rfl, trivial⟩⟩⟩⟩⟩
theorem wX7_heldAgainst_2 (G : GG) (hG : GT G) (R : Int64 × AH) {K2 : Nat → Nat → Int32 → AH → Fn Int64} (hK2 : ∀ (l0 : Nat) (l1 : Nat) (l2 : Int32) (h : AH), K2 l0 l1 l2 h = some R → AW (eX7_heldAgainst G R) RX7 cX7_heldAgainst 2 [some (.ref (gB G + l0)), some (.ref (gB G + l1)), some (.int l2), none, none, none] [] h 0 0) (l0 : Nat) (l1 : Nat) (l2 : Int32) (h : AH) (X : fX7_heldAgainst_2 K2 l0 l1 l2 h = some R) : AW (eX7_heldAgainst G R) RX7 cX7_heldAgainst 2 [some (.ref (gB G + l0)), some (.ref (gB G + l1)), some (.int l2), none, none, none] [] h 0 0 := by
  unfold fX7_heldAgainst_2 at X
  refine r_ild2 3 dX7_heldAgainst_2 rfl ?_
  refine r_bipush 5 _ dX7_heldAgainst_3 rfl kb_60 ?_
  refine r_icmp_gt 158 8 dX7_heldAgainst_5 (by decide) rfl X (fun _ X => ?_) (fun _ X => ?_)
  · refine r_ldc2 161 dX7_heldAgainst_158 rfl lkX7_74 ?_
    exact r_retL dX7_heldAgainst_161 (Nat.zero_le _) (Nat.zero_le _) X
  · refine r_ild2 9 dX7_heldAgainst_8 rfl ?_
    refine r_ald0 10 dX7_heldAgainst_9 rfl ?_
    refine r_gI 13 dX7_heldAgainst_10 rfl lfX7_23 rfl X (fun x101 X => ?_)
    refine r_icmp_lt 20 16 dX7_heldAgainst_13 (by decide) rfl X (fun _ X => ?_) (fun _ X => ?_)
    · refine r_iconst 21 _ dX7_heldAgainst_20 rfl ki_0 ?_
      exact r_cut (wX7_heldAgainst_21 G hG R hK2 _ _ _ _ _ X) ⟨rfl, ⟨rfl, ⟨rfl, trivial⟩⟩⟩
    · refine r_iconst 17 _ dX7_heldAgainst_16 rfl ki_1 ?_
      refine r_goto 21 dX7_heldAgainst_17 (by decide) ?_
      exact r_cut (wX7_heldAgainst_21 G hG R hK2 _ _ _ _ _ X) ⟨rfl, ⟨rfl, ⟨rfl, trivial⟩⟩⟩
theorem wX7_heldAgainst_2L (G : GG) (hG : GT G) (R : Int64 × AH) : ∀ (m : Nat) (l0 : Nat) (l1 : Nat) (l2 : Int32) (h : AH), fX7_heldAgainst_2L m l0 l1 l2 h = some R → AW (eX7_heldAgainst G R) RX7 cX7_heldAgainst 2 [some (.ref (gB G + l0)), some (.ref (gB G + l1)), some (.int l2), none, none, none] [] h 0 0 := by
  intro m
  induction m with
  | zero => intro l0 l1 l2 h X; exact nomatch (show (none : Fn Int64) = some R from X)
  | succ m ih => intro l0 l1 l2 h X; exact wX7_heldAgainst_2 G hG R ih l0 l1 l2 h X
theorem wX7_heldAgainst (G : GG) (hG : GT G) (R : Int64 × AH) (a0 : Nat) (a1 : Nat) (h : AH) (X : fX7_heldAgainst a0 a1 h = some R) : AW (eX7_heldAgainst G R) RX7 cX7_heldAgainst 0 [some (.ref (gB G + a0)), some (.ref (gB G + a1)), none, none, none, none] [] h 0 0 := by
  unfold fX7_heldAgainst at X
  refine r_iconst 1 _ dX7_heldAgainst_0 rfl ki_0 ?_
  refine r_ist2 2 dX7_heldAgainst_1 rfl rfl ?_
  exact r_cut (wX7_heldAgainst_2L G hG R 1000 _ _ _ _ X) ⟨rfl, ⟨rfl, ⟨rfl, trivial⟩⟩⟩
theorem mtX7_heldAgainst (G : GG) (hG : GT G) {a0 : Nat} {a1 : Nat} {h h' : AH} {v : Int64} (hc : fX7_heldAgainst a0 a1 h = some (v, h')) : AMet G yX7_heldAgainst cX7_heldAgainst 6 (some .long) 1 21 0 0 [.ref (gB G + a0), .ref (gB G + a1)] h (some (.long v)) h' :=
  amet_of false [some (.ref (gB G + a0)), some (.ref (gB G + a1)), none, none, none, none] (by decide +kernel) (by decide) (Nat.le_of_ble_eq_true rfl) rfl (Nat.le_of_ble_eq_true rfl) (wX7_heldAgainst G hG (v, h') _ _ h hc)
abbrev eX5_againstMiddle (G : GG) (R : Int64 × AH) : EE := eM G 6 (some .long) false 3 65 0 0 (some (.long R.1)) R.2
theorem wX5_againstMiddle (G : GG) (hG : GT G) (R : Int64 × AH) (a0 : Nat) (a1 : Nat) (h : AH) (X : fX5_againstMiddle a0 a1 h = some R) : AW (eX5_againstMiddle G R) RX5 cX5_againstMiddle 0 [some (.ref (gB G + a0)), some (.ref (gB G + a1)), none, none, none, none] [] h 0 0 := by
  unfold fX5_againstMiddle at X
  refine r_ald0 1 dX5_againstMiddle_0 rfl ?_
  refine r_gL 4 dX5_againstMiddle_1 rfl lfX5_9 rfl X (fun x101 X => ?_)
  refine r_ald0 5 dX5_againstMiddle_4 rfl ?_
  refine r_gL 8 dX5_againstMiddle_5 rfl lfX5_21 rfl X (fun x102 X => ?_)
  obtain ⟨x104, h103, hc, X⟩ := bnd_ok X
  refine r_callS2 11 dX5_againstMiddle_8 rfl lmX5_74 (mtX8_times G hG hc) rfl ⟨(Nat.zero_le _), (Nat.zero_le _)⟩ ?_
  refine r_ald0 12 dX5_againstMiddle_11 rfl ?_
  refine r_gL 15 dX5_againstMiddle_12 rfl lfX5_18 rfl X (fun x105 X => ?_)
  refine r_ald0 16 dX5_againstMiddle_15 rfl ?_
  refine r_gL 19 dX5_againstMiddle_16 rfl lfX5_15 rfl X (fun x106 X => ?_)
  obtain ⟨x108, h107, hc, X⟩ := bnd_ok X
  refine r_callS2 22 dX5_againstMiddle_19 rfl lmX5_74 (mtX8_times G hG hc) rfl ⟨(Nat.zero_le _), (Nat.zero_le _)⟩ ?_
  obtain ⟨x110, h109, hc, X⟩ := bnd_ok X
  refine r_callS2 25 dX5_againstMiddle_22 rfl lmX5_77 (mtX8_plus G hG hc) rfl ⟨(Nat.zero_le _), (Nat.zero_le _)⟩ ?_
  refine r_lst2 26 dX5_againstMiddle_25 rfl rfl ?_
  refine r_ldc2 29 dX5_againstMiddle_26 rfl lkX5_80 ?_
  refine r_ald0 30 dX5_againstMiddle_29 rfl ?_
  refine r_gL 33 dX5_againstMiddle_30 rfl lfX5_15 rfl X (fun x111 X => ?_)
  obtain ⟨x113, h112, hc, X⟩ := bnd_ok X
  refine r_callS2 36 dX5_againstMiddle_33 rfl lmX5_74 (mtX8_times G hG hc) rfl ⟨(Nat.zero_le _), (Nat.zero_le _)⟩ ?_
  refine r_ald0 37 dX5_againstMiddle_36 rfl ?_
  refine r_gL 40 dX5_againstMiddle_37 rfl lfX5_21 rfl X (fun x114 X => ?_)
  obtain ⟨x116, h115, hc, X⟩ := bnd_ok X
  refine r_callS2 43 dX5_againstMiddle_40 rfl lmX5_74 (mtX8_times G hG hc) rfl ⟨(Nat.zero_le _), (Nat.zero_le _)⟩ ?_
  refine r_lst4 45 dX5_againstMiddle_43 rfl rfl ?_
  refine r_ald0 46 dX5_againstMiddle_45 rfl ?_
  refine r_gR 49 dX5_againstMiddle_46 rfl lfX5_27 rfl X (fun b117 X => ?_)
  refine r_lld2 50 dX5_againstMiddle_49 rfl ?_
  refine r_lconst 51 _ dX5_againstMiddle_50 rfl kl_0 ?_
  refine r_lconst 52 _ dX5_againstMiddle_51 rfl kl_0 ?_
  refine r_lld4 54 dX5_againstMiddle_52 rfl ?_
  obtain ⟨hs, X⟩ := r_cv X
  obtain ⟨_, h118, hc, X⟩ := bnd_ok X
  refine r_callV4v 57 dX5_againstMiddle_54 rfl lmX5_82 hs (mtX3_become G hG hc) rfl ⟨(Nat.zero_le _), (Nat.zero_le _)⟩ ?_
  refine r_ald0 58 dX5_againstMiddle_57 rfl ?_
  refine r_gR 61 dX5_againstMiddle_58 rfl lfX5_27 rfl X (fun b119 X => ?_)
  obtain ⟨hs, X⟩ := r_cv X
  obtain ⟨x121, h120, hc, X⟩ := bnd_ok X
  refine r_callV0 64 dX5_againstMiddle_61 rfl lmX5_86 hs (mtX3_bringToLeastTerms G hG hc) rfl ⟨(Nat.zero_le _), (Nat.zero_le _)⟩ ?_
  refine r_if_ne 71 67 dX5_againstMiddle_64 (by decide) rfl X (fun _ X => ?_) (fun _ X => ?_)
  · refine r_ald0 72 dX5_againstMiddle_71 rfl ?_
    refine r_gR 75 dX5_againstMiddle_72 rfl lfX5_34 rfl X (fun b122 X => ?_)
    refine r_ald0 76 dX5_againstMiddle_75 rfl ?_
    refine r_gR 79 dX5_againstMiddle_76 rfl lfX5_27 rfl X (fun b123 X => ?_)
    refine r_gL 82 dX5_againstMiddle_79 rfl lfX5_90 rfl X (fun x124 X => ?_)
    refine r_ald0 83 dX5_againstMiddle_82 rfl ?_
    refine r_gR 86 dX5_againstMiddle_83 rfl lfX5_27 rfl X (fun b125 X => ?_)
    refine r_gL 89 dX5_againstMiddle_86 rfl lfX5_93 rfl X (fun x126 X => ?_)
    obtain ⟨hs, X⟩ := r_cv X
    obtain ⟨_, h127, hc, X⟩ := bnd_ok X
    refine r_callV2v 92 dX5_againstMiddle_89 rfl lmX5_96 hs (mtX7_becomeRatio G hG hc) rfl ⟨(Nat.zero_le _), (Nat.zero_le _)⟩ ?_
    refine r_ald1 93 dX5_againstMiddle_92 rfl ?_
    refine r_ald0 94 dX5_againstMiddle_93 rfl ?_
    refine r_gR 97 dX5_againstMiddle_94 rfl lfX5_34 rfl X (fun b128 X => ?_)
    obtain ⟨hs, X⟩ := r_cv X
    obtain ⟨x130, h129, hc, X⟩ := bnd_ok X
    refine r_callV1 100 dX5_againstMiddle_97 rfl lmX5_100 hs (mtX7_heldAgainst G hG hc) rfl ⟨(Nat.zero_le _), (Nat.zero_le _)⟩ ?_
    exact r_retL dX5_againstMiddle_100 (Nat.zero_le _) (Nat.zero_le _) X
  · refine r_ldc2 70 dX5_againstMiddle_67 rfl lkX5_55 ?_
    exact r_retL dX5_againstMiddle_70 (Nat.zero_le _) (Nat.zero_le _) X
theorem mtX5_againstMiddle (G : GG) (hG : GT G) {a0 : Nat} {a1 : Nat} {h h' : AH} {v : Int64} (hc : fX5_againstMiddle a0 a1 h = some (v, h')) : AMet G yX5_againstMiddle cX5_againstMiddle 6 (some .long) 3 65 0 0 [.ref (gB G + a0), .ref (gB G + a1)] h (some (.long v)) h' :=
  amet_of false [some (.ref (gB G + a0)), some (.ref (gB G + a1)), none, none, none, none] (by decide +kernel) (by decide) (Nat.le_of_ble_eq_true rfl) rfl (Nat.le_of_ble_eq_true rfl) (wX5_againstMiddle G hG (v, h') _ _ h hc)
abbrev eX5_setSide (G : GG) (R : Unit × AH) : EE := eM G 6 none false 0 0 0 0 none R.2
theorem wX5_setSide (G : GG) (hG : GT G) (R : Unit × AH) (a0 : Nat) (x0 : Int32) (x1 : Int64) (x2 : Int64) (h : AH) (X : fX5_setSide a0 x0 x1 x2 h = some R) : AW (eX5_setSide G R) RX5 cX5_setSide 0 [some (.ref (gB G + a0)), some (.int x0), some (.long x1), none, some (.long x2), none] [] h 0 0 := by
  unfold fX5_setSide at X
  refine r_ild1 1 dX5_setSide_0 rfl ?_
  refine r_if_eq 18 4 dX5_setSide_1 (by decide) rfl X (fun _ X => ?_) (fun _ X => ?_)
  · refine r_ald0 19 dX5_setSide_18 rfl ?_
    refine r_lld2 20 dX5_setSide_19 rfl ?_
    refine r_pL 23 dX5_setSide_20 rfl lpX5_18 rfl X (fun h101 X => ?_)
    refine r_ald0 24 dX5_setSide_23 rfl ?_
    refine r_lld4 26 dX5_setSide_24 rfl ?_
    refine r_pL 29 dX5_setSide_26 rfl lpX5_21 rfl X (fun h102 X => ?_)
    exact r_retV dX5_setSide_29 (Nat.zero_le _) (Nat.zero_le _) X
  · refine r_ald0 5 dX5_setSide_4 rfl ?_
    refine r_lld2 6 dX5_setSide_5 rfl ?_
    refine r_pL 9 dX5_setSide_6 rfl lpX5_9 rfl X (fun h103 X => ?_)
    refine r_ald0 10 dX5_setSide_9 rfl ?_
    refine r_lld4 12 dX5_setSide_10 rfl ?_
    refine r_pL 15 dX5_setSide_12 rfl lpX5_15 rfl X (fun h104 X => ?_)
    refine r_goto 29 dX5_setSide_15 (by decide) ?_
    exact r_retV dX5_setSide_29 (Nat.zero_le _) (Nat.zero_le _) X
theorem mtX5_setSide (G : GG) (hG : GT G) {a0 : Nat} {x0 : Int32} {x1 : Int64} {x2 : Int64} {h h' : AH} {v : Unit} (hc : fX5_setSide a0 x0 x1 x2 h = some (v, h')) : AMet G yX5_setSide cX5_setSide 6 none 0 0 0 0 [.ref (gB G + a0), .int x0, .long x1, .long x2] h none h' :=
  amet_of false [some (.ref (gB G + a0)), some (.int x0), some (.long x1), none, some (.long x2), none] (by decide +kernel) (by decide) (Nat.le_of_ble_eq_true rfl) rfl (Nat.le_of_ble_eq_true rfl) (wX5_setSide G hG (v, h') _ _ _ _ h hc)
abbrev eX5_settleAhead (G : GG) (R : Unit × AH) : EE := eM G 10 none false 2 48 0 0 none R.2
theorem wX5_settleAhead_66 (G : GG) (hG : GT G) (R : Unit × AH) (l1 : Nat) (l2 : Int32) (l5 : Int64) (l7 : Int64) (s0 : Nat) (s1 : Int32) (h : AH) (X : fX5_settleAhead_66 l1 l2 l5 l7 s0 s1 h = some R) : AW (eX5_settleAhead G R) RX5 cX5_settleAhead 66 [none, some (.ref (gB G + l1)), some (.int l2), none, none, some (.long l5), none, some (.long l7), none, none] [.int s1, .ref (gB G + s0)] h 0 0 := by
  unfold fX5_settleAhead_66 at X
  refine r_ald1 67 dX5_settleAhead_66 rfl ?_
  refine r_ild2 68 dX5_settleAhead_67 rfl ?_
  refine r_iconst 69 _ dX5_settleAhead_68 rfl ki_2 ?_
  refine r_isub 70 dX5_settleAhead_69 rfl ?_
  obtain ⟨hs, X⟩ := r_cv X
  obtain ⟨x102, h101, hc, X⟩ := bnd_ok X
  refine r_callV1 73 dX5_settleAhead_70 rfl lmX5_63 hs (mtX2_upperAt G hG hc) rfl ⟨(Nat.zero_le _), (Nat.zero_le _)⟩ ?_
  refine r_lld7 75 dX5_settleAhead_73 rfl ?_
  refine r_ald1 76 dX5_settleAhead_75 rfl ?_
  refine r_ild2 77 dX5_settleAhead_76 rfl ?_
  refine r_iconst 78 _ dX5_settleAhead_77 rfl ki_1 ?_
  refine r_isub 79 dX5_settleAhead_78 rfl ?_
  obtain ⟨hs, X⟩ := r_cv X
  obtain ⟨x104, h103, hc, X⟩ := bnd_ok X
  refine r_callV1 82 dX5_settleAhead_79 rfl lmX5_63 hs (mtX2_upperAt G hG hc) rfl ⟨(Nat.zero_le _), (Nat.zero_le _)⟩ ?_
  refine r_lmul 83 dX5_settleAhead_82 rfl ?_
  refine r_ladd 84 dX5_settleAhead_83 rfl ?_
  refine r_ald1 85 dX5_settleAhead_84 rfl ?_
  refine r_ild2 86 dX5_settleAhead_85 rfl ?_
  refine r_iconst 87 _ dX5_settleAhead_86 rfl ki_2 ?_
  refine r_isub 88 dX5_settleAhead_87 rfl ?_
  obtain ⟨hs, X⟩ := r_cv X
  obtain ⟨x106, h105, hc, X⟩ := bnd_ok X
  refine r_callV1 91 dX5_settleAhead_88 rfl lmX5_44 hs (mtX2_lowerAt G hG hc) rfl ⟨(Nat.zero_le _), (Nat.zero_le _)⟩ ?_
  refine r_lld7 93 dX5_settleAhead_91 rfl ?_
  refine r_lld5 95 dX5_settleAhead_93 rfl ?_
  refine r_lmul 96 dX5_settleAhead_95 rfl ?_
  refine r_ladd 97 dX5_settleAhead_96 rfl ?_
  obtain ⟨hs, X⟩ := r_cv X
  obtain ⟨_, h107, hc, X⟩ := bnd_ok X
  refine r_callV3v 100 dX5_settleAhead_97 rfl lmX5_66 hs (mtX5_setSide G hG hc) rfl ⟨(Nat.zero_le _), (Nat.zero_le _)⟩ ?_
  exact r_retV dX5_settleAhead_100 (Nat.zero_le _) (Nat.zero_le _) X
theorem wX5_settleAhead_38 (G : GG) (hG : GT G) (R : Unit × AH) (l0 : Nat) (l1 : Nat) (l2 : Int32) (l5 : Int64) (l7 : Int64) (s0 : Int32) (h : AH) (X : fX5_settleAhead_38 l0 l1 l2 l5 l7 s0 h = some R) : AW (eX5_settleAhead G R) RX5 cX5_settleAhead 38 [some (.ref (gB G + l0)), some (.ref (gB G + l1)), some (.int l2), none, none, some (.long l5), none, some (.long l7), none, none] [.int s0] h 0 0 := by
  unfold fX5_settleAhead_38 at X
  refine r_ist9 40 dX5_settleAhead_38 rfl rfl ?_
  refine r_ald0 41 dX5_settleAhead_40 rfl ?_
  refine r_ild9 43 dX5_settleAhead_41 rfl ?_
  refine r_ald1 44 dX5_settleAhead_43 rfl ?_
  refine r_ild2 45 dX5_settleAhead_44 rfl ?_
  refine r_iconst 46 _ dX5_settleAhead_45 rfl ki_1 ?_
  refine r_isub 47 dX5_settleAhead_46 rfl ?_
  obtain ⟨hs, X⟩ := r_cv X
  obtain ⟨x102, h101, hc, X⟩ := bnd_ok X
  refine r_callV1 50 dX5_settleAhead_47 rfl lmX5_63 hs (mtX2_upperAt G hG hc) rfl ⟨(Nat.zero_le _), (Nat.zero_le _)⟩ ?_
  refine r_lld5 52 dX5_settleAhead_50 rfl ?_
  obtain ⟨hs, X⟩ := r_cv X
  obtain ⟨_, h103, hc, X⟩ := bnd_ok X
  refine r_callV3v 55 dX5_settleAhead_52 rfl lmX5_66 hs (mtX5_setSide G hG hc) rfl ⟨(Nat.zero_le _), (Nat.zero_le _)⟩ ?_
  refine r_ald0 56 dX5_settleAhead_55 rfl ?_
  refine r_ild9 58 dX5_settleAhead_56 rfl ?_
  refine r_if_ne 65 61 dX5_settleAhead_58 (by decide) rfl X (fun _ X => ?_) (fun _ X => ?_)
  · refine r_iconst 66 _ dX5_settleAhead_65 rfl ki_0 ?_
    exact r_cut (wX5_settleAhead_66 G hG R _ _ _ _ _ _ _ X) ⟨rfl, ⟨rfl, ⟨rfl, ⟨rfl, trivial⟩⟩⟩⟩
  · refine r_iconst 62 _ dX5_settleAhead_61 rfl ki_1 ?_
    refine r_goto 66 dX5_settleAhead_62 (by decide) ?_
    exact r_cut (wX5_settleAhead_66 G hG R _ _ _ _ _ _ _ X) ⟨rfl, ⟨rfl, ⟨rfl, ⟨rfl, trivial⟩⟩⟩⟩
theorem wX5_settleAhead (G : GG) (hG : GT G) (R : Unit × AH) (a0 : Nat) (a1 : Nat) (x1 : Int32) (x2 : Int64) (h : AH) (X : fX5_settleAhead a0 a1 x1 x2 h = some R) : AW (eX5_settleAhead G R) RX5 cX5_settleAhead 0 [some (.ref (gB G + a0)), some (.ref (gB G + a1)), some (.int x1), some (.long x2), none, none, none, none, none, none] [] h 0 0 := by
  unfold fX5_settleAhead at X
  refine r_ald1 1 dX5_settleAhead_0 rfl ?_
  refine r_ild2 2 dX5_settleAhead_1 rfl ?_
  refine r_iconst 3 _ dX5_settleAhead_2 rfl ki_1 ?_
  refine r_isub 4 dX5_settleAhead_3 rfl ?_
  obtain ⟨hs, X⟩ := r_cv X
  obtain ⟨x102, h101, hc, X⟩ := bnd_ok X
  refine r_callV1 7 dX5_settleAhead_4 rfl lmX5_44 hs (mtX2_lowerAt G hG hc) rfl ⟨(Nat.zero_le _), (Nat.zero_le _)⟩ ?_
  refine r_lst5 9 dX5_settleAhead_7 rfl rfl ?_
  refine r_lld3 10 dX5_settleAhead_9 rfl ?_
  refine r_ald1 11 dX5_settleAhead_10 rfl ?_
  refine r_ild2 12 dX5_settleAhead_11 rfl ?_
  refine r_iconst 13 _ dX5_settleAhead_12 rfl ki_2 ?_
  refine r_isub 14 dX5_settleAhead_13 rfl ?_
  obtain ⟨hs, X⟩ := r_cv X
  obtain ⟨x104, h103, hc, X⟩ := bnd_ok X
  refine r_callV1 17 dX5_settleAhead_14 rfl lmX5_44 hs (mtX2_lowerAt G hG hc) rfl ⟨(Nat.zero_le _), (Nat.zero_le _)⟩ ?_
  refine r_lsub 18 dX5_settleAhead_17 rfl ?_
  refine r_lld5 20 dX5_settleAhead_18 rfl ?_
  obtain ⟨x106, h105, hc, X⟩ := bnd_ok X
  refine r_callS2 23 dX5_settleAhead_20 rfl lmX5_70 (mtX8_floorOf G hG hc) rfl ⟨(Nat.zero_le _), (Nat.zero_le _)⟩ ?_
  refine r_lst7 25 dX5_settleAhead_23 rfl rfl ?_
  refine r_ild2 26 dX5_settleAhead_25 rfl ?_
  refine r_iconst 27 _ dX5_settleAhead_26 rfl ki_1 ?_
  refine r_isub 28 dX5_settleAhead_27 rfl ?_
  refine r_iconst 29 _ dX5_settleAhead_28 rfl ki_2 ?_
  refine r_irem 30 dX5_settleAhead_29 rfl X (fun X => ?_)
  refine r_if_ne 37 33 dX5_settleAhead_30 (by decide) rfl X (fun _ X => ?_) (fun _ X => ?_)
  · refine r_iconst 38 _ dX5_settleAhead_37 rfl ki_0 ?_
    exact r_cut (wX5_settleAhead_38 G hG R _ _ _ _ _ _ _ X) ⟨rfl, ⟨rfl, ⟨rfl, ⟨rfl, ⟨rfl, trivial⟩⟩⟩⟩⟩
  · refine r_iconst 34 _ dX5_settleAhead_33 rfl ki_1 ?_
    refine r_goto 38 dX5_settleAhead_34 (by decide) ?_
    exact r_cut (wX5_settleAhead_38 G hG R _ _ _ _ _ _ _ X) ⟨rfl, ⟨rfl, ⟨rfl, ⟨rfl, ⟨rfl, trivial⟩⟩⟩⟩⟩
theorem mtX5_settleAhead (G : GG) (hG : GT G) {a0 : Nat} {a1 : Nat} {x1 : Int32} {x2 : Int64} {h h' : AH} {v : Unit} (hc : fX5_settleAhead a0 a1 x1 x2 h = some (v, h')) : AMet G yX5_settleAhead cX5_settleAhead 10 none 2 48 0 0 [.ref (gB G + a0), .ref (gB G + a1), .int x1, .long x2] h none h' :=
  amet_of false [some (.ref (gB G + a0)), some (.ref (gB G + a1)), some (.int x1), some (.long x2), none, none, none, none, none, none] (by decide +kernel) (by decide) (Nat.le_of_ble_eq_true rfl) rfl (Nat.le_of_ble_eq_true rfl) (wX5_settleAhead G hG (v, h') _ _ _ _ h hc)
abbrev eX5_seek (G : GG) (R : Int64 × AH) : EE := eM G 6 (some .long) false 3 77 0 0 (some (.long R.1)) R.2
theorem wX5_seek_39 (G : GG) (hG : GT G) (R : Int64 × AH) (l0 : Nat) (l1 : Nat) (l2 : Nat) (h : AH) (X : fX5_seek_39 l0 l1 l2 h = some R) : AW (eX5_seek G R) RX5 cX5_seek 39 [some (.ref (gB G + l0)), some (.ref (gB G + l1)), some (.ref (gB G + l2)), none, none, none] [] h 0 0 := by
  unfold fX5_seek_39 at X
  refine r_ald2 40 dX5_seek_39 rfl ?_
  refine r_gI 43 dX5_seek_40 rfl lfX5_38 rfl X (fun x101 X => ?_)
  refine r_ald1 44 dX5_seek_43 rfl ?_
  refine r_gI 47 dX5_seek_44 rfl lfX5_52 rfl X (fun x102 X => ?_)
  refine r_icmp_ge 54 50 dX5_seek_47 (by decide) rfl X (fun _ X => ?_) (fun _ X => ?_)
  · refine r_ald1 55 dX5_seek_54 rfl ?_
    refine r_gI 58 dX5_seek_55 rfl lfX5_57 rfl X (fun x103 X => ?_)
    refine r_if_ne 65 61 dX5_seek_58 (by decide) rfl X (fun _ X => ?_) (fun _ X => ?_)
    · refine r_ald0 66 dX5_seek_65 rfl ?_
      refine r_iconst 67 _ dX5_seek_66 rfl ki_1 ?_
      refine r_ald2 68 dX5_seek_67 rfl ?_
      refine r_ald2 69 dX5_seek_68 rfl ?_
      refine r_gI 72 dX5_seek_69 rfl lfX5_38 rfl X (fun x104 X => ?_)
      refine r_iconst 73 _ dX5_seek_72 rfl ki_1 ?_
      refine r_isub 74 dX5_seek_73 rfl ?_
      obtain ⟨hs, X⟩ := r_cv X
      obtain ⟨x106, h105, hc, X⟩ := bnd_ok X
      refine r_callV1 77 dX5_seek_74 rfl lmX5_63 hs (mtX2_upperAt G hG hc) rfl ⟨(Nat.zero_le _), (Nat.zero_le _)⟩ ?_
      refine r_ald2 78 dX5_seek_77 rfl ?_
      refine r_ald2 79 dX5_seek_78 rfl ?_
      refine r_gI 82 dX5_seek_79 rfl lfX5_38 rfl X (fun x107 X => ?_)
      refine r_iconst 83 _ dX5_seek_82 rfl ki_1 ?_
      refine r_isub 84 dX5_seek_83 rfl ?_
      obtain ⟨hs, X⟩ := r_cv X
      obtain ⟨x109, h108, hc, X⟩ := bnd_ok X
      refine r_callV1 87 dX5_seek_84 rfl lmX5_44 hs (mtX2_lowerAt G hG hc) rfl ⟨(Nat.zero_le _), (Nat.zero_le _)⟩ ?_
      obtain ⟨hs, X⟩ := r_cv X
      obtain ⟨_, h110, hc, X⟩ := bnd_ok X
      refine r_callV3v 90 dX5_seek_87 rfl lmX5_66 hs (mtX5_setSide G hG hc) rfl ⟨(Nat.zero_le _), (Nat.zero_le _)⟩ ?_
      refine r_ald0 91 dX5_seek_90 rfl ?_
      refine r_iconst 92 _ dX5_seek_91 rfl ki_0 ?_
      refine r_ald2 93 dX5_seek_92 rfl ?_
      refine r_ald2 94 dX5_seek_93 rfl ?_
      refine r_gI 97 dX5_seek_94 rfl lfX5_38 rfl X (fun x111 X => ?_)
      refine r_iconst 98 _ dX5_seek_97 rfl ki_1 ?_
      refine r_isub 99 dX5_seek_98 rfl ?_
      obtain ⟨hs, X⟩ := r_cv X
      obtain ⟨x113, h112, hc, X⟩ := bnd_ok X
      refine r_callV1 102 dX5_seek_99 rfl lmX5_63 hs (mtX2_upperAt G hG hc) rfl ⟨(Nat.zero_le _), (Nat.zero_le _)⟩ ?_
      refine r_ald2 103 dX5_seek_102 rfl ?_
      refine r_ald2 104 dX5_seek_103 rfl ?_
      refine r_gI 107 dX5_seek_104 rfl lfX5_38 rfl X (fun x114 X => ?_)
      refine r_iconst 108 _ dX5_seek_107 rfl ki_1 ?_
      refine r_isub 109 dX5_seek_108 rfl ?_
      obtain ⟨hs, X⟩ := r_cv X
      obtain ⟨x116, h115, hc, X⟩ := bnd_ok X
      refine r_callV1 112 dX5_seek_109 rfl lmX5_44 hs (mtX2_lowerAt G hG hc) rfl ⟨(Nat.zero_le _), (Nat.zero_le _)⟩ ?_
      obtain ⟨hs, X⟩ := r_cv X
      obtain ⟨_, h117, hc, X⟩ := bnd_ok X
      refine r_callV3v 115 dX5_seek_112 rfl lmX5_66 hs (mtX5_setSide G hG hc) rfl ⟨(Nat.zero_le _), (Nat.zero_le _)⟩ ?_
      refine r_lconst 116 _ dX5_seek_115 rfl kl_0 ?_
      exact r_retL dX5_seek_116 (Nat.zero_le _) (Nat.zero_le _) X
    · refine r_ldc2 64 dX5_seek_61 rfl lkX5_61 ?_
      exact r_retL dX5_seek_64 (Nat.zero_le _) (Nat.zero_le _) X
  · refine r_ldc2 53 dX5_seek_50 rfl lkX5_55 ?_
    exact r_retL dX5_seek_53 (Nat.zero_le _) (Nat.zero_le _) X
theorem wX5_seek_23 (G : GG) (hG : GT G) (R : Int64 × AH) (l0 : Nat) (l2 : Nat) (l3 : Int64) (l5 : Int32) (h : AH) (X : fX5_seek_23 l0 l2 l3 l5 h = some R) : AW (eX5_seek G R) RX5 cX5_seek 23 [some (.ref (gB G + l0)), none, some (.ref (gB G + l2)), some (.long l3), none, some (.int l5)] [] h 0 0 := by
  unfold fX5_seek_23 at X
  refine r_ald0 24 dX5_seek_23 rfl ?_
  refine r_ald2 25 dX5_seek_24 rfl ?_
  refine r_ild5 27 dX5_seek_25 rfl ?_
  refine r_lld3 28 dX5_seek_27 rfl ?_
  obtain ⟨hs, X⟩ := r_cv X
  obtain ⟨_, h101, hc, X⟩ := bnd_ok X
  refine r_callV3v 31 dX5_seek_28 rfl lmX5_48 hs (mtX5_settleAhead G hG hc) rfl ⟨(Nat.zero_le _), (Nat.zero_le _)⟩ ?_
  refine r_lconst 32 _ dX5_seek_31 rfl kl_0 ?_
  exact r_retL dX5_seek_32 (Nat.zero_le _) (Nat.zero_le _) X
theorem wX5_seek_3 (G : GG) (hG : GT G) (R : Int64 × AH) {K3 : Nat → Nat → Nat → Int64 → Int32 → AH → Fn Int64} (hK3 : ∀ (l0 : Nat) (l1 : Nat) (l2 : Nat) (l3 : Int64) (l5 : Int32) (h : AH), K3 l0 l1 l2 l3 l5 h = some R → AW (eX5_seek G R) RX5 cX5_seek 3 [some (.ref (gB G + l0)), some (.ref (gB G + l1)), some (.ref (gB G + l2)), some (.long l3), none, some (.int l5)] [] h 0 0) (l0 : Nat) (l1 : Nat) (l2 : Nat) (l3 : Int64) (l5 : Int32) (h : AH) (X : fX5_seek_3 K3 l0 l1 l2 l3 l5 h = some R) : AW (eX5_seek G R) RX5 cX5_seek 3 [some (.ref (gB G + l0)), some (.ref (gB G + l1)), some (.ref (gB G + l2)), some (.long l3), none, some (.int l5)] [] h 0 0 := by
  unfold fX5_seek_3 at X
  refine r_ild5 5 dX5_seek_3 rfl ?_
  refine r_ald2 6 dX5_seek_5 rfl ?_
  refine r_gI 9 dX5_seek_6 rfl lfX5_38 rfl X (fun x101 X => ?_)
  refine r_icmp_ge 39 12 dX5_seek_9 (by decide) rfl X (fun _ X => ?_) (fun _ X => ?_)
  · exact r_cut (wX5_seek_39 G hG R _ _ _ _ X) ⟨rfl, ⟨rfl, ⟨rfl, trivial⟩⟩⟩
  · refine r_ald2 13 dX5_seek_12 rfl ?_
    refine r_ild5 15 dX5_seek_13 rfl ?_
    obtain ⟨hs, X⟩ := r_cv X
    obtain ⟨x103, h102, hc, X⟩ := bnd_ok X
    refine r_callV1 18 dX5_seek_15 rfl lmX5_44 hs (mtX2_lowerAt G hG hc) rfl ⟨(Nat.zero_le _), (Nat.zero_le _)⟩ ?_
    refine r_lld3 19 dX5_seek_18 rfl ?_
    refine r_lif_le 33 23 dX5_seek_19 dX5_seek_20 (by decide) rfl X (fun _ X => ?_) (fun _ X => ?_)
    · refine r_iinc5w 36 dX5_seek_33 rfl rfl ki_1 X (fun x104 X => ?_)
      refine r_goto 3 dX5_seek_36 (by decide) ?_
      exact r_cut (hK3 _ _ _ _ _ _ X) ⟨rfl, ⟨rfl, ⟨rfl, ⟨rfl, ⟨rfl, trivial⟩⟩⟩⟩⟩
    · exact r_cut (wX5_seek_23 G hG R _ _ _ _ _ X) ⟨rfl, ⟨rfl, ⟨rfl, ⟨rfl, trivial⟩⟩⟩⟩
theorem wX5_seek_3L (G : GG) (hG : GT G) (R : Int64 × AH) : ∀ (m : Nat) (l0 : Nat) (l1 : Nat) (l2 : Nat) (l3 : Int64) (l5 : Int32) (h : AH), fX5_seek_3L m l0 l1 l2 l3 l5 h = some R → AW (eX5_seek G R) RX5 cX5_seek 3 [some (.ref (gB G + l0)), some (.ref (gB G + l1)), some (.ref (gB G + l2)), some (.long l3), none, some (.int l5)] [] h 0 0 := by
  intro m
  induction m with
  | zero => intro l0 l1 l2 l3 l5 h X; exact nomatch (show (none : Fn Int64) = some R from X)
  | succ m ih => intro l0 l1 l2 l3 l5 h X; exact wX5_seek_3 G hG R ih l0 l1 l2 l3 l5 h X
theorem wX5_seek (G : GG) (hG : GT G) (R : Int64 × AH) (a0 : Nat) (a1 : Nat) (a2 : Nat) (x2 : Int64) (h : AH) (X : fX5_seek a0 a1 a2 x2 h = some R) : AW (eX5_seek G R) RX5 cX5_seek 0 [some (.ref (gB G + a0)), some (.ref (gB G + a1)), some (.ref (gB G + a2)), some (.long x2), none, none] [] h 0 0 := by
  unfold fX5_seek at X
  refine r_iconst 1 _ dX5_seek_0 rfl ki_0 ?_
  refine r_ist5 3 dX5_seek_1 rfl rfl ?_
  exact r_cut (wX5_seek_3L G hG R 1000 _ _ _ _ _ _ X) ⟨rfl, ⟨rfl, ⟨rfl, ⟨rfl, ⟨rfl, trivial⟩⟩⟩⟩⟩
theorem mtX5_seek (G : GG) (hG : GT G) {a0 : Nat} {a1 : Nat} {a2 : Nat} {x2 : Int64} {h h' : AH} {v : Int64} (hc : fX5_seek a0 a1 a2 x2 h = some (v, h')) : AMet G yX5_seek cX5_seek 6 (some .long) 3 77 0 0 [.ref (gB G + a0), .ref (gB G + a1), .ref (gB G + a2), .long x2] h (some (.long v)) h' :=
  amet_of false [some (.ref (gB G + a0)), some (.ref (gB G + a1)), some (.ref (gB G + a2)), some (.long x2), none, none] (by decide +kernel) (by decide) (Nat.le_of_ble_eq_true rfl) rfl (Nat.le_of_ble_eq_true rfl) (wX5_seek G hG (v, h') _ _ _ _ h hc)
abbrev eX5_tell (G : GG) (R : Int64 × AH) : EE := eM G 3 (some .long) false 0 0 0 0 (some (.long R.1)) R.2
theorem wX5_tell (G : GG) (hG : GT G) (R : Int64 × AH) (a0 : Nat) (x0 : Int32) (x1 : Int32) (h : AH) (X : fX5_tell a0 x0 x1 h = some R) : AW (eX5_tell G R) RX5 cX5_tell 0 [some (.ref (gB G + a0)), some (.int x0), some (.int x1)] [] h 0 0 := by
  unfold fX5_tell at X
  refine r_ild1 1 dX5_tell_0 rfl ?_
  refine r_if_eq 20 4 dX5_tell_1 (by decide) rfl X (fun _ X => ?_) (fun _ X => ?_)
  · refine r_ild2 21 dX5_tell_20 rfl ?_
    refine r_if_ne 31 24 dX5_tell_21 (by decide) rfl X (fun _ X => ?_) (fun _ X => ?_)
    · refine r_ald0 32 dX5_tell_31 rfl ?_
      refine r_gL 35 dX5_tell_32 rfl lfX5_15 rfl X (fun x101 X => ?_)
      exact r_retL dX5_tell_35 (Nat.zero_le _) (Nat.zero_le _) X
    · refine r_ald0 25 dX5_tell_24 rfl ?_
      refine r_gL 28 dX5_tell_25 rfl lfX5_9 rfl X (fun x102 X => ?_)
      refine r_goto 35 dX5_tell_28 (by decide) ?_
      exact r_retL dX5_tell_35 (Nat.zero_le _) (Nat.zero_le _) X
  · refine r_ild2 5 dX5_tell_4 rfl ?_
    refine r_if_ne 15 8 dX5_tell_5 (by decide) rfl X (fun _ X => ?_) (fun _ X => ?_)
    · refine r_ald0 16 dX5_tell_15 rfl ?_
      refine r_gL 19 dX5_tell_16 rfl lfX5_21 rfl X (fun x103 X => ?_)
      exact r_retL dX5_tell_19 (Nat.zero_le _) (Nat.zero_le _) X
    · refine r_ald0 9 dX5_tell_8 rfl ?_
      refine r_gL 12 dX5_tell_9 rfl lfX5_18 rfl X (fun x104 X => ?_)
      refine r_goto 19 dX5_tell_12 (by decide) ?_
      exact r_retL dX5_tell_19 (Nat.zero_le _) (Nat.zero_le _) X
theorem mtX5_tell (G : GG) (hG : GT G) {a0 : Nat} {x0 : Int32} {x1 : Int32} {h h' : AH} {v : Int64} (hc : fX5_tell a0 x0 x1 h = some (v, h')) : AMet G yX5_tell cX5_tell 3 (some .long) 0 0 0 0 [.ref (gB G + a0), .int x0, .int x1] h (some (.long v)) h' :=
  amet_of false [some (.ref (gB G + a0)), some (.int x0), some (.int x1)] (by decide +kernel) (by decide) (Nat.le_of_ble_eq_true rfl) rfl (Nat.le_of_ble_eq_true rfl) (wX5_tell G hG (v, h') _ _ _ h hc)
abbrev eX5_upperIsSimpler (G : GG) (R : Int32 × AH) : EE := eM G 1 (some .boolean) false 0 0 0 0 (some (.int R.1)) R.2
theorem wX5_upperIsSimpler (G : GG) (hG : GT G) (R : Int32 × AH) (a0 : Nat) (h : AH) (X : fX5_upperIsSimpler a0 h = some R) : AW (eX5_upperIsSimpler G R) RX5 cX5_upperIsSimpler 0 [some (.ref (gB G + a0))] [] h 0 0 := by
  unfold fX5_upperIsSimpler at X
  refine r_ald0 1 dX5_upperIsSimpler_0 rfl ?_
  refine r_gL 4 dX5_upperIsSimpler_1 rfl lfX5_21 rfl X (fun x101 X => ?_)
  refine r_ald0 5 dX5_upperIsSimpler_4 rfl ?_
  refine r_gL 8 dX5_upperIsSimpler_5 rfl lfX5_15 rfl X (fun x102 X => ?_)
  refine r_lif_ge 16 12 dX5_upperIsSimpler_8 dX5_upperIsSimpler_9 (by decide) rfl X (fun _ X => ?_) (fun _ X => ?_)
  · refine r_iconst 17 _ dX5_upperIsSimpler_16 rfl ki_0 ?_
    exact r_ret0 dX5_upperIsSimpler_17 (Nat.zero_le _) (Nat.zero_le _) X
  · refine r_iconst 13 _ dX5_upperIsSimpler_12 rfl ki_1 ?_
    refine r_goto 17 dX5_upperIsSimpler_13 (by decide) ?_
    exact r_ret1 dX5_upperIsSimpler_17 (Nat.zero_le _) (Nat.zero_le _) X
theorem mtX5_upperIsSimpler (G : GG) (hG : GT G) {a0 : Nat} {h h' : AH} {v : Int32} (hc : fX5_upperIsSimpler a0 h = some (v, h')) : AMet G yX5_upperIsSimpler cX5_upperIsSimpler 1 (some .boolean) 0 0 0 0 [.ref (gB G + a0)] h (some (.int v)) h' :=
  amet_of false [some (.ref (gB G + a0))] (by decide +kernel) (by decide) (Nat.le_of_ble_eq_true rfl) rfl (Nat.le_of_ble_eq_true rfl) (wX5_upperIsSimpler G hG (v, h') _ h hc)
abbrev eX8_best (G : GG) (R : Int64 × AH) : EE := eM G 10 (some .long) false 4 102 0 0 (some (.long R.1)) R.2
theorem wX8_best (G : GG) (hG : GT G) (R : Int64 × AH) (a0 : Nat) (x0 : Int32) (x1 : Int32) (x2 : Int32) (x3 : Int32) (h : AH) (X : fX8_best a0 x0 x1 x2 x3 h = some R) : AW (eX8_best G R) RX8 cX8_best 0 [some (.ref (gB G + a0)), some (.int x0), some (.int x1), some (.int x2), some (.int x3), none, none, none, none, none] [] h 0 0 := by
  unfold fX8_best at X
  refine r_ald0 1 dX8_best_0 rfl ?_
  refine r_ild1 2 dX8_best_1 rfl ?_
  obtain ⟨hs, X⟩ := r_cv X
  obtain ⟨r102, h101, hc, X⟩ := bnd_ok X
  refine r_callV1 5 dX8_best_2 rfl lmX8_118 hs (mtX8_find G hG hc) rfl ⟨(Nat.zero_le _), (Nat.zero_le _)⟩ ?_
  refine r_split X (fun X => ?_) (fun b103 X => ?_)
  · refine r_astN5 7 dX8_best_5 rfl rfl ?_
    refine r_aldN5 9 dX8_best_7 rfl ?_
    refine r_ifnonnullN 12 dX8_best_9 rfl ?_
    refine r_ldc2 15 dX8_best_12 rfl lkX8_122 ?_
    exact r_retL dX8_best_15 (Nat.zero_le _) (Nat.zero_le _) X
  · refine r_ast5 7 dX8_best_5 rfl rfl ?_
    refine r_ald5 9 dX8_best_7 rfl ?_
    refine r_ifnonnull 16 dX8_best_9 (by decide) ?_
    refine r_ild2 17 dX8_best_16 rfl ?_
    refine r_iconst 18 _ dX8_best_17 rfl ki_1 ?_
    refine r_icmp_lt 47 21 dX8_best_18 (by decide) rfl X (fun _ X => ?_) (fun _ X => ?_)
    · refine r_ldc2 50 dX8_best_47 rfl lkX8_84 ?_
      exact r_retL dX8_best_50 (Nat.zero_le _) (Nat.zero_le _) X
    · refine r_ild2 22 dX8_best_21 rfl ?_
      refine r_ldc 24 dX8_best_22 rfl lkX8_108 ?_
      refine r_icmp_gt 47 27 dX8_best_24 (by decide) rfl X (fun _ X => ?_) (fun _ X => ?_)
      · refine r_ldc2 50 dX8_best_47 rfl lkX8_84 ?_
        exact r_retL dX8_best_50 (Nat.zero_le _) (Nat.zero_le _) X
      · refine r_ild3 28 dX8_best_27 rfl ?_
        refine r_if_lt 47 31 dX8_best_28 (by decide) rfl X (fun _ X => ?_) (fun _ X => ?_)
        · refine r_ldc2 50 dX8_best_47 rfl lkX8_84 ?_
          exact r_retL dX8_best_50 (Nat.zero_le _) (Nat.zero_le _) X
        · refine r_ild3 32 dX8_best_31 rfl ?_
          refine r_iconst 33 _ dX8_best_32 rfl ki_2 ?_
          refine r_icmp_gt 47 36 dX8_best_33 (by decide) rfl X (fun _ X => ?_) (fun _ X => ?_)
          · refine r_ldc2 50 dX8_best_47 rfl lkX8_84 ?_
            exact r_retL dX8_best_50 (Nat.zero_le _) (Nat.zero_le _) X
          · refine r_ild4 38 dX8_best_36 rfl ?_
            refine r_if_lt 47 41 dX8_best_38 (by decide) rfl X (fun _ X => ?_) (fun _ X => ?_)
            · refine r_ldc2 50 dX8_best_47 rfl lkX8_84 ?_
              exact r_retL dX8_best_50 (Nat.zero_le _) (Nat.zero_le _) X
            · refine r_ild4 43 dX8_best_41 rfl ?_
              refine r_iconst 44 _ dX8_best_43 rfl ki_1 ?_
              refine r_icmp_le 51 47 dX8_best_44 (by decide) rfl X (fun _ X => ?_) (fun _ X => ?_)
              · refine r_ald0 52 dX8_best_51 rfl ?_
                refine r_gR 55 dX8_best_52 rfl lfX8_58 rfl X (fun b104 X => ?_)
                refine r_ald5 57 dX8_best_55 rfl ?_
                obtain ⟨hs, X⟩ := r_cv X
                obtain ⟨_, h105, hc, X⟩ := bnd_ok X
                refine r_callV1v 60 dX8_best_57 rfl lmX8_218 hs (mtX2_workOut G hG hc) rfl ⟨(Nat.zero_le _), (Nat.zero_le _)⟩ ?_
                refine r_ald0 61 dX8_best_60 rfl ?_
                refine r_gR 64 dX8_best_61 rfl lfX8_65 rfl X (fun b106 X => ?_)
                refine r_ald5 66 dX8_best_64 rfl ?_
                refine r_ald0 67 dX8_best_66 rfl ?_
                refine r_gR 70 dX8_best_67 rfl lfX8_58 rfl X (fun b107 X => ?_)
                refine r_ild2 71 dX8_best_70 rfl ?_
                refine r_i2l 72 dX8_best_71 rfl ?_
                obtain ⟨hs, X⟩ := r_cv X
                obtain ⟨x109, h108, hc, X⟩ := bnd_ok X
                refine r_callV3 75 dX8_best_72 rfl lmX8_232 hs (mtX5_seek G hG hc) rfl ⟨(Nat.zero_le _), (Nat.zero_le _)⟩ ?_
                refine r_lst6 77 dX8_best_75 rfl rfl ?_
                refine r_lld6 79 dX8_best_77 rfl ?_
                refine r_lconst 80 _ dX8_best_79 rfl kl_0 ?_
                refine r_lif_eq 87 84 dX8_best_80 dX8_best_81 (by decide) rfl X (fun _ X => ?_) (fun _ X => ?_)
                · refine r_ild3 88 dX8_best_87 rfl ?_
                  refine r_if_eq 111 91 dX8_best_88 (by decide) rfl X (fun _ X => ?_) (fun _ X => ?_)
                  · refine r_ald0 112 dX8_best_111 rfl ?_
                    refine r_gR 115 dX8_best_112 rfl lfX8_65 rfl X (fun b110 X => ?_)
                    refine r_ald5 117 dX8_best_115 rfl ?_
                    obtain ⟨hs, X⟩ := r_cv X
                    obtain ⟨x112, h111, hc, X⟩ := bnd_ok X
                    refine r_callV1 120 dX8_best_117 rfl lmX8_240 hs (mtX5_againstMiddle G hG hc) rfl ⟨(Nat.zero_le _), (Nat.zero_le _)⟩ ?_
                    refine r_lst8 122 dX8_best_120 rfl rfl ?_
                    refine r_lld8 124 dX8_best_122 rfl ?_
                    refine r_ldc2 127 dX8_best_124 rfl lkX8_224 ?_
                    refine r_lif_eq 140 131 dX8_best_127 dX8_best_128 (by decide) rfl X (fun _ X => ?_) (fun _ X => ?_)
                    · refine r_lld8 142 dX8_best_140 rfl ?_
                      exact r_retL dX8_best_142 (Nat.zero_le _) (Nat.zero_le _) X
                    · refine r_lld8 133 dX8_best_131 rfl ?_
                      refine r_ldc2 136 dX8_best_133 rfl lkX8_185 ?_
                      refine r_lif_ne 143 140 dX8_best_136 dX8_best_137 (by decide) rfl X (fun _ X => ?_) (fun _ X => ?_)
                      · refine r_ald0 144 dX8_best_143 rfl ?_
                        refine r_gR 147 dX8_best_144 rfl lfX8_65 rfl X (fun b113 X => ?_)
                        refine r_lld8 149 dX8_best_147 rfl ?_
                        refine r_lconst 150 _ dX8_best_149 rfl kl_0 ?_
                        refine r_lif_gt 171 154 dX8_best_150 dX8_best_151 (by decide) rfl X (fun _ X => ?_) (fun _ X => ?_)
                        · refine r_iconst 172 _ dX8_best_171 rfl ki_1 ?_
                          refine r_goto 176 dX8_best_172 (by decide) ?_
                          refine r_ild4 178 dX8_best_176 rfl ?_
                          obtain ⟨hs, X⟩ := r_cv X
                          obtain ⟨x115, h114, hc, X⟩ := bnd_ok X
                          refine r_callV2 181 dX8_best_178 rfl lmX8_236 hs (mtX5_tell G hG hc) rfl ⟨(Nat.zero_le _), (Nat.zero_le _)⟩ ?_
                          exact r_retL dX8_best_181 (Nat.zero_le _) (Nat.zero_le _) X
                        · refine r_lld8 156 dX8_best_154 rfl ?_
                          refine r_lconst 157 _ dX8_best_156 rfl kl_0 ?_
                          refine r_lif_ne 175 161 dX8_best_157 dX8_best_158 (by decide) rfl X (fun _ X => ?_) (fun _ X => ?_)
                          · refine r_iconst 176 _ dX8_best_175 rfl ki_0 ?_
                            refine r_ild4 178 dX8_best_176 rfl ?_
                            obtain ⟨hs, X⟩ := r_cv X
                            obtain ⟨x117, h116, hc, X⟩ := bnd_ok X
                            refine r_callV2 181 dX8_best_178 rfl lmX8_236 hs (mtX5_tell G hG hc) rfl ⟨(Nat.zero_le _), (Nat.zero_le _)⟩ ?_
                            exact r_retL dX8_best_181 (Nat.zero_le _) (Nat.zero_le _) X
                          · refine r_ald0 162 dX8_best_161 rfl ?_
                            refine r_gR 165 dX8_best_162 rfl lfX8_65 rfl X (fun b118 X => ?_)
                            obtain ⟨hs, X⟩ := r_cv X
                            obtain ⟨x120, h119, hc, X⟩ := bnd_ok X
                            refine r_callV0 168 dX8_best_165 rfl lmX8_243 hs (mtX5_upperIsSimpler G hG hc) rfl ⟨(Nat.zero_le _), (Nat.zero_le _)⟩ ?_
                            refine r_if_eq 175 171 dX8_best_168 (by decide) rfl X (fun _ X => ?_) (fun _ X => ?_)
                            · refine r_iconst 176 _ dX8_best_175 rfl ki_0 ?_
                              refine r_ild4 178 dX8_best_176 rfl ?_
                              obtain ⟨hs, X⟩ := r_cv X
                              obtain ⟨x122, h121, hc, X⟩ := bnd_ok X
                              refine r_callV2 181 dX8_best_178 rfl lmX8_236 hs (mtX5_tell G hG hc) rfl ⟨(Nat.zero_le _), (Nat.zero_le _)⟩ ?_
                              exact r_retL dX8_best_181 (Nat.zero_le _) (Nat.zero_le _) X
                            · refine r_iconst 172 _ dX8_best_171 rfl ki_1 ?_
                              refine r_goto 176 dX8_best_172 (by decide) ?_
                              refine r_ild4 178 dX8_best_176 rfl ?_
                              obtain ⟨hs, X⟩ := r_cv X
                              obtain ⟨x124, h123, hc, X⟩ := bnd_ok X
                              refine r_callV2 181 dX8_best_178 rfl lmX8_236 hs (mtX5_tell G hG hc) rfl ⟨(Nat.zero_le _), (Nat.zero_le _)⟩ ?_
                              exact r_retL dX8_best_181 (Nat.zero_le _) (Nat.zero_le _) X
                      · refine r_lld8 142 dX8_best_140 rfl ?_
                        exact r_retL dX8_best_142 (Nat.zero_le _) (Nat.zero_le _) X
                  · refine r_ald0 92 dX8_best_91 rfl ?_
                    refine r_gR 95 dX8_best_92 rfl lfX8_65 rfl X (fun b125 X => ?_)
                    refine r_ild3 96 dX8_best_95 rfl ?_
                    refine r_iconst 97 _ dX8_best_96 rfl ki_2 ?_
                    refine r_icmp_ne 104 100 dX8_best_97 (by decide) rfl X (fun _ X => ?_) (fun _ X => ?_)
                    · refine r_iconst 105 _ dX8_best_104 rfl ki_0 ?_
                      refine r_ild4 107 dX8_best_105 rfl ?_
                      obtain ⟨hs, X⟩ := r_cv X
                      obtain ⟨x127, h126, hc, X⟩ := bnd_ok X
                      refine r_callV2 110 dX8_best_107 rfl lmX8_236 hs (mtX5_tell G hG hc) rfl ⟨(Nat.zero_le _), (Nat.zero_le _)⟩ ?_
                      exact r_retL dX8_best_110 (Nat.zero_le _) (Nat.zero_le _) X
                    · refine r_iconst 101 _ dX8_best_100 rfl ki_1 ?_
                      refine r_goto 105 dX8_best_101 (by decide) ?_
                      refine r_ild4 107 dX8_best_105 rfl ?_
                      obtain ⟨hs, X⟩ := r_cv X
                      obtain ⟨x129, h128, hc, X⟩ := bnd_ok X
                      refine r_callV2 110 dX8_best_107 rfl lmX8_236 hs (mtX5_tell G hG hc) rfl ⟨(Nat.zero_le _), (Nat.zero_le _)⟩ ?_
                      exact r_retL dX8_best_110 (Nat.zero_le _) (Nat.zero_le _) X
                · refine r_lld6 86 dX8_best_84 rfl ?_
                  exact r_retL dX8_best_86 (Nat.zero_le _) (Nat.zero_le _) X
              · refine r_ldc2 50 dX8_best_47 rfl lkX8_84 ?_
                exact r_retL dX8_best_50 (Nat.zero_le _) (Nat.zero_le _) X
theorem mtX8_best (G : GG) (hG : GT G) {a0 : Nat} {x0 : Int32} {x1 : Int32} {x2 : Int32} {x3 : Int32} {h h' : AH} {v : Int64} (hc : fX8_best a0 x0 x1 x2 x3 h = some (v, h')) : AMet G yX8_best cX8_best 10 (some .long) 4 102 0 0 [.ref (gB G + a0), .int x0, .int x1, .int x2, .int x3] h (some (.long v)) h' :=
  amet_of false [some (.ref (gB G + a0)), some (.int x0), some (.int x1), some (.int x2), some (.int x3), none, none, none, none, none] (by decide +kernel) (by decide) (Nat.le_of_ble_eq_true rfl) rfl (Nat.le_of_ble_eq_true rfl) (wX8_best G hG (v, h') _ _ _ _ _ h hc)
abbrev eX7_isSameRoot (G : GG) (R : Int32 × AH) : EE := eM G 2 (some .boolean) false 0 0 0 0 (some (.int R.1)) R.2
theorem wX7_isSameRoot (G : GG) (hG : GT G) (R : Int32 × AH) (a0 : Nat) (a1 : Nat) (h : AH) (X : fX7_isSameRoot a0 a1 h = some R) : AW (eX7_isSameRoot G R) RX7 cX7_isSameRoot 0 [some (.ref (gB G + a0)), some (.ref (gB G + a1))] [] h 0 0 := by
  unfold fX7_isSameRoot at X
  refine r_ald0 1 dX7_isSameRoot_0 rfl ?_
  refine r_gI 4 dX7_isSameRoot_1 rfl lfX7_19 rfl X (fun x101 X => ?_)
  refine r_iconst 5 _ dX7_isSameRoot_4 rfl ki_1 ?_
  refine r_icmp_ne 68 8 dX7_isSameRoot_5 (by decide) rfl X (fun _ X => ?_) (fun _ X => ?_)
  · refine r_iconst 69 _ dX7_isSameRoot_68 rfl ki_0 ?_
    exact r_ret0 dX7_isSameRoot_69 (Nat.zero_le _) (Nat.zero_le _) X
  · refine r_ald1 9 dX7_isSameRoot_8 rfl ?_
    refine r_gI 12 dX7_isSameRoot_9 rfl lfX7_19 rfl X (fun x102 X => ?_)
    refine r_iconst 13 _ dX7_isSameRoot_12 rfl ki_1 ?_
    refine r_icmp_ne 68 16 dX7_isSameRoot_13 (by decide) rfl X (fun _ X => ?_) (fun _ X => ?_)
    · refine r_iconst 69 _ dX7_isSameRoot_68 rfl ki_0 ?_
      exact r_ret0 dX7_isSameRoot_69 (Nat.zero_le _) (Nat.zero_le _) X
    · refine r_ald0 17 dX7_isSameRoot_16 rfl ?_
      refine r_gL 20 dX7_isSameRoot_17 rfl lfX7_32 rfl X (fun x103 X => ?_)
      refine r_ald1 21 dX7_isSameRoot_20 rfl ?_
      refine r_gL 24 dX7_isSameRoot_21 rfl lfX7_32 rfl X (fun x104 X => ?_)
      refine r_lif_ne 68 28 dX7_isSameRoot_24 dX7_isSameRoot_25 (by decide) rfl X (fun _ X => ?_) (fun _ X => ?_)
      · refine r_iconst 69 _ dX7_isSameRoot_68 rfl ki_0 ?_
        exact r_ret0 dX7_isSameRoot_69 (Nat.zero_le _) (Nat.zero_le _) X
      · refine r_ald0 29 dX7_isSameRoot_28 rfl ?_
        refine r_gL 32 dX7_isSameRoot_29 rfl lfX7_36 rfl X (fun x105 X => ?_)
        refine r_ald1 33 dX7_isSameRoot_32 rfl ?_
        refine r_gL 36 dX7_isSameRoot_33 rfl lfX7_36 rfl X (fun x106 X => ?_)
        refine r_lif_ne 68 40 dX7_isSameRoot_36 dX7_isSameRoot_37 (by decide) rfl X (fun _ X => ?_) (fun _ X => ?_)
        · refine r_iconst 69 _ dX7_isSameRoot_68 rfl ki_0 ?_
          exact r_ret0 dX7_isSameRoot_69 (Nat.zero_le _) (Nat.zero_le _) X
        · refine r_ald0 41 dX7_isSameRoot_40 rfl ?_
          refine r_gL 44 dX7_isSameRoot_41 rfl lfX7_39 rfl X (fun x107 X => ?_)
          refine r_ald1 45 dX7_isSameRoot_44 rfl ?_
          refine r_gL 48 dX7_isSameRoot_45 rfl lfX7_39 rfl X (fun x108 X => ?_)
          refine r_lif_ne 68 52 dX7_isSameRoot_48 dX7_isSameRoot_49 (by decide) rfl X (fun _ X => ?_) (fun _ X => ?_)
          · refine r_iconst 69 _ dX7_isSameRoot_68 rfl ki_0 ?_
            exact r_ret0 dX7_isSameRoot_69 (Nat.zero_le _) (Nat.zero_le _) X
          · refine r_ald0 53 dX7_isSameRoot_52 rfl ?_
            refine r_gL 56 dX7_isSameRoot_53 rfl lfX7_42 rfl X (fun x109 X => ?_)
            refine r_ald1 57 dX7_isSameRoot_56 rfl ?_
            refine r_gL 60 dX7_isSameRoot_57 rfl lfX7_42 rfl X (fun x110 X => ?_)
            refine r_lif_ne 68 64 dX7_isSameRoot_60 dX7_isSameRoot_61 (by decide) rfl X (fun _ X => ?_) (fun _ X => ?_)
            · refine r_iconst 69 _ dX7_isSameRoot_68 rfl ki_0 ?_
              exact r_ret0 dX7_isSameRoot_69 (Nat.zero_le _) (Nat.zero_le _) X
            · refine r_iconst 65 _ dX7_isSameRoot_64 rfl ki_1 ?_
              refine r_goto 69 dX7_isSameRoot_65 (by decide) ?_
              exact r_ret1 dX7_isSameRoot_69 (Nat.zero_le _) (Nat.zero_le _) X
theorem mtX7_isSameRoot (G : GG) (hG : GT G) {a0 : Nat} {a1 : Nat} {h h' : AH} {v : Int32} (hc : fX7_isSameRoot a0 a1 h = some (v, h')) : AMet G yX7_isSameRoot cX7_isSameRoot 2 (some .boolean) 0 0 0 0 [.ref (gB G + a0), .ref (gB G + a1)] h (some (.int v)) h' :=
  amet_of false [some (.ref (gB G + a0)), some (.ref (gB G + a1))] (by decide +kernel) (by decide) (Nat.le_of_ble_eq_true rfl) rfl (Nat.le_of_ble_eq_true rfl) (wX7_isSameRoot G hG (v, h') _ _ h hc)
abbrev eX8_compare (G : GG) (R : Int64 × AH) : EE := eM G 5 (some .long) false 2 46 0 0 (some (.long R.1)) R.2
theorem wX8_compare (G : GG) (hG : GT G) (R : Int64 × AH) (a0 : Nat) (x0 : Int32) (x1 : Int32) (h : AH) (X : fX8_compare a0 x0 x1 h = some R) : AW (eX8_compare G R) RX8 cX8_compare 0 [some (.ref (gB G + a0)), some (.int x0), some (.int x1), none, none] [] h 0 0 := by
  unfold fX8_compare at X
  refine r_ald0 1 dX8_compare_0 rfl ?_
  refine r_ild1 2 dX8_compare_1 rfl ?_
  obtain ⟨hs, X⟩ := r_cv X
  obtain ⟨r102, h101, hc, X⟩ := bnd_ok X
  refine r_callV1 5 dX8_compare_2 rfl lmX8_118 hs (mtX8_find G hG hc) rfl ⟨(Nat.zero_le _), (Nat.zero_le _)⟩ ?_
  refine r_split X (fun X => ?_) (fun b103 X => ?_)
  · refine r_astN3 6 dX8_compare_5 rfl rfl ?_
    refine r_ald0 7 dX8_compare_6 rfl ?_
    refine r_ild2 8 dX8_compare_7 rfl ?_
    obtain ⟨hs, X⟩ := r_cv X
    obtain ⟨r105, h104, hc, X⟩ := bnd_ok X
    refine r_callV1 11 dX8_compare_8 rfl lmX8_118 hs (mtX8_find G hG hc) rfl ⟨(Nat.zero_le _), (Nat.zero_le _)⟩ ?_
    refine r_split X (fun X => ?_) (fun b106 X => ?_)
    · refine r_astN4 13 dX8_compare_11 rfl rfl ?_
      refine r_aldN3 14 dX8_compare_13 rfl ?_
      refine r_ifnullN 22 dX8_compare_14 (by decide) ?_
      refine r_ldc2 25 dX8_compare_22 rfl lkX8_122 ?_
      exact r_retL dX8_compare_25 (Nat.zero_le _) (Nat.zero_le _) X
    · refine r_ast4 13 dX8_compare_11 rfl rfl ?_
      refine r_aldN3 14 dX8_compare_13 rfl ?_
      refine r_ifnullN 22 dX8_compare_14 (by decide) ?_
      refine r_ldc2 25 dX8_compare_22 rfl lkX8_122 ?_
      exact r_retL dX8_compare_25 (Nat.zero_le _) (Nat.zero_le _) X
  · refine r_ast3 6 dX8_compare_5 rfl rfl ?_
    refine r_ald0 7 dX8_compare_6 rfl ?_
    refine r_ild2 8 dX8_compare_7 rfl ?_
    obtain ⟨hs, X⟩ := r_cv X
    obtain ⟨r108, h107, hc, X⟩ := bnd_ok X
    refine r_callV1 11 dX8_compare_8 rfl lmX8_118 hs (mtX8_find G hG hc) rfl ⟨(Nat.zero_le _), (Nat.zero_le _)⟩ ?_
    refine r_split X (fun X => ?_) (fun b109 X => ?_)
    · refine r_astN4 13 dX8_compare_11 rfl rfl ?_
      refine r_ald3 14 dX8_compare_13 rfl ?_
      refine r_ifnull 17 dX8_compare_14 rfl ?_
      refine r_aldN4 19 dX8_compare_17 rfl ?_
      refine r_ifnonnullN 22 dX8_compare_19 rfl ?_
      refine r_ldc2 25 dX8_compare_22 rfl lkX8_122 ?_
      exact r_retL dX8_compare_25 (Nat.zero_le _) (Nat.zero_le _) X
    · refine r_ast4 13 dX8_compare_11 rfl rfl ?_
      refine r_ald3 14 dX8_compare_13 rfl ?_
      refine r_ifnull 17 dX8_compare_14 rfl ?_
      refine r_ald4 19 dX8_compare_17 rfl ?_
      refine r_ifnonnull 26 dX8_compare_19 (by decide) ?_
      refine r_ald3 27 dX8_compare_26 rfl ?_
      refine r_ald4 29 dX8_compare_27 rfl ?_
      obtain ⟨hs, X⟩ := r_cv X
      obtain ⟨x111, h110, hc, X⟩ := bnd_ok X
      refine r_callV1 32 dX8_compare_29 rfl lmX8_210 hs (mtX7_isSameRoot G hG hc) rfl ⟨(Nat.zero_le _), (Nat.zero_le _)⟩ ?_
      refine r_if_eq 37 35 dX8_compare_32 (by decide) rfl X (fun _ X => ?_) (fun _ X => ?_)
      · refine r_ald3 38 dX8_compare_37 rfl ?_
        refine r_ald4 40 dX8_compare_38 rfl ?_
        obtain ⟨hs, X⟩ := r_cv X
        obtain ⟨x113, h112, hc, X⟩ := bnd_ok X
        refine r_callV1 43 dX8_compare_40 rfl lmX8_214 hs (mtX7_heldAgainst G hG hc) rfl ⟨(Nat.zero_le _), (Nat.zero_le _)⟩ ?_
        exact r_retL dX8_compare_43 (Nat.zero_le _) (Nat.zero_le _) X
      · refine r_lconst 36 _ dX8_compare_35 rfl kl_0 ?_
        exact r_retL dX8_compare_36 (Nat.zero_le _) (Nat.zero_le _) X
theorem mtX8_compare (G : GG) (hG : GT G) {a0 : Nat} {x0 : Int32} {x1 : Int32} {h h' : AH} {v : Int64} (hc : fX8_compare a0 x0 x1 h = some (v, h')) : AMet G yX8_compare cX8_compare 5 (some .long) 2 46 0 0 [.ref (gB G + a0), .int x0, .int x1] h (some (.long v)) h' :=
  amet_of false [some (.ref (gB G + a0)), some (.int x0), some (.int x1), none, none] (by decide +kernel) (by decide) (Nat.le_of_ble_eq_true rfl) rfl (Nat.le_of_ble_eq_true rfl) (wX8_compare G hG (v, h') _ _ _ h hc)
