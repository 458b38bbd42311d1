theorem dX1_startWith_0 : decode cX1_startWith 0 = .ok (.iconst 0, 1) := by decide +kernel
theorem dX1_startWith_1 : decode cX1_startWith 1 = .ok (.istore_n 2, 1) := by decide +kernel
theorem dX1_startWith_2 : decode cX1_startWith 2 = .ok (.iload_n 2, 1) := by decide +kernel
theorem dX1_startWith_3 : decode cX1_startWith 3 = .ok (.bipush 8, 2) := by decide +kernel
theorem dX1_startWith_5 : decode cX1_startWith 5 = .ok (.if_icmp .ge 24, 3) := by decide +kernel
theorem dX1_startWith_8 : decode cX1_startWith 8 = .ok (.iload_n 2, 1) := by decide +kernel
theorem dX1_startWith_9 : decode cX1_startWith 9 = .ok (.aload_n 1, 1) := by decide +kernel
theorem dX1_startWith_10 : decode cX1_startWith 10 = .ok (.arraylength, 1) := by decide +kernel
theorem dX1_startWith_11 : decode cX1_startWith 11 = .ok (.if_icmp .ge 18, 3) := by decide +kernel
theorem dX1_startWith_14 : decode cX1_startWith 14 = .ok (.aload_n 0, 1) := by decide +kernel
theorem dX1_startWith_15 : decode cX1_startWith 15 = .ok (.getfield 23, 3) := by decide +kernel
theorem dX1_startWith_18 : decode cX1_startWith 18 = .ok (.iload_n 2, 1) := by decide +kernel
theorem dX1_startWith_19 : decode cX1_startWith 19 = .ok (.aload_n 1, 1) := by decide +kernel
theorem dX1_startWith_20 : decode cX1_startWith 20 = .ok (.iload_n 2, 1) := by decide +kernel
theorem dX1_startWith_21 : decode cX1_startWith 21 = .ok (.laload, 1) := by decide +kernel
theorem dX1_startWith_22 : decode cX1_startWith 22 = .ok (.lastore, 1) := by decide +kernel
theorem dX1_startWith_23 : decode cX1_startWith 23 = .ok (.iinc 2 1, 3) := by decide +kernel
theorem dX1_startWith_26 : decode cX1_startWith 26 = .ok (.goto (-24), 3) := by decide +kernel
theorem dX1_startWith_29 : decode cX1_startWith 29 = .ok (.return_, 1) := by decide +kernel
theorem dX1_stepTold_0 : decode cX1_stepTold 0 = .ok (.iload_n 1, 1) := by decide +kernel
theorem dX1_stepTold_1 : decode cX1_stepTold 1 = .ok (.bipush 10, 2) := by decide +kernel
theorem dX1_stepTold_3 : decode cX1_stepTold 3 = .ok (.imul, 1) := by decide +kernel
theorem dX1_stepTold_4 : decode cX1_stepTold 4 = .ok (.iload_n 2, 1) := by decide +kernel
theorem dX1_stepTold_5 : decode cX1_stepTold 5 = .ok (.iadd, 1) := by decide +kernel
theorem dX1_stepTold_6 : decode cX1_stepTold 6 = .ok (.istore_n 3, 1) := by decide +kernel
theorem dX1_stepTold_7 : decode cX1_stepTold 7 = .ok (.iload_n 3, 1) := by decide +kernel
theorem dX1_stepTold_8 : decode cX1_stepTold 8 = .ok (.ifCond .lt 21, 3) := by decide +kernel
theorem dX1_stepTold_11 : decode cX1_stepTold 11 = .ok (.iload_n 3, 1) := by decide +kernel
theorem dX1_stepTold_12 : decode cX1_stepTold 12 = .ok (.aload_n 0, 1) := by decide +kernel
theorem dX1_stepTold_13 : decode cX1_stepTold 13 = .ok (.getfield 40, 3) := by decide +kernel
theorem dX1_stepTold_16 : decode cX1_stepTold 16 = .ok (.arraylength, 1) := by decide +kernel
theorem dX1_stepTold_17 : decode cX1_stepTold 17 = .ok (.if_icmp .ge 12, 3) := by decide +kernel
theorem dX1_stepTold_20 : decode cX1_stepTold 20 = .ok (.aload_n 0, 1) := by decide +kernel
theorem dX1_stepTold_21 : decode cX1_stepTold 21 = .ok (.getfield 40, 3) := by decide +kernel
theorem dX1_stepTold_24 : decode cX1_stepTold 24 = .ok (.iload_n 3, 1) := by decide +kernel
theorem dX1_stepTold_25 : decode cX1_stepTold 25 = .ok (.laload, 1) := by decide +kernel
theorem dX1_stepTold_26 : decode cX1_stepTold 26 = .ok (.goto 6, 3) := by decide +kernel
theorem dX1_stepTold_29 : decode cX1_stepTold 29 = .ok (.ldc2_w 153, 3) := by decide +kernel
theorem dX1_stepTold_32 : decode cX1_stepTold 32 = .ok (.lreturn, 1) := by decide +kernel
theorem dX3_workMix_0 : decode cX3_workMix 0 = .ok (.aload_n 0, 1) := by decide +kernel
theorem dX3_workMix_1 : decode cX3_workMix 1 = .ok (.aload_n 1, 1) := by decide +kernel
theorem dX3_workMix_2 : decode cX3_workMix 2 = .ok (.iconst 0, 1) := by decide +kernel
theorem dX3_workMix_3 : decode cX3_workMix 3 = .ok (.aload_n 2, 1) := by decide +kernel
theorem dX3_workMix_4 : decode cX3_workMix 4 = .ok (.aload_n 3, 1) := by decide +kernel
theorem dX3_workMix_5 : decode cX3_workMix 5 = .ok (.invokestatic 48, 3) := by decide +kernel
theorem dX3_workMix_8 : decode cX3_workMix 8 = .ok (.lconst 0, 1) := by decide +kernel
theorem dX3_workMix_9 : decode cX3_workMix 9 = .ok (.lconst 0, 1) := by decide +kernel
theorem dX3_workMix_10 : decode cX3_workMix 10 = .ok (.aload_n 1, 1) := by decide +kernel
theorem dX3_workMix_11 : decode cX3_workMix 11 = .ok (.iconst 4, 1) := by decide +kernel
theorem dX3_workMix_12 : decode cX3_workMix 12 = .ok (.aload_n 2, 1) := by decide +kernel
theorem dX3_workMix_13 : decode cX3_workMix 13 = .ok (.aload_n 3, 1) := by decide +kernel
theorem dX3_workMix_14 : decode cX3_workMix 14 = .ok (.invokestatic 48, 3) := by decide +kernel
theorem dX3_workMix_17 : decode cX3_workMix 17 = .ok (.invokevirtual 52, 3) := by decide +kernel
theorem dX3_workMix_20 : decode cX3_workMix 20 = .ok (.return_, 1) := by decide +kernel
theorem dX3_mixed_0 : decode cX3_mixed 0 = .ok (.iload_n 1, 1) := by decide +kernel
theorem dX3_mixed_1 : decode cX3_mixed 1 = .ok (.ifCond .lt 11, 3) := by decide +kernel
theorem dX3_mixed_4 : decode cX3_mixed 4 = .ok (.iload_n 1, 1) := by decide +kernel
theorem dX3_mixed_5 : decode cX3_mixed 5 = .ok (.iconst 3, 1) := by decide +kernel
theorem dX3_mixed_6 : decode cX3_mixed 6 = .ok (.iadd, 1) := by decide +kernel
theorem dX3_mixed_7 : decode cX3_mixed 7 = .ok (.aload_n 0, 1) := by decide +kernel
theorem dX3_mixed_8 : decode cX3_mixed 8 = .ok (.arraylength, 1) := by decide +kernel
theorem dX3_mixed_9 : decode cX3_mixed 9 = .ok (.if_icmp .lt 7, 3) := by decide +kernel
theorem dX3_mixed_12 : decode cX3_mixed 12 = .ok (.ldc2_w 56, 3) := by decide +kernel
theorem dX3_mixed_15 : decode cX3_mixed 15 = .ok (.lreturn, 1) := by decide +kernel
theorem dX3_mixed_16 : decode cX3_mixed 16 = .ok (.aload_n 0, 1) := by decide +kernel
theorem dX3_mixed_17 : decode cX3_mixed 17 = .ok (.iload_n 1, 1) := by decide +kernel
theorem dX3_mixed_18 : decode cX3_mixed 18 = .ok (.laload, 1) := by decide +kernel
theorem dX3_mixed_19 : decode cX3_mixed 19 = .ok (.aload_n 2, 1) := by decide +kernel
theorem dX3_mixed_20 : decode cX3_mixed 20 = .ok (.getfield 31, 3) := by decide +kernel
theorem dX3_mixed_23 : decode cX3_mixed 23 = .ok (.invokestatic 33, 3) := by decide +kernel
theorem dX3_mixed_26 : decode cX3_mixed 26 = .ok (.aload_n 3, 1) := by decide +kernel
theorem dX3_mixed_27 : decode cX3_mixed 27 = .ok (.getfield 31, 3) := by decide +kernel
theorem dX3_mixed_30 : decode cX3_mixed 30 = .ok (.invokestatic 33, 3) := by decide +kernel
theorem dX3_mixed_33 : decode cX3_mixed 33 = .ok (.lstore 4, 2) := by decide +kernel
theorem dX3_mixed_35 : decode cX3_mixed 35 = .ok (.lload 4, 2) := by decide +kernel
theorem dX3_mixed_37 : decode cX3_mixed 37 = .ok (.aload_n 0, 1) := by decide +kernel
theorem dX3_mixed_38 : decode cX3_mixed 38 = .ok (.iload_n 1, 1) := by decide +kernel
theorem dX3_mixed_39 : decode cX3_mixed 39 = .ok (.iconst 1, 1) := by decide +kernel
theorem dX3_mixed_40 : decode cX3_mixed 40 = .ok (.iadd, 1) := by decide +kernel
theorem dX3_mixed_41 : decode cX3_mixed 41 = .ok (.laload, 1) := by decide +kernel
theorem dX3_mixed_42 : decode cX3_mixed 42 = .ok (.aload_n 2, 1) := by decide +kernel
theorem dX3_mixed_43 : decode cX3_mixed 43 = .ok (.getfield 31, 3) := by decide +kernel
theorem dX3_mixed_46 : decode cX3_mixed 46 = .ok (.invokestatic 33, 3) := by decide +kernel
theorem dX3_mixed_49 : decode cX3_mixed 49 = .ok (.aload_n 3, 1) := by decide +kernel
theorem dX3_mixed_50 : decode cX3_mixed 50 = .ok (.getfield 32, 3) := by decide +kernel
theorem dX3_mixed_53 : decode cX3_mixed 53 = .ok (.invokestatic 33, 3) := by decide +kernel
theorem dX3_mixed_56 : decode cX3_mixed 56 = .ok (.invokestatic 37, 3) := by decide +kernel
theorem dX3_mixed_59 : decode cX3_mixed 59 = .ok (.lstore 4, 2) := by decide +kernel
theorem dX3_mixed_61 : decode cX3_mixed 61 = .ok (.lload 4, 2) := by decide +kernel
theorem dX3_mixed_63 : decode cX3_mixed 63 = .ok (.aload_n 0, 1) := by decide +kernel
theorem dX3_mixed_64 : decode cX3_mixed 64 = .ok (.iload_n 1, 1) := by decide +kernel
theorem dX3_mixed_65 : decode cX3_mixed 65 = .ok (.iconst 2, 1) := by decide +kernel
theorem dX3_mixed_66 : decode cX3_mixed 66 = .ok (.iadd, 1) := by decide +kernel
theorem dX3_mixed_67 : decode cX3_mixed 67 = .ok (.laload, 1) := by decide +kernel
theorem dX3_mixed_68 : decode cX3_mixed 68 = .ok (.aload_n 3, 1) := by decide +kernel
theorem dX3_mixed_69 : decode cX3_mixed 69 = .ok (.getfield 31, 3) := by decide +kernel
theorem dX3_mixed_72 : decode cX3_mixed 72 = .ok (.invokestatic 33, 3) := by decide +kernel
theorem dX3_mixed_75 : decode cX3_mixed 75 = .ok (.aload_n 2, 1) := by decide +kernel
theorem dX3_mixed_76 : decode cX3_mixed 76 = .ok (.getfield 32, 3) := by decide +kernel
theorem dX3_mixed_79 : decode cX3_mixed 79 = .ok (.invokestatic 33, 3) := by decide +kernel
theorem dX3_mixed_82 : decode cX3_mixed 82 = .ok (.invokestatic 37, 3) := by decide +kernel
theorem dX3_mixed_85 : decode cX3_mixed 85 = .ok (.lstore 4, 2) := by decide +kernel
theorem dX3_mixed_87 : decode cX3_mixed 87 = .ok (.lload 4, 2) := by decide +kernel
theorem dX3_mixed_89 : decode cX3_mixed 89 = .ok (.aload_n 0, 1) := by decide +kernel
theorem dX3_mixed_90 : decode cX3_mixed 90 = .ok (.iload_n 1, 1) := by decide +kernel
theorem dX3_mixed_91 : decode cX3_mixed 91 = .ok (.iconst 3, 1) := by decide +kernel
theorem dX3_mixed_92 : decode cX3_mixed 92 = .ok (.iadd, 1) := by decide +kernel
theorem dX3_mixed_93 : decode cX3_mixed 93 = .ok (.laload, 1) := by decide +kernel
theorem dX3_mixed_94 : decode cX3_mixed 94 = .ok (.aload_n 2, 1) := by decide +kernel
theorem dX3_mixed_95 : decode cX3_mixed 95 = .ok (.getfield 32, 3) := by decide +kernel
theorem dX3_mixed_98 : decode cX3_mixed 98 = .ok (.invokestatic 33, 3) := by decide +kernel
theorem dX3_mixed_101 : decode cX3_mixed 101 = .ok (.aload_n 3, 1) := by decide +kernel
theorem dX3_mixed_102 : decode cX3_mixed 102 = .ok (.getfield 32, 3) := by decide +kernel
theorem dX3_mixed_105 : decode cX3_mixed 105 = .ok (.invokestatic 33, 3) := by decide +kernel
theorem dX3_mixed_108 : decode cX3_mixed 108 = .ok (.invokestatic 37, 3) := by decide +kernel
theorem dX3_mixed_111 : decode cX3_mixed 111 = .ok (.lreturn, 1) := by decide +kernel
theorem dX4_comesRound_0 : decode cX4_comesRound 0 = .ok (.iconst 0, 1) := by decide +kernel
theorem dX4_comesRound_1 : decode cX4_comesRound 1 = .ok (.istore_n 1, 1) := by decide +kernel
theorem dX4_comesRound_2 : decode cX4_comesRound 2 = .ok (.iload_n 1, 1) := by decide +kernel
theorem dX4_comesRound_3 : decode cX4_comesRound 3 = .ok (.bipush 60, 2) := by decide +kernel
theorem dX4_comesRound_5 : decode cX4_comesRound 5 = .ok (.if_icmp .ge 71, 3) := by decide +kernel
theorem dX4_comesRound_8 : decode cX4_comesRound 8 = .ok (.iload_n 1, 1) := by decide +kernel
theorem dX4_comesRound_9 : decode cX4_comesRound 9 = .ok (.iconst 1, 1) := by decide +kernel
theorem dX4_comesRound_10 : decode cX4_comesRound 10 = .ok (.iadd, 1) := by decide +kernel
theorem dX4_comesRound_11 : decode cX4_comesRound 11 = .ok (.istore_n 2, 1) := by decide +kernel
theorem dX4_comesRound_12 : decode cX4_comesRound 12 = .ok (.iload_n 2, 1) := by decide +kernel
theorem dX4_comesRound_13 : decode cX4_comesRound 13 = .ok (.bipush 60, 2) := by decide +kernel
theorem dX4_comesRound_15 : decode cX4_comesRound 15 = .ok (.if_icmp .gt 55, 3) := by decide +kernel
theorem dX4_comesRound_18 : decode cX4_comesRound 18 = .ok (.aload_n 0, 1) := by decide +kernel
theorem dX4_comesRound_19 : decode cX4_comesRound 19 = .ok (.getfield 9, 3) := by decide +kernel
theorem dX4_comesRound_22 : decode cX4_comesRound 22 = .ok (.iload_n 1, 1) := by decide +kernel
theorem dX4_comesRound_23 : decode cX4_comesRound 23 = .ok (.laload, 1) := by decide +kernel
theorem dX4_comesRound_24 : decode cX4_comesRound 24 = .ok (.aload_n 0, 1) := by decide +kernel
theorem dX4_comesRound_25 : decode cX4_comesRound 25 = .ok (.getfield 9, 3) := by decide +kernel
theorem dX4_comesRound_28 : decode cX4_comesRound 28 = .ok (.iload_n 2, 1) := by decide +kernel
theorem dX4_comesRound_29 : decode cX4_comesRound 29 = .ok (.laload, 1) := by decide +kernel
theorem dX4_comesRound_30 : decode cX4_comesRound 30 = .ok (.lcmp, 1) := by decide +kernel
theorem dX4_comesRound_31 : decode cX4_comesRound 31 = .ok (.ifCond .ne 33, 3) := by decide +kernel
theorem dX4_comesRound_34 : decode cX4_comesRound 34 = .ok (.aload_n 0, 1) := by decide +kernel
theorem dX4_comesRound_35 : decode cX4_comesRound 35 = .ok (.getfield 15, 3) := by decide +kernel
theorem dX4_comesRound_38 : decode cX4_comesRound 38 = .ok (.iload_n 1, 1) := by decide +kernel
theorem dX4_comesRound_39 : decode cX4_comesRound 39 = .ok (.laload, 1) := by decide +kernel
theorem dX4_comesRound_40 : decode cX4_comesRound 40 = .ok (.aload_n 0, 1) := by decide +kernel
theorem dX4_comesRound_41 : decode cX4_comesRound 41 = .ok (.getfield 15, 3) := by decide +kernel
theorem dX4_comesRound_44 : decode cX4_comesRound 44 = .ok (.iload_n 2, 1) := by decide +kernel
theorem dX4_comesRound_45 : decode cX4_comesRound 45 = .ok (.laload, 1) := by decide +kernel
theorem dX4_comesRound_46 : decode cX4_comesRound 46 = .ok (.lcmp, 1) := by decide +kernel
theorem dX4_comesRound_47 : decode cX4_comesRound 47 = .ok (.ifCond .ne 17, 3) := by decide +kernel
theorem dX4_comesRound_50 : decode cX4_comesRound 50 = .ok (.aload_n 0, 1) := by decide +kernel
theorem dX4_comesRound_51 : decode cX4_comesRound 51 = .ok (.iload_n 1, 1) := by decide +kernel
theorem dX4_comesRound_52 : decode cX4_comesRound 52 = .ok (.putfield 21, 3) := by decide +kernel
theorem dX4_comesRound_55 : decode cX4_comesRound 55 = .ok (.aload_n 0, 1) := by decide +kernel
theorem dX4_comesRound_56 : decode cX4_comesRound 56 = .ok (.iload_n 2, 1) := by decide +kernel
theorem dX4_comesRound_57 : decode cX4_comesRound 57 = .ok (.iload_n 1, 1) := by decide +kernel
theorem dX4_comesRound_58 : decode cX4_comesRound 58 = .ok (.isub, 1) := by decide +kernel
theorem dX4_comesRound_59 : decode cX4_comesRound 59 = .ok (.putfield 25, 3) := by decide +kernel
theorem dX4_comesRound_62 : decode cX4_comesRound 62 = .ok (.iconst 1, 1) := by decide +kernel
theorem dX4_comesRound_63 : decode cX4_comesRound 63 = .ok (.ireturn, 1) := by decide +kernel
theorem dX4_comesRound_64 : decode cX4_comesRound 64 = .ok (.iinc 2 1, 3) := by decide +kernel
theorem dX4_comesRound_67 : decode cX4_comesRound 67 = .ok (.goto (-55), 3) := by decide +kernel
theorem dX4_comesRound_70 : decode cX4_comesRound 70 = .ok (.iinc 1 1, 3) := by decide +kernel
theorem dX4_comesRound_73 : decode cX4_comesRound 73 = .ok (.goto (-71), 3) := by decide +kernel
theorem dX4_comesRound_76 : decode cX4_comesRound 76 = .ok (.iconst 0, 1) := by decide +kernel
theorem dX4_comesRound_77 : decode cX4_comesRound 77 = .ok (.ireturn, 1) := by decide +kernel
theorem dX7_isBeyond_0 : decode cX7_isBeyond 0 = .ok (.iload_n 1, 1) := by decide +kernel
theorem dX7_isBeyond_1 : decode cX7_isBeyond 1 = .ok (.ifCond .lt 18, 3) := by decide +kernel
theorem dX7_isBeyond_4 : decode cX7_isBeyond 4 = .ok (.aload_n 0, 1) := by decide +kernel
theorem dX7_isBeyond_5 : decode cX7_isBeyond 5 = .ok (.getfield 26, 3) := by decide +kernel
theorem dX7_isBeyond_8 : decode cX7_isBeyond 8 = .ok (.ifCond .eq 15, 3) := by decide +kernel
theorem dX7_isBeyond_11 : decode cX7_isBeyond 11 = .ok (.iload_n 1, 1) := by decide +kernel
theorem dX7_isBeyond_12 : decode cX7_isBeyond 12 = .ok (.aload_n 0, 1) := by decide +kernel
theorem dX7_isBeyond_13 : decode cX7_isBeyond 13 = .ok (.getfield 23, 3) := by decide +kernel
theorem dX7_isBeyond_16 : decode cX7_isBeyond 16 = .ok (.if_icmp .lt 7, 3) := by decide +kernel
theorem dX7_isBeyond_19 : decode cX7_isBeyond 19 = .ok (.iconst 1, 1) := by decide +kernel
theorem dX7_isBeyond_20 : decode cX7_isBeyond 20 = .ok (.goto 4, 3) := by decide +kernel
theorem dX7_isBeyond_23 : decode cX7_isBeyond 23 = .ok (.iconst 0, 1) := by decide +kernel
theorem dX7_isBeyond_24 : decode cX7_isBeyond 24 = .ok (.ireturn, 1) := by decide +kernel
theorem dX8_ratio_0 : decode cX8_ratio 0 = .ok (.lload_n 1, 1) := by decide +kernel
theorem dX8_ratio_1 : decode cX8_ratio 1 = .ok (.invokestatic 80, 3) := by decide +kernel
theorem dX8_ratio_4 : decode cX8_ratio 4 = .ok (.ifCond .ne 16, 3) := by decide +kernel
theorem dX8_ratio_7 : decode cX8_ratio 7 = .ok (.lload_n 3, 1) := by decide +kernel
theorem dX8_ratio_8 : decode cX8_ratio 8 = .ok (.invokestatic 80, 3) := by decide +kernel
theorem dX8_ratio_11 : decode cX8_ratio 11 = .ok (.ifCond .ne 9, 3) := by decide +kernel
theorem dX8_ratio_14 : decode cX8_ratio 14 = .ok (.lload_n 3, 1) := by decide +kernel
theorem dX8_ratio_15 : decode cX8_ratio 15 = .ok (.lconst 0, 1) := by decide +kernel
theorem dX8_ratio_16 : decode cX8_ratio 16 = .ok (.lcmp, 1) := by decide +kernel
theorem dX8_ratio_17 : decode cX8_ratio 17 = .ok (.ifCond .ne 7, 3) := by decide +kernel
theorem dX8_ratio_20 : decode cX8_ratio 20 = .ok (.ldc2_w 84, 3) := by decide +kernel
theorem dX8_ratio_23 : decode cX8_ratio 23 = .ok (.lreturn, 1) := by decide +kernel
theorem dX8_ratio_24 : decode cX8_ratio 24 = .ok (.aload_n 0, 1) := by decide +kernel
theorem dX8_ratio_25 : decode cX8_ratio 25 = .ok (.invokevirtual 86, 3) := by decide +kernel
theorem dX8_ratio_28 : decode cX8_ratio 28 = .ok (.istore 5, 2) := by decide +kernel
theorem dX8_ratio_30 : decode cX8_ratio 30 = .ok (.iload 5, 2) := by decide +kernel
theorem dX8_ratio_32 : decode cX8_ratio 32 = .ok (.iconst (-1), 1) := by decide +kernel
theorem dX8_ratio_33 : decode cX8_ratio 33 = .ok (.if_icmp .ne 7, 3) := by decide +kernel
theorem dX8_ratio_36 : decode cX8_ratio 36 = .ok (.ldc2_w 90, 3) := by decide +kernel
theorem dX8_ratio_39 : decode cX8_ratio 39 = .ok (.lreturn, 1) := by decide +kernel
theorem dX8_ratio_40 : decode cX8_ratio 40 = .ok (.aload_n 0, 1) := by decide +kernel
theorem dX8_ratio_41 : decode cX8_ratio 41 = .ok (.getfield 37, 3) := by decide +kernel
theorem dX8_ratio_44 : decode cX8_ratio 44 = .ok (.lload_n 1, 1) := by decide +kernel
theorem dX8_ratio_45 : decode cX8_ratio 45 = .ok (.lconst 0, 1) := by decide +kernel
theorem dX8_ratio_46 : decode cX8_ratio 46 = .ok (.lconst 0, 1) := by decide +kernel
theorem dX8_ratio_47 : decode cX8_ratio 47 = .ok (.lload_n 3, 1) := by decide +kernel
theorem dX8_ratio_48 : decode cX8_ratio 48 = .ok (.invokevirtual 92, 3) := by decide +kernel
theorem dX8_ratio_51 : decode cX8_ratio 51 = .ok (.aload_n 0, 1) := by decide +kernel
theorem dX8_ratio_52 : decode cX8_ratio 52 = .ok (.iload 5, 2) := by decide +kernel
theorem dX8_ratio_54 : decode cX8_ratio 54 = .ok (.invokevirtual 96, 3) := by decide +kernel
theorem dX8_ratio_57 : decode cX8_ratio 57 = .ok (.lreturn, 1) := by decide +kernel
theorem dX8_root_0 : decode cX8_root 0 = .ok (.iload_n 1, 1) := by decide +kernel
theorem dX8_root_1 : decode cX8_root 1 = .ok (.sipush 10000, 3) := by decide +kernel
theorem dX8_root_4 : decode cX8_root 4 = .ok (.invokestatic 100, 3) := by decide +kernel
theorem dX8_root_7 : decode cX8_root 7 = .ok (.ifCond .ne 39, 3) := by decide +kernel
theorem dX8_root_10 : decode cX8_root 10 = .ok (.iload_n 2, 1) := by decide +kernel
theorem dX8_root_11 : decode cX8_root 11 = .ok (.bipush 100, 2) := by decide +kernel
theorem dX8_root_13 : decode cX8_root 13 = .ok (.invokestatic 100, 3) := by decide +kernel
theorem dX8_root_16 : decode cX8_root 16 = .ok (.ifCond .ne 30, 3) := by decide +kernel
theorem dX8_root_19 : decode cX8_root 19 = .ok (.iload 4, 2) := by decide +kernel
theorem dX8_root_21 : decode cX8_root 21 = .ok (.sipush 1000, 3) := by decide +kernel
theorem dX8_root_24 : decode cX8_root 24 = .ok (.invokestatic 100, 3) := by decide +kernel
theorem dX8_root_27 : decode cX8_root 27 = .ok (.ifCond .ne 19, 3) := by decide +kernel
theorem dX8_root_30 : decode cX8_root 30 = .ok (.iload 4, 2) := by decide +kernel
theorem dX8_root_32 : decode cX8_root 32 = .ok (.ifCond .eq 14, 3) := by decide +kernel
theorem dX8_root_35 : decode cX8_root 35 = .ok (.iload_n 3, 1) := by decide +kernel
theorem dX8_root_36 : decode cX8_root 36 = .ok (.ifCond .lt 10, 3) := by decide +kernel
theorem dX8_root_39 : decode cX8_root 39 = .ok (.iload_n 3, 1) := by decide +kernel
theorem dX8_root_40 : decode cX8_root 40 = .ok (.sipush 1000, 3) := by decide +kernel
theorem dX8_root_43 : decode cX8_root 43 = .ok (.if_icmp .le 7, 3) := by decide +kernel
theorem dX8_root_46 : decode cX8_root 46 = .ok (.ldc2_w 84, 3) := by decide +kernel
theorem dX8_root_49 : decode cX8_root 49 = .ok (.lreturn, 1) := by decide +kernel
theorem dX8_root_50 : decode cX8_root 50 = .ok (.aload_n 0, 1) := by decide +kernel
theorem dX8_root_51 : decode cX8_root 51 = .ok (.invokevirtual 86, 3) := by decide +kernel
theorem dX8_root_54 : decode cX8_root 54 = .ok (.istore 5, 2) := by decide +kernel
theorem dX8_root_56 : decode cX8_root 56 = .ok (.iload 5, 2) := by decide +kernel
theorem dX8_root_58 : decode cX8_root 58 = .ok (.iconst (-1), 1) := by decide +kernel
theorem dX8_root_59 : decode cX8_root 59 = .ok (.if_icmp .ne 7, 3) := by decide +kernel
theorem dX8_root_62 : decode cX8_root 62 = .ok (.ldc2_w 90, 3) := by decide +kernel
theorem dX8_root_65 : decode cX8_root 65 = .ok (.lreturn, 1) := by decide +kernel
theorem dX8_root_66 : decode cX8_root 66 = .ok (.iload_n 3, 1) := by decide +kernel
theorem dX8_root_67 : decode cX8_root 67 = .ok (.invokestatic 104, 3) := by decide +kernel
theorem dX8_root_70 : decode cX8_root 70 = .ok (.istore 6, 2) := by decide +kernel
theorem dX8_root_72 : decode cX8_root 72 = .ok (.iload 6, 2) := by decide +kernel
theorem dX8_root_74 : decode cX8_root 74 = .ok (.ifCond .ne 7, 3) := by decide +kernel
theorem dX8_root_77 : decode cX8_root 77 = .ok (.iconst 1, 1) := by decide +kernel
theorem dX8_root_78 : decode cX8_root 78 = .ok (.goto 10, 3) := by decide +kernel
theorem dX8_root_81 : decode cX8_root 81 = .ok (.iload_n 3, 1) := by decide +kernel
theorem dX8_root_82 : decode cX8_root 82 = .ok (.iload 6, 2) := by decide +kernel
theorem dX8_root_84 : decode cX8_root 84 = .ok (.iload 6, 2) := by decide +kernel
theorem dX8_root_86 : decode cX8_root 86 = .ok (.imul, 1) := by decide +kernel
theorem dX8_root_87 : decode cX8_root 87 = .ok (.idiv, 1) := by decide +kernel
theorem dX8_root_88 : decode cX8_root 88 = .ok (.istore 7, 2) := by decide +kernel
theorem dX8_root_90 : decode cX8_root 90 = .ok (.iload 7, 2) := by decide +kernel
theorem dX8_root_92 : decode cX8_root 92 = .ok (.iconst 1, 1) := by decide +kernel
theorem dX8_root_93 : decode cX8_root 93 = .ok (.if_icmp .ne 27, 3) := by decide +kernel
theorem dX8_root_96 : decode cX8_root 96 = .ok (.aload_n 0, 1) := by decide +kernel
theorem dX8_root_97 : decode cX8_root 97 = .ok (.getfield 37, 3) := by decide +kernel
theorem dX8_root_100 : decode cX8_root 100 = .ok (.iload_n 1, 1) := by decide +kernel
theorem dX8_root_101 : decode cX8_root 101 = .ok (.i2l, 1) := by decide +kernel
theorem dX8_root_102 : decode cX8_root 102 = .ok (.iload_n 2, 1) := by decide +kernel
theorem dX8_root_103 : decode cX8_root 103 = .ok (.i2l, 1) := by decide +kernel
theorem dX8_root_104 : decode cX8_root 104 = .ok (.iload 6, 2) := by decide +kernel
theorem dX8_root_106 : decode cX8_root 106 = .ok (.i2l, 1) := by decide +kernel
theorem dX8_root_107 : decode cX8_root 107 = .ok (.lmul, 1) := by decide +kernel
theorem dX8_root_108 : decode cX8_root 108 = .ok (.ladd, 1) := by decide +kernel
theorem dX8_root_109 : decode cX8_root 109 = .ok (.lconst 0, 1) := by decide +kernel
theorem dX8_root_110 : decode cX8_root 110 = .ok (.lconst 0, 1) := by decide +kernel
theorem dX8_root_111 : decode cX8_root 111 = .ok (.iload 4, 2) := by decide +kernel
theorem dX8_root_113 : decode cX8_root 113 = .ok (.i2l, 1) := by decide +kernel
theorem dX8_root_114 : decode cX8_root 114 = .ok (.invokevirtual 92, 3) := by decide +kernel
theorem dX8_root_117 : decode cX8_root 117 = .ok (.goto 24, 3) := by decide +kernel
theorem dX8_root_120 : decode cX8_root 120 = .ok (.aload_n 0, 1) := by decide +kernel
theorem dX8_root_121 : decode cX8_root 121 = .ok (.getfield 37, 3) := by decide +kernel
theorem dX8_root_124 : decode cX8_root 124 = .ok (.iload_n 1, 1) := by decide +kernel
theorem dX8_root_125 : decode cX8_root 125 = .ok (.i2l, 1) := by decide +kernel
theorem dX8_root_126 : decode cX8_root 126 = .ok (.iload_n 2, 1) := by decide +kernel
theorem dX8_root_127 : decode cX8_root 127 = .ok (.i2l, 1) := by decide +kernel
theorem dX8_root_128 : decode cX8_root 128 = .ok (.iload 6, 2) := by decide +kernel
theorem dX8_root_130 : decode cX8_root 130 = .ok (.i2l, 1) := by decide +kernel
theorem dX8_root_131 : decode cX8_root 131 = .ok (.lmul, 1) := by decide +kernel
theorem dX8_root_132 : decode cX8_root 132 = .ok (.iload 7, 2) := by decide +kernel
theorem dX8_root_134 : decode cX8_root 134 = .ok (.i2l, 1) := by decide +kernel
theorem dX8_root_135 : decode cX8_root 135 = .ok (.iload 4, 2) := by decide +kernel
theorem dX8_root_137 : decode cX8_root 137 = .ok (.i2l, 1) := by decide +kernel
theorem dX8_root_138 : decode cX8_root 138 = .ok (.invokevirtual 92, 3) := by decide +kernel
theorem dX8_root_141 : decode cX8_root 141 = .ok (.aload_n 0, 1) := by decide +kernel
theorem dX8_root_142 : decode cX8_root 142 = .ok (.iload 5, 2) := by decide +kernel
theorem dX8_root_144 : decode cX8_root 144 = .ok (.invokevirtual 96, 3) := by decide +kernel
theorem dX8_root_147 : decode cX8_root 147 = .ok (.lreturn, 1) := by decide +kernel
theorem dX8_row_0 : decode cX8_row 0 = .ok (.iload_n 1, 1) := by decide +kernel
theorem dX8_row_1 : decode cX8_row 1 = .ok (.iconst 1, 1) := by decide +kernel
theorem dX8_row_2 : decode cX8_row 2 = .ok (.if_icmp .lt 19, 3) := by decide +kernel
theorem dX8_row_5 : decode cX8_row 5 = .ok (.iload_n 1, 1) := by decide +kernel
theorem dX8_row_6 : decode cX8_row 6 = .ok (.ldc 108, 2) := by decide +kernel
theorem dX8_row_8 : decode cX8_row 8 = .ok (.if_icmp .gt 13, 3) := by decide +kernel
theorem dX8_row_11 : decode cX8_row 11 = .ok (.iload_n 2, 1) := by decide +kernel
theorem dX8_row_12 : decode cX8_row 12 = .ok (.ifCond .lt 9, 3) := by decide +kernel
theorem dX8_row_15 : decode cX8_row 15 = .ok (.iload_n 2, 1) := by decide +kernel
theorem dX8_row_16 : decode cX8_row 16 = .ok (.ldc 108, 2) := by decide +kernel
theorem dX8_row_18 : decode cX8_row 18 = .ok (.if_icmp .le 7, 3) := by decide +kernel
theorem dX8_row_21 : decode cX8_row 21 = .ok (.ldc2_w 84, 3) := by decide +kernel
theorem dX8_row_24 : decode cX8_row 24 = .ok (.lreturn, 1) := by decide +kernel
theorem dX8_row_25 : decode cX8_row 25 = .ok (.aload_n 0, 1) := by decide +kernel
theorem dX8_row_26 : decode cX8_row 26 = .ok (.getfield 27, 3) := by decide +kernel
theorem dX8_row_29 : decode cX8_row 29 = .ok (.bipush 8, 2) := by decide +kernel
theorem dX8_row_31 : decode cX8_row 31 = .ok (.if_icmp .lt 7, 3) := by decide +kernel
theorem dX8_row_34 : decode cX8_row 34 = .ok (.ldc2_w 90, 3) := by decide +kernel
theorem dX8_row_37 : decode cX8_row 37 = .ok (.lreturn, 1) := by decide +kernel
theorem dX8_row_38 : decode cX8_row 38 = .ok (.aload_n 0, 1) := by decide +kernel
theorem dX8_row_39 : decode cX8_row 39 = .ok (.getfield 20, 3) := by decide +kernel
theorem dX8_row_42 : decode cX8_row 42 = .ok (.aload_n 0, 1) := by decide +kernel
theorem dX8_row_43 : decode cX8_row 43 = .ok (.getfield 27, 3) := by decide +kernel
theorem dX8_row_46 : decode cX8_row 46 = .ok (.iload_n 1, 1) := by decide +kernel
theorem dX8_row_47 : decode cX8_row 47 = .ok (.i2l, 1) := by decide +kernel
theorem dX8_row_48 : decode cX8_row 48 = .ok (.lastore, 1) := by decide +kernel
theorem dX8_row_49 : decode cX8_row 49 = .ok (.aload_n 0, 1) := by decide +kernel
theorem dX8_row_50 : decode cX8_row 50 = .ok (.getfield 24, 3) := by decide +kernel
theorem dX8_row_53 : decode cX8_row 53 = .ok (.aload_n 0, 1) := by decide +kernel
theorem dX8_row_54 : decode cX8_row 54 = .ok (.getfield 27, 3) := by decide +kernel
theorem dX8_row_57 : decode cX8_row 57 = .ok (.iload_n 2, 1) := by decide +kernel
theorem dX8_row_58 : decode cX8_row 58 = .ok (.i2l, 1) := by decide +kernel
theorem dX8_row_59 : decode cX8_row 59 = .ok (.lastore, 1) := by decide +kernel
theorem dX8_row_60 : decode cX8_row 60 = .ok (.aload_n 0, 1) := by decide +kernel
theorem dX8_row_61 : decode cX8_row 61 = .ok (.dup, 1) := by decide +kernel
theorem dX8_row_62 : decode cX8_row 62 = .ok (.getfield 27, 3) := by decide +kernel
theorem dX8_row_65 : decode cX8_row 65 = .ok (.iconst 1, 1) := by decide +kernel
theorem dX8_row_66 : decode cX8_row 66 = .ok (.iadd, 1) := by decide +kernel
theorem dX8_row_67 : decode cX8_row 67 = .ok (.putfield 27, 3) := by decide +kernel
theorem dX8_row_70 : decode cX8_row 70 = .ok (.aload_n 0, 1) := by decide +kernel
theorem dX8_row_71 : decode cX8_row 71 = .ok (.getfield 27, 3) := by decide +kernel
theorem dX8_row_74 : decode cX8_row 74 = .ok (.i2l, 1) := by decide +kernel
theorem dX8_row_75 : decode cX8_row 75 = .ok (.lreturn, 1) := by decide +kernel
theorem dX8_rule_0 : decode cX8_rule 0 = .ok (.iload_n 1, 1) := by decide +kernel
theorem dX8_rule_1 : decode cX8_rule 1 = .ok (.ldc 108, 2) := by decide +kernel
theorem dX8_rule_3 : decode cX8_rule 3 = .ok (.invokestatic 100, 3) := by decide +kernel
theorem dX8_rule_6 : decode cX8_rule 6 = .ok (.ifCond .eq 7, 3) := by decide +kernel
theorem dX8_rule_9 : decode cX8_rule 9 = .ok (.ldc2_w 84, 3) := by decide +kernel
theorem dX8_rule_12 : decode cX8_rule 12 = .ok (.lreturn, 1) := by decide +kernel
theorem dX8_rule_13 : decode cX8_rule 13 = .ok (.aload_n 0, 1) := by decide +kernel
theorem dX8_rule_14 : decode cX8_rule 14 = .ok (.getfield 27, 3) := by decide +kernel
theorem dX8_rule_17 : decode cX8_rule 17 = .ok (.ifCond .ne 7, 3) := by decide +kernel
theorem dX8_rule_20 : decode cX8_rule 20 = .ok (.ldc2_w 109, 3) := by decide +kernel
theorem dX8_rule_23 : decode cX8_rule 23 = .ok (.lreturn, 1) := by decide +kernel
theorem dX8_rule_24 : decode cX8_rule 24 = .ok (.aload_n 0, 1) := by decide +kernel
theorem dX8_rule_25 : decode cX8_rule 25 = .ok (.invokevirtual 86, 3) := by decide +kernel
theorem dX8_rule_28 : decode cX8_rule 28 = .ok (.istore_n 2, 1) := by decide +kernel
theorem dX8_rule_29 : decode cX8_rule 29 = .ok (.iload_n 2, 1) := by decide +kernel
theorem dX8_rule_30 : decode cX8_rule 30 = .ok (.iconst (-1), 1) := by decide +kernel
theorem dX8_rule_31 : decode cX8_rule 31 = .ok (.if_icmp .ne 7, 3) := by decide +kernel
theorem dX8_rule_34 : decode cX8_rule 34 = .ok (.ldc2_w 90, 3) := by decide +kernel
theorem dX8_rule_37 : decode cX8_rule 37 = .ok (.lreturn, 1) := by decide +kernel
theorem dX8_rule_38 : decode cX8_rule 38 = .ok (.aload_n 0, 1) := by decide +kernel
theorem dX8_rule_39 : decode cX8_rule 39 = .ok (.aload_n 0, 1) := by decide +kernel
theorem dX8_rule_40 : decode cX8_rule 40 = .ok (.getfield 11, 3) := by decide +kernel
theorem dX8_rule_43 : decode cX8_rule 43 = .ok (.iload_n 2, 1) := by decide +kernel
theorem dX8_rule_44 : decode cX8_rule 44 = .ok (.aaload, 1) := by decide +kernel
theorem dX8_rule_45 : decode cX8_rule 45 = .ok (.iload_n 1, 1) := by decide +kernel
theorem dX8_rule_46 : decode cX8_rule 46 = .ok (.invokevirtual 111, 3) := by decide +kernel
theorem dX8_rule_49 : decode cX8_rule 49 = .ok (.aload_n 0, 1) := by decide +kernel
theorem dX8_rule_50 : decode cX8_rule 50 = .ok (.iconst 0, 1) := by decide +kernel
theorem dX8_rule_51 : decode cX8_rule 51 = .ok (.putfield 27, 3) := by decide +kernel
theorem dX8_rule_54 : decode cX8_rule 54 = .ok (.aload_n 0, 1) := by decide +kernel
theorem dX8_rule_55 : decode cX8_rule 55 = .ok (.iload_n 2, 1) := by decide +kernel
theorem dX8_rule_56 : decode cX8_rule 56 = .ok (.invokevirtual 115, 3) := by decide +kernel
theorem dX8_rule_59 : decode cX8_rule 59 = .ok (.lreturn, 1) := by decide +kernel
theorem dX8_mix_0 : decode cX8_mix 0 = .ok (.aload_n 0, 1) := by decide +kernel
theorem dX8_mix_1 : decode cX8_mix 1 = .ok (.iload_n 1, 1) := by decide +kernel
theorem dX8_mix_2 : decode cX8_mix 2 = .ok (.invokevirtual 118, 3) := by decide +kernel
theorem dX8_mix_5 : decode cX8_mix 5 = .ok (.astore_n 3, 1) := by decide +kernel
theorem dX8_mix_6 : decode cX8_mix 6 = .ok (.aload_n 0, 1) := by decide +kernel
theorem dX8_mix_7 : decode cX8_mix 7 = .ok (.iload_n 2, 1) := by decide +kernel
theorem dX8_mix_8 : decode cX8_mix 8 = .ok (.invokevirtual 118, 3) := by decide +kernel
theorem dX8_mix_11 : decode cX8_mix 11 = .ok (.astore 4, 2) := by decide +kernel
theorem dX8_mix_13 : decode cX8_mix 13 = .ok (.aload_n 3, 1) := by decide +kernel
theorem dX8_mix_14 : decode cX8_mix 14 = .ok (.ifnull 8, 3) := by decide +kernel
theorem dX8_mix_17 : decode cX8_mix 17 = .ok (.aload 4, 2) := by decide +kernel
theorem dX8_mix_19 : decode cX8_mix 19 = .ok (.ifnonnull 7, 3) := by decide +kernel
theorem dX8_mix_22 : decode cX8_mix 22 = .ok (.ldc2_w 122, 3) := by decide +kernel
theorem dX8_mix_25 : decode cX8_mix 25 = .ok (.lreturn, 1) := by decide +kernel
theorem dX8_mix_26 : decode cX8_mix 26 = .ok (.aload_n 3, 1) := by decide +kernel
theorem dX8_mix_27 : decode cX8_mix 27 = .ok (.getfield 144, 3) := by decide +kernel
theorem dX8_mix_30 : decode cX8_mix 30 = .ok (.ifCond .ne 15, 3) := by decide +kernel
theorem dX8_mix_33 : decode cX8_mix 33 = .ok (.aload 4, 2) := by decide +kernel
theorem dX8_mix_35 : decode cX8_mix 35 = .ok (.getfield 144, 3) := by decide +kernel
theorem dX8_mix_38 : decode cX8_mix 38 = .ok (.ifCond .ne 7, 3) := by decide +kernel
theorem dX8_mix_41 : decode cX8_mix 41 = .ok (.iconst 1, 1) := by decide +kernel
theorem dX8_mix_42 : decode cX8_mix 42 = .ok (.goto 4, 3) := by decide +kernel
theorem dX8_mix_45 : decode cX8_mix 45 = .ok (.iconst 0, 1) := by decide +kernel
theorem dX8_mix_46 : decode cX8_mix 46 = .ok (.istore 5, 2) := by decide +kernel
theorem dX8_mix_48 : decode cX8_mix 48 = .ok (.iload 5, 2) := by decide +kernel
theorem dX8_mix_50 : decode cX8_mix 50 = .ok (.ifCond .eq 33, 3) := by decide +kernel
theorem dX8_mix_53 : decode cX8_mix 53 = .ok (.aload_n 0, 1) := by decide +kernel
theorem dX8_mix_54 : decode cX8_mix 54 = .ok (.getfield 37, 3) := by decide +kernel
theorem dX8_mix_57 : decode cX8_mix 57 = .ok (.aload_n 0, 1) := by decide +kernel
theorem dX8_mix_58 : decode cX8_mix 58 = .ok (.getfield 31, 3) := by decide +kernel
theorem dX8_mix_61 : decode cX8_mix 61 = .ok (.aload_n 3, 1) := by decide +kernel
theorem dX8_mix_62 : decode cX8_mix 62 = .ok (.aload 4, 2) := by decide +kernel
theorem dX8_mix_64 : decode cX8_mix 64 = .ok (.invokevirtual 147, 3) := by decide +kernel
theorem dX8_mix_67 : decode cX8_mix 67 = .ok (.aload_n 0, 1) := by decide +kernel
theorem dX8_mix_68 : decode cX8_mix 68 = .ok (.getfield 37, 3) := by decide +kernel
theorem dX8_mix_71 : decode cX8_mix 71 = .ok (.getfield 151, 3) := by decide +kernel
theorem dX8_mix_74 : decode cX8_mix 74 = .ok (.lconst 0, 1) := by decide +kernel
theorem dX8_mix_75 : decode cX8_mix 75 = .ok (.lcmp, 1) := by decide +kernel
theorem dX8_mix_76 : decode cX8_mix 76 = .ok (.ifCond .ne 7, 3) := by decide +kernel
theorem dX8_mix_79 : decode cX8_mix 79 = .ok (.ldc2_w 109, 3) := by decide +kernel
theorem dX8_mix_82 : decode cX8_mix 82 = .ok (.lreturn, 1) := by decide +kernel
theorem dX8_mix_83 : decode cX8_mix 83 = .ok (.aload_n 0, 1) := by decide +kernel
theorem dX8_mix_84 : decode cX8_mix 84 = .ok (.invokevirtual 86, 3) := by decide +kernel
theorem dX8_mix_87 : decode cX8_mix 87 = .ok (.istore 6, 2) := by decide +kernel
theorem dX8_mix_89 : decode cX8_mix 89 = .ok (.iload 6, 2) := by decide +kernel
theorem dX8_mix_91 : decode cX8_mix 91 = .ok (.iconst (-1), 1) := by decide +kernel
theorem dX8_mix_92 : decode cX8_mix 92 = .ok (.if_icmp .ne 7, 3) := by decide +kernel
theorem dX8_mix_95 : decode cX8_mix 95 = .ok (.ldc2_w 90, 3) := by decide +kernel
theorem dX8_mix_98 : decode cX8_mix 98 = .ok (.lreturn, 1) := by decide +kernel
theorem dX8_mix_99 : decode cX8_mix 99 = .ok (.iload 5, 2) := by decide +kernel
theorem dX8_mix_101 : decode cX8_mix 101 = .ok (.ifCond .eq 10, 3) := by decide +kernel
theorem dX8_mix_104 : decode cX8_mix 104 = .ok (.aload_n 0, 1) := by decide +kernel
theorem dX8_mix_105 : decode cX8_mix 105 = .ok (.iload 6, 2) := by decide +kernel
theorem dX8_mix_107 : decode cX8_mix 107 = .ok (.invokevirtual 96, 3) := by decide +kernel
theorem dX8_mix_110 : decode cX8_mix 110 = .ok (.lreturn, 1) := by decide +kernel
theorem dX8_mix_111 : decode cX8_mix 111 = .ok (.aload_n 0, 1) := by decide +kernel
theorem dX8_mix_112 : decode cX8_mix 112 = .ok (.getfield 51, 3) := by decide +kernel
theorem dX8_mix_115 : decode cX8_mix 115 = .ok (.aload_n 0, 1) := by decide +kernel
theorem dX8_mix_116 : decode cX8_mix 116 = .ok (.getfield 31, 3) := by decide +kernel
theorem dX8_mix_119 : decode cX8_mix 119 = .ok (.invokevirtual 155, 3) := by decide +kernel
theorem dX8_mix_122 : decode cX8_mix 122 = .ok (.aload_n 0, 1) := by decide +kernel
theorem dX8_mix_123 : decode cX8_mix 123 = .ok (.getfield 51, 3) := by decide +kernel
theorem dX8_mix_126 : decode cX8_mix 126 = .ok (.aload_n 0, 1) := by decide +kernel
theorem dX8_mix_127 : decode cX8_mix 127 = .ok (.getfield 11, 3) := by decide +kernel
theorem dX8_mix_130 : decode cX8_mix 130 = .ok (.iload 6, 2) := by decide +kernel
theorem dX8_mix_132 : decode cX8_mix 132 = .ok (.aaload, 1) := by decide +kernel
theorem dX8_mix_133 : decode cX8_mix 133 = .ok (.aload_n 3, 1) := by decide +kernel
theorem dX8_mix_134 : decode cX8_mix 134 = .ok (.aload 4, 2) := by decide +kernel
theorem dX8_mix_136 : decode cX8_mix 136 = .ok (.invokevirtual 140, 3) := by decide +kernel
theorem dX8_mix_139 : decode cX8_mix 139 = .ok (.aload_n 0, 1) := by decide +kernel
theorem dX8_mix_140 : decode cX8_mix 140 = .ok (.iload 6, 2) := by decide +kernel
theorem dX8_mix_142 : decode cX8_mix 142 = .ok (.invokevirtual 115, 3) := by decide +kernel
theorem dX8_mix_145 : decode cX8_mix 145 = .ok (.lreturn, 1) := by decide +kernel
theorem dX8_told_0 : decode cX8_told 0 = .ok (.aload_n 0, 1) := by decide +kernel
theorem dX8_told_1 : decode cX8_told 1 = .ok (.iload_n 1, 1) := by decide +kernel
theorem dX8_told_2 : decode cX8_told 2 = .ok (.invokevirtual 118, 3) := by decide +kernel
theorem dX8_told_5 : decode cX8_told 5 = .ok (.astore_n 3, 1) := by decide +kernel
theorem dX8_told_6 : decode cX8_told 6 = .ok (.aload_n 3, 1) := by decide +kernel
theorem dX8_told_7 : decode cX8_told 7 = .ok (.ifnonnull 7, 3) := by decide +kernel
theorem dX8_told_10 : decode cX8_told 10 = .ok (.ldc2_w 122, 3) := by decide +kernel
theorem dX8_told_13 : decode cX8_told 13 = .ok (.lreturn, 1) := by decide +kernel
theorem dX8_told_14 : decode cX8_told 14 = .ok (.iload_n 2, 1) := by decide +kernel
theorem dX8_told_15 : decode cX8_told 15 = .ok (.tableswitch 77 0 4 #[33, 39, 45, 58, 64], 33) := by decide +kernel
theorem dX8_told_48 : decode cX8_told 48 = .ok (.aload_n 3, 1) := by decide +kernel
theorem dX8_told_49 : decode cX8_told 49 = .ok (.getfield 144, 3) := by decide +kernel
theorem dX8_told_52 : decode cX8_told 52 = .ok (.i2l, 1) := by decide +kernel
theorem dX8_told_53 : decode cX8_told 53 = .ok (.lreturn, 1) := by decide +kernel
theorem dX8_told_54 : decode cX8_told 54 = .ok (.aload_n 3, 1) := by decide +kernel
theorem dX8_told_55 : decode cX8_told 55 = .ok (.getfield 166, 3) := by decide +kernel
theorem dX8_told_58 : decode cX8_told 58 = .ok (.i2l, 1) := by decide +kernel
theorem dX8_told_59 : decode cX8_told 59 = .ok (.lreturn, 1) := by decide +kernel
theorem dX8_told_60 : decode cX8_told 60 = .ok (.aload_n 3, 1) := by decide +kernel
theorem dX8_told_61 : decode cX8_told 61 = .ok (.getfield 169, 3) := by decide +kernel
theorem dX8_told_64 : decode cX8_told 64 = .ok (.ifCond .eq 7, 3) := by decide +kernel
theorem dX8_told_67 : decode cX8_told 67 = .ok (.lconst 1, 1) := by decide +kernel
theorem dX8_told_68 : decode cX8_told 68 = .ok (.goto 4, 3) := by decide +kernel
theorem dX8_told_71 : decode cX8_told 71 = .ok (.lconst 0, 1) := by decide +kernel
theorem dX8_told_72 : decode cX8_told 72 = .ok (.lreturn, 1) := by decide +kernel
theorem dX8_told_73 : decode cX8_told 73 = .ok (.aload_n 3, 1) := by decide +kernel
theorem dX8_told_74 : decode cX8_told 74 = .ok (.getfield 172, 3) := by decide +kernel
theorem dX8_told_77 : decode cX8_told 77 = .ok (.i2l, 1) := by decide +kernel
theorem dX8_told_78 : decode cX8_told 78 = .ok (.lreturn, 1) := by decide +kernel
theorem dX8_told_79 : decode cX8_told 79 = .ok (.aload_n 3, 1) := by decide +kernel
theorem dX8_told_80 : decode cX8_told 80 = .ok (.invokevirtual 175, 3) := by decide +kernel
theorem dX8_told_83 : decode cX8_told 83 = .ok (.ifCond .eq 7, 3) := by decide +kernel
theorem dX8_told_86 : decode cX8_told 86 = .ok (.lconst 1, 1) := by decide +kernel
theorem dX8_told_87 : decode cX8_told 87 = .ok (.goto 4, 3) := by decide +kernel
theorem dX8_told_90 : decode cX8_told 90 = .ok (.lconst 0, 1) := by decide +kernel
theorem dX8_told_91 : decode cX8_told 91 = .ok (.lreturn, 1) := by decide +kernel
theorem dX8_told_92 : decode cX8_told 92 = .ok (.ldc2_w 84, 3) := by decide +kernel
theorem dX8_told_95 : decode cX8_told 95 = .ok (.lreturn, 1) := by decide +kernel
theorem dX8_part_0 : decode cX8_part 0 = .ok (.aload_n 0, 1) := by decide +kernel
theorem dX8_part_1 : decode cX8_part 1 = .ok (.iload_n 1, 1) := by decide +kernel
theorem dX8_part_2 : decode cX8_part 2 = .ok (.invokevirtual 118, 3) := by decide +kernel
theorem dX8_part_5 : decode cX8_part 5 = .ok (.astore_n 3, 1) := by decide +kernel
theorem dX8_part_6 : decode cX8_part 6 = .ok (.aload_n 3, 1) := by decide +kernel
theorem dX8_part_7 : decode cX8_part 7 = .ok (.ifnonnull 7, 3) := by decide +kernel
theorem dX8_part_10 : decode cX8_part 10 = .ok (.ldc2_w 122, 3) := by decide +kernel
theorem dX8_part_13 : decode cX8_part 13 = .ok (.lreturn, 1) := by decide +kernel
theorem dX8_part_14 : decode cX8_part 14 = .ok (.aload_n 3, 1) := by decide +kernel
theorem dX8_part_15 : decode cX8_part 15 = .ok (.iload_n 2, 1) := by decide +kernel
theorem dX8_part_16 : decode cX8_part 16 = .ok (.invokevirtual 178, 3) := by decide +kernel
theorem dX8_part_19 : decode cX8_part 19 = .ok (.ifCond .eq 7, 3) := by decide +kernel
theorem dX8_part_22 : decode cX8_part 22 = .ok (.ldc2_w 84, 3) := by decide +kernel
theorem dX8_part_25 : decode cX8_part 25 = .ok (.lreturn, 1) := by decide +kernel
theorem dX8_part_26 : decode cX8_part 26 = .ok (.iload_n 2, 1) := by decide +kernel
theorem dX8_part_27 : decode cX8_part 27 = .ok (.aload_n 3, 1) := by decide +kernel
theorem dX8_part_28 : decode cX8_part 28 = .ok (.getfield 166, 3) := by decide +kernel
theorem dX8_part_31 : decode cX8_part 31 = .ok (.if_icmp .ge 11, 3) := by decide +kernel
theorem dX8_part_34 : decode cX8_part 34 = .ok (.aload_n 3, 1) := by decide +kernel
theorem dX8_part_35 : decode cX8_part 35 = .ok (.iload_n 2, 1) := by decide +kernel
theorem dX8_part_36 : decode cX8_part 36 = .ok (.invokevirtual 182, 3) := by decide +kernel
theorem dX8_part_39 : decode cX8_part 39 = .ok (.goto 6, 3) := by decide +kernel
theorem dX8_part_42 : decode cX8_part 42 = .ok (.ldc2_w 185, 3) := by decide +kernel
theorem dX8_part_45 : decode cX8_part 45 = .ok (.lreturn, 1) := by decide +kernel
theorem dX8_round_0 : decode cX8_round 0 = .ok (.aload_n 0, 1) := by decide +kernel
theorem dX8_round_1 : decode cX8_round 1 = .ok (.iload_n 1, 1) := by decide +kernel
theorem dX8_round_2 : decode cX8_round 2 = .ok (.invokevirtual 118, 3) := by decide +kernel
theorem dX8_round_5 : decode cX8_round 5 = .ok (.astore_n 3, 1) := by decide +kernel
theorem dX8_round_6 : decode cX8_round 6 = .ok (.aload_n 3, 1) := by decide +kernel
theorem dX8_round_7 : decode cX8_round 7 = .ok (.ifnonnull 7, 3) := by decide +kernel
theorem dX8_round_10 : decode cX8_round 10 = .ok (.ldc2_w 122, 3) := by decide +kernel
theorem dX8_round_13 : decode cX8_round 13 = .ok (.lreturn, 1) := by decide +kernel
theorem dX8_round_14 : decode cX8_round 14 = .ok (.iload_n 2, 1) := by decide +kernel
theorem dX8_round_15 : decode cX8_round 15 = .ok (.ifCond .eq 12, 3) := by decide +kernel
theorem dX8_round_18 : decode cX8_round 18 = .ok (.iload_n 2, 1) := by decide +kernel
theorem dX8_round_19 : decode cX8_round 19 = .ok (.iconst 1, 1) := by decide +kernel
theorem dX8_round_20 : decode cX8_round 20 = .ok (.if_icmp .eq 7, 3) := by decide +kernel
theorem dX8_round_23 : decode cX8_round 23 = .ok (.ldc2_w 84, 3) := by decide +kernel
theorem dX8_round_26 : decode cX8_round 26 = .ok (.lreturn, 1) := by decide +kernel
theorem dX8_round_27 : decode cX8_round 27 = .ok (.aload_n 3, 1) := by decide +kernel
theorem dX8_round_28 : decode cX8_round 28 = .ok (.getfield 144, 3) := by decide +kernel
theorem dX8_round_31 : decode cX8_round 31 = .ok (.iconst 1, 1) := by decide +kernel
theorem dX8_round_32 : decode cX8_round 32 = .ok (.if_icmp .eq 7, 3) := by decide +kernel
theorem dX8_round_35 : decode cX8_round 35 = .ok (.ldc2_w 109, 3) := by decide +kernel
theorem dX8_round_38 : decode cX8_round 38 = .ok (.lreturn, 1) := by decide +kernel
theorem dX8_round_39 : decode cX8_round 39 = .ok (.aload_n 0, 1) := by decide +kernel
theorem dX8_round_40 : decode cX8_round 40 = .ok (.getfield 44, 3) := by decide +kernel
theorem dX8_round_43 : decode cX8_round 43 = .ok (.aload_n 3, 1) := by decide +kernel
theorem dX8_round_44 : decode cX8_round 44 = .ok (.invokevirtual 195, 3) := by decide +kernel
theorem dX8_round_47 : decode cX8_round 47 = .ok (.aload_n 0, 1) := by decide +kernel
theorem dX8_round_48 : decode cX8_round 48 = .ok (.getfield 44, 3) := by decide +kernel
theorem dX8_round_51 : decode cX8_round 51 = .ok (.invokevirtual 199, 3) := by decide +kernel
theorem dX8_round_54 : decode cX8_round 54 = .ok (.ifCond .ne 7, 3) := by decide +kernel
theorem dX8_round_57 : decode cX8_round 57 = .ok (.ldc2_w 185, 3) := by decide +kernel
theorem dX8_round_60 : decode cX8_round 60 = .ok (.lreturn, 1) := by decide +kernel
theorem dX8_round_61 : decode cX8_round 61 = .ok (.iload_n 2, 1) := by decide +kernel
theorem dX8_round_62 : decode cX8_round 62 = .ok (.ifCond .ne 14, 3) := by decide +kernel
theorem dX8_round_65 : decode cX8_round 65 = .ok (.aload_n 0, 1) := by decide +kernel
theorem dX8_round_66 : decode cX8_round 66 = .ok (.getfield 44, 3) := by decide +kernel
theorem dX8_round_69 : decode cX8_round 69 = .ok (.getfield 202, 3) := by decide +kernel
theorem dX8_round_72 : decode cX8_round 72 = .ok (.i2l, 1) := by decide +kernel
theorem dX8_round_73 : decode cX8_round 73 = .ok (.goto 11, 3) := by decide +kernel
theorem dX8_round_76 : decode cX8_round 76 = .ok (.aload_n 0, 1) := by decide +kernel
theorem dX8_round_77 : decode cX8_round 77 = .ok (.getfield 44, 3) := by decide +kernel
theorem dX8_round_80 : decode cX8_round 80 = .ok (.getfield 205, 3) := by decide +kernel
theorem dX8_round_83 : decode cX8_round 83 = .ok (.i2l, 1) := by decide +kernel
theorem dX8_round_84 : decode cX8_round 84 = .ok (.lreturn, 1) := by decide +kernel
theorem dX8_sign_0 : decode cX8_sign 0 = .ok (.aload_n 0, 1) := by decide +kernel
theorem dX8_sign_1 : decode cX8_sign 1 = .ok (.iload_n 1, 1) := by decide +kernel
theorem dX8_sign_2 : decode cX8_sign 2 = .ok (.invokevirtual 118, 3) := by decide +kernel
theorem dX8_sign_5 : decode cX8_sign 5 = .ok (.astore_n 2, 1) := by decide +kernel
theorem dX8_sign_6 : decode cX8_sign 6 = .ok (.aload_n 2, 1) := by decide +kernel
theorem dX8_sign_7 : decode cX8_sign 7 = .ok (.ifnonnull 7, 3) := by decide +kernel
theorem dX8_sign_10 : decode cX8_sign 10 = .ok (.ldc2_w 122, 3) := by decide +kernel
theorem dX8_sign_13 : decode cX8_sign 13 = .ok (.lreturn, 1) := by decide +kernel
theorem dX8_sign_14 : decode cX8_sign 14 = .ok (.aload_n 2, 1) := by decide +kernel
theorem dX8_sign_15 : decode cX8_sign 15 = .ok (.getfield 166, 3) := by decide +kernel
theorem dX8_sign_18 : decode cX8_sign 18 = .ok (.ifCond .ne 7, 3) := by decide +kernel
theorem dX8_sign_21 : decode cX8_sign 21 = .ok (.ldc2_w 185, 3) := by decide +kernel
theorem dX8_sign_24 : decode cX8_sign 24 = .ok (.lreturn, 1) := by decide +kernel
theorem dX8_sign_25 : decode cX8_sign 25 = .ok (.aload_n 2, 1) := by decide +kernel
theorem dX8_sign_26 : decode cX8_sign 26 = .ok (.iconst 0, 1) := by decide +kernel
theorem dX8_sign_27 : decode cX8_sign 27 = .ok (.invokevirtual 182, 3) := by decide +kernel
theorem dX8_sign_30 : decode cX8_sign 30 = .ok (.lstore_n 3, 1) := by decide +kernel
theorem dX8_sign_31 : decode cX8_sign 31 = .ok (.lload_n 3, 1) := by decide +kernel
theorem dX8_sign_32 : decode cX8_sign 32 = .ok (.lconst 0, 1) := by decide +kernel
theorem dX8_sign_33 : decode cX8_sign 33 = .ok (.lcmp, 1) := by decide +kernel
theorem dX8_sign_34 : decode cX8_sign 34 = .ok (.ifCond .eq 17, 3) := by decide +kernel
theorem dX8_sign_37 : decode cX8_sign 37 = .ok (.lload_n 3, 1) := by decide +kernel
theorem dX8_sign_38 : decode cX8_sign 38 = .ok (.lconst 0, 1) := by decide +kernel
theorem dX8_sign_39 : decode cX8_sign 39 = .ok (.lcmp, 1) := by decide +kernel
theorem dX8_sign_40 : decode cX8_sign 40 = .ok (.ifCond .ge 9, 3) := by decide +kernel
theorem dX8_sign_43 : decode cX8_sign 43 = .ok (.ldc2_w 208, 3) := by decide +kernel
theorem dX8_sign_46 : decode cX8_sign 46 = .ok (.goto 4, 3) := by decide +kernel
theorem dX8_sign_49 : decode cX8_sign 49 = .ok (.lconst 1, 1) := by decide +kernel
theorem dX8_sign_50 : decode cX8_sign 50 = .ok (.lreturn, 1) := by decide +kernel
theorem dX8_sign_51 : decode cX8_sign 51 = .ok (.aload_n 2, 1) := by decide +kernel
theorem dX8_sign_52 : decode cX8_sign 52 = .ok (.getfield 166, 3) := by decide +kernel
theorem dX8_sign_55 : decode cX8_sign 55 = .ok (.iconst 1, 1) := by decide +kernel
theorem dX8_sign_56 : decode cX8_sign 56 = .ok (.if_icmp .le 5, 3) := by decide +kernel
theorem dX8_sign_59 : decode cX8_sign 59 = .ok (.lconst 1, 1) := by decide +kernel
theorem dX8_sign_60 : decode cX8_sign 60 = .ok (.lreturn, 1) := by decide +kernel
theorem dX8_sign_61 : decode cX8_sign 61 = .ok (.aload_n 2, 1) := by decide +kernel
theorem dX8_sign_62 : decode cX8_sign 62 = .ok (.getfield 169, 3) := by decide +kernel
theorem dX8_sign_65 : decode cX8_sign 65 = .ok (.ifCond .eq 7, 3) := by decide +kernel
theorem dX8_sign_68 : decode cX8_sign 68 = .ok (.lconst 0, 1) := by decide +kernel
theorem dX8_sign_69 : decode cX8_sign 69 = .ok (.goto 6, 3) := by decide +kernel
theorem dX8_sign_72 : decode cX8_sign 72 = .ok (.ldc2_w 185, 3) := by decide +kernel
theorem dX8_sign_75 : decode cX8_sign 75 = .ok (.lreturn, 1) := by decide +kernel
theorem dX8_near_0 : decode cX8_near 0 = .ok (.aload_n 0, 1) := by decide +kernel
theorem dX8_near_1 : decode cX8_near 1 = .ok (.iload_n 1, 1) := by decide +kernel
theorem dX8_near_2 : decode cX8_near 2 = .ok (.invokevirtual 118, 3) := by decide +kernel
theorem dX8_near_5 : decode cX8_near 5 = .ok (.astore 4, 2) := by decide +kernel
theorem dX8_near_7 : decode cX8_near 7 = .ok (.aload 4, 2) := by decide +kernel
theorem dX8_near_9 : decode cX8_near 9 = .ok (.ifnonnull 7, 3) := by decide +kernel
theorem dX8_near_12 : decode cX8_near 12 = .ok (.ldc2_w 122, 3) := by decide +kernel
theorem dX8_near_15 : decode cX8_near 15 = .ok (.lreturn, 1) := by decide +kernel
theorem dX8_near_16 : decode cX8_near 16 = .ok (.aload 4, 2) := by decide +kernel
theorem dX8_near_18 : decode cX8_near 18 = .ok (.iload_n 2, 1) := by decide +kernel
theorem dX8_near_19 : decode cX8_near 19 = .ok (.invokevirtual 178, 3) := by decide +kernel
theorem dX8_near_22 : decode cX8_near 22 = .ok (.ifCond .ne 12, 3) := by decide +kernel
theorem dX8_near_25 : decode cX8_near 25 = .ok (.iload_n 3, 1) := by decide +kernel
theorem dX8_near_26 : decode cX8_near 26 = .ok (.ifCond .lt 8, 3) := by decide +kernel
theorem dX8_near_29 : decode cX8_near 29 = .ok (.iload_n 3, 1) := by decide +kernel
theorem dX8_near_30 : decode cX8_near 30 = .ok (.iconst 1, 1) := by decide +kernel
theorem dX8_near_31 : decode cX8_near 31 = .ok (.if_icmp .le 7, 3) := by decide +kernel
theorem dX8_near_34 : decode cX8_near 34 = .ok (.ldc2_w 84, 3) := by decide +kernel
theorem dX8_near_37 : decode cX8_near 37 = .ok (.lreturn, 1) := by decide +kernel
theorem dX8_near_38 : decode cX8_near 38 = .ok (.aload_n 0, 1) := by decide +kernel
theorem dX8_near_39 : decode cX8_near 39 = .ok (.getfield 58, 3) := by decide +kernel
theorem dX8_near_42 : decode cX8_near 42 = .ok (.aload 4, 2) := by decide +kernel
theorem dX8_near_44 : decode cX8_near 44 = .ok (.invokevirtual 218, 3) := by decide +kernel
theorem dX8_near_47 : decode cX8_near 47 = .ok (.iload_n 2, 1) := by decide +kernel
theorem dX8_near_48 : decode cX8_near 48 = .ok (.aload_n 0, 1) := by decide +kernel
theorem dX8_near_49 : decode cX8_near 49 = .ok (.getfield 58, 3) := by decide +kernel
theorem dX8_near_52 : decode cX8_near 52 = .ok (.getfield 221, 3) := by decide +kernel
theorem dX8_near_55 : decode cX8_near 55 = .ok (.if_icmp .lt 22, 3) := by decide +kernel
theorem dX8_near_58 : decode cX8_near 58 = .ok (.aload_n 0, 1) := by decide +kernel
theorem dX8_near_59 : decode cX8_near 59 = .ok (.getfield 58, 3) := by decide +kernel
theorem dX8_near_62 : decode cX8_near 62 = .ok (.getfield 221, 3) := by decide +kernel
theorem dX8_near_65 : decode cX8_near 65 = .ok (.aload 4, 2) := by decide +kernel
theorem dX8_near_67 : decode cX8_near 67 = .ok (.getfield 166, 3) := by decide +kernel
theorem dX8_near_70 : decode cX8_near 70 = .ok (.if_icmp .ge 7, 3) := by decide +kernel
theorem dX8_near_73 : decode cX8_near 73 = .ok (.ldc2_w 224, 3) := by decide +kernel
theorem dX8_near_76 : decode cX8_near 76 = .ok (.lreturn, 1) := by decide +kernel
theorem dX8_near_77 : decode cX8_near 77 = .ok (.iload_n 2, 1) := by decide +kernel
theorem dX8_near_78 : decode cX8_near 78 = .ok (.aload 4, 2) := by decide +kernel
theorem dX8_near_80 : decode cX8_near 80 = .ok (.getfield 166, 3) := by decide +kernel
theorem dX8_near_83 : decode cX8_near 83 = .ok (.if_icmp .lt 7, 3) := by decide +kernel
theorem dX8_near_86 : decode cX8_near 86 = .ok (.ldc2_w 185, 3) := by decide +kernel
theorem dX8_near_89 : decode cX8_near 89 = .ok (.lreturn, 1) := by decide +kernel
theorem dX8_near_90 : decode cX8_near 90 = .ok (.iload_n 3, 1) := by decide +kernel
theorem dX8_near_91 : decode cX8_near 91 = .ok (.ifCond .ne 14, 3) := by decide +kernel
theorem dX8_near_94 : decode cX8_near 94 = .ok (.aload_n 0, 1) := by decide +kernel
theorem dX8_near_95 : decode cX8_near 95 = .ok (.getfield 58, 3) := by decide +kernel
theorem dX8_near_98 : decode cX8_near 98 = .ok (.iload_n 2, 1) := by decide +kernel
theorem dX8_near_99 : decode cX8_near 99 = .ok (.invokevirtual 226, 3) := by decide +kernel
theorem dX8_near_102 : decode cX8_near 102 = .ok (.goto 11, 3) := by decide +kernel
theorem dX8_near_105 : decode cX8_near 105 = .ok (.aload_n 0, 1) := by decide +kernel
theorem dX8_near_106 : decode cX8_near 106 = .ok (.getfield 58, 3) := by decide +kernel
theorem dX8_near_109 : decode cX8_near 109 = .ok (.iload_n 2, 1) := by decide +kernel
theorem dX8_near_110 : decode cX8_near 110 = .ok (.invokevirtual 229, 3) := by decide +kernel
theorem dX8_near_113 : decode cX8_near 113 = .ok (.lreturn, 1) := by decide +kernel
theorem dX8_roll_0 : decode cX8_roll 0 = .ok (.iload_n 1, 1) := by decide +kernel
theorem dX8_roll_1 : decode cX8_roll 1 = .ok (.iconst (-1), 1) := by decide +kernel
theorem dX8_roll_2 : decode cX8_roll 2 = .ok (.if_icmp .ne 12, 3) := by decide +kernel
theorem dX8_roll_5 : decode cX8_roll 5 = .ok (.aload_n 0, 1) := by decide +kernel
theorem dX8_roll_6 : decode cX8_roll 6 = .ok (.getfield 51, 3) := by decide +kernel
theorem dX8_roll_9 : decode cX8_roll 9 = .ok (.getfield 254, 3) := by decide +kernel
theorem dX8_roll_12 : decode cX8_roll 12 = .ok (.i2l, 1) := by decide +kernel
theorem dX8_roll_13 : decode cX8_roll 13 = .ok (.lreturn, 1) := by decide +kernel
theorem dX8_roll_14 : decode cX8_roll 14 = .ok (.iload_n 1, 1) := by decide +kernel
theorem dX8_roll_15 : decode cX8_roll 15 = .ok (.ifCond .lt 24, 3) := by decide +kernel
theorem dX8_roll_18 : decode cX8_roll 18 = .ok (.iload_n 1, 1) := by decide +kernel
theorem dX8_roll_19 : decode cX8_roll 19 = .ok (.aload_n 0, 1) := by decide +kernel
theorem dX8_roll_20 : decode cX8_roll 20 = .ok (.getfield 51, 3) := by decide +kernel
theorem dX8_roll_23 : decode cX8_roll 23 = .ok (.getfield 254, 3) := by decide +kernel
theorem dX8_roll_26 : decode cX8_roll 26 = .ok (.if_icmp .ge 13, 3) := by decide +kernel
theorem dX8_roll_29 : decode cX8_roll 29 = .ok (.iload_n 2, 1) := by decide +kernel
theorem dX8_roll_30 : decode cX8_roll 30 = .ok (.ifCond .lt 9, 3) := by decide +kernel
theorem dX8_roll_33 : decode cX8_roll 33 = .ok (.iload_n 2, 1) := by decide +kernel
theorem dX8_roll_34 : decode cX8_roll 34 = .ok (.bipush 10, 2) := by decide +kernel
theorem dX8_roll_36 : decode cX8_roll 36 = .ok (.if_icmp .lt 7, 3) := by decide +kernel
theorem dX8_roll_39 : decode cX8_roll 39 = .ok (.ldc2_w 84, 3) := by decide +kernel
theorem dX8_roll_42 : decode cX8_roll 42 = .ok (.lreturn, 1) := by decide +kernel
theorem dX8_roll_43 : decode cX8_roll 43 = .ok (.aload_n 0, 1) := by decide +kernel
theorem dX8_roll_44 : decode cX8_roll 44 = .ok (.getfield 51, 3) := by decide +kernel
theorem dX8_roll_47 : decode cX8_roll 47 = .ok (.iload_n 1, 1) := by decide +kernel
theorem dX8_roll_48 : decode cX8_roll 48 = .ok (.iload_n 2, 1) := by decide +kernel
theorem dX8_roll_49 : decode cX8_roll 49 = .ok (.invokevirtual 257, 3) := by decide +kernel
theorem dX8_roll_52 : decode cX8_roll 52 = .ok (.lreturn, 1) := by decide +kernel
theorem dX8_fillRule_0 : decode cX8_fillRule 0 = .ok (.aload_n 1, 1) := by decide +kernel
theorem dX8_fillRule_1 : decode cX8_fillRule 1 = .ok (.iconst 2, 1) := by decide +kernel
theorem dX8_fillRule_2 : decode cX8_fillRule 2 = .ok (.invokevirtual 275, 3) := by decide +kernel
theorem dX8_fillRule_5 : decode cX8_fillRule 5 = .ok (.aload_n 1, 1) := by decide +kernel
theorem dX8_fillRule_6 : decode cX8_fillRule 6 = .ok (.iload_n 2, 1) := by decide +kernel
theorem dX8_fillRule_7 : decode cX8_fillRule 7 = .ok (.i2l, 1) := by decide +kernel
theorem dX8_fillRule_8 : decode cX8_fillRule 8 = .ok (.invokevirtual 278, 3) := by decide +kernel
theorem dX8_fillRule_11 : decode cX8_fillRule 11 = .ok (.iconst 0, 1) := by decide +kernel
theorem dX8_fillRule_12 : decode cX8_fillRule 12 = .ok (.istore_n 3, 1) := by decide +kernel
theorem dX8_fillRule_13 : decode cX8_fillRule 13 = .ok (.lconst 0, 1) := by decide +kernel
theorem dX8_fillRule_14 : decode cX8_fillRule 14 = .ok (.lstore 4, 2) := by decide +kernel
theorem dX8_fillRule_16 : decode cX8_fillRule 16 = .ok (.iconst 1, 1) := by decide +kernel
theorem dX8_fillRule_17 : decode cX8_fillRule 17 = .ok (.istore 6, 2) := by decide +kernel
theorem dX8_fillRule_19 : decode cX8_fillRule 19 = .ok (.iload 6, 2) := by decide +kernel
theorem dX8_fillRule_21 : decode cX8_fillRule 21 = .ok (.bipush 60, 2) := by decide +kernel
theorem dX8_fillRule_23 : decode cX8_fillRule 23 = .ok (.if_icmp .ge 48, 3) := by decide +kernel
theorem dX8_fillRule_26 : decode cX8_fillRule 26 = .ok (.aload_n 1, 1) := by decide +kernel
theorem dX8_fillRule_27 : decode cX8_fillRule 27 = .ok (.aload_n 0, 1) := by decide +kernel
theorem dX8_fillRule_28 : decode cX8_fillRule 28 = .ok (.getfield 20, 3) := by decide +kernel
theorem dX8_fillRule_31 : decode cX8_fillRule 31 = .ok (.iload_n 3, 1) := by decide +kernel
theorem dX8_fillRule_32 : decode cX8_fillRule 32 = .ok (.laload, 1) := by decide +kernel
theorem dX8_fillRule_33 : decode cX8_fillRule 33 = .ok (.lload 4, 2) := by decide +kernel
theorem dX8_fillRule_35 : decode cX8_fillRule 35 = .ok (.aload_n 0, 1) := by decide +kernel
theorem dX8_fillRule_36 : decode cX8_fillRule 36 = .ok (.getfield 24, 3) := by decide +kernel
theorem dX8_fillRule_39 : decode cX8_fillRule 39 = .ok (.iload_n 3, 1) := by decide +kernel
theorem dX8_fillRule_40 : decode cX8_fillRule 40 = .ok (.laload, 1) := by decide +kernel
theorem dX8_fillRule_41 : decode cX8_fillRule 41 = .ok (.lmul, 1) := by decide +kernel
theorem dX8_fillRule_42 : decode cX8_fillRule 42 = .ok (.ladd, 1) := by decide +kernel
theorem dX8_fillRule_43 : decode cX8_fillRule 43 = .ok (.invokevirtual 278, 3) := by decide +kernel
theorem dX8_fillRule_46 : decode cX8_fillRule 46 = .ok (.iinc 3 1, 3) := by decide +kernel
theorem dX8_fillRule_49 : decode cX8_fillRule 49 = .ok (.iload_n 3, 1) := by decide +kernel
theorem dX8_fillRule_50 : decode cX8_fillRule 50 = .ok (.aload_n 0, 1) := by decide +kernel
theorem dX8_fillRule_51 : decode cX8_fillRule 51 = .ok (.getfield 27, 3) := by decide +kernel
theorem dX8_fillRule_54 : decode cX8_fillRule 54 = .ok (.if_icmp .lt 11, 3) := by decide +kernel
theorem dX8_fillRule_57 : decode cX8_fillRule 57 = .ok (.iconst 0, 1) := by decide +kernel
theorem dX8_fillRule_58 : decode cX8_fillRule 58 = .ok (.istore_n 3, 1) := by decide +kernel
theorem dX8_fillRule_59 : decode cX8_fillRule 59 = .ok (.lload 4, 2) := by decide +kernel
theorem dX8_fillRule_61 : decode cX8_fillRule 61 = .ok (.lconst 1, 1) := by decide +kernel
theorem dX8_fillRule_62 : decode cX8_fillRule 62 = .ok (.ladd, 1) := by decide +kernel
theorem dX8_fillRule_63 : decode cX8_fillRule 63 = .ok (.lstore 4, 2) := by decide +kernel
theorem dX8_fillRule_65 : decode cX8_fillRule 65 = .ok (.iinc 6 1, 3) := by decide +kernel
theorem dX8_fillRule_68 : decode cX8_fillRule 68 = .ok (.goto (-49), 3) := by decide +kernel
theorem dX8_fillRule_71 : decode cX8_fillRule 71 = .ok (.return_, 1) := by decide +kernel
theorem dX8_sideOfGreatestSquareIn_0 : decode cX8_sideOfGreatestSquareIn 0 = .ok (.iload_n 0, 1) := by decide +kernel
theorem dX8_sideOfGreatestSquareIn_1 : decode cX8_sideOfGreatestSquareIn 1 = .ok (.ifCond .gt 5, 3) := by decide +kernel
theorem dX8_sideOfGreatestSquareIn_4 : decode cX8_sideOfGreatestSquareIn 4 = .ok (.iconst 0, 1) := by decide +kernel
theorem dX8_sideOfGreatestSquareIn_5 : decode cX8_sideOfGreatestSquareIn 5 = .ok (.ireturn, 1) := by decide +kernel
theorem dX8_sideOfGreatestSquareIn_6 : decode cX8_sideOfGreatestSquareIn 6 = .ok (.bipush 31, 2) := by decide +kernel
theorem dX8_sideOfGreatestSquareIn_8 : decode cX8_sideOfGreatestSquareIn 8 = .ok (.istore_n 1, 1) := by decide +kernel
theorem dX8_sideOfGreatestSquareIn_9 : decode cX8_sideOfGreatestSquareIn 9 = .ok (.iload_n 1, 1) := by decide +kernel
theorem dX8_sideOfGreatestSquareIn_10 : decode cX8_sideOfGreatestSquareIn 10 = .ok (.iconst 1, 1) := by decide +kernel
theorem dX8_sideOfGreatestSquareIn_11 : decode cX8_sideOfGreatestSquareIn 11 = .ok (.if_icmp .le 19, 3) := by decide +kernel
theorem dX8_sideOfGreatestSquareIn_14 : decode cX8_sideOfGreatestSquareIn 14 = .ok (.iload_n 0, 1) := by decide +kernel
theorem dX8_sideOfGreatestSquareIn_15 : decode cX8_sideOfGreatestSquareIn 15 = .ok (.iload_n 1, 1) := by decide +kernel
theorem dX8_sideOfGreatestSquareIn_16 : decode cX8_sideOfGreatestSquareIn 16 = .ok (.iload_n 1, 1) := by decide +kernel
theorem dX8_sideOfGreatestSquareIn_17 : decode cX8_sideOfGreatestSquareIn 17 = .ok (.imul, 1) := by decide +kernel
theorem dX8_sideOfGreatestSquareIn_18 : decode cX8_sideOfGreatestSquareIn 18 = .ok (.irem, 1) := by decide +kernel
theorem dX8_sideOfGreatestSquareIn_19 : decode cX8_sideOfGreatestSquareIn 19 = .ok (.ifCond .ne 5, 3) := by decide +kernel
theorem dX8_sideOfGreatestSquareIn_22 : decode cX8_sideOfGreatestSquareIn 22 = .ok (.iload_n 1, 1) := by decide +kernel
theorem dX8_sideOfGreatestSquareIn_23 : decode cX8_sideOfGreatestSquareIn 23 = .ok (.ireturn, 1) := by decide +kernel
theorem dX8_sideOfGreatestSquareIn_24 : decode cX8_sideOfGreatestSquareIn 24 = .ok (.iinc 1 (-1), 3) := by decide +kernel
theorem dX8_sideOfGreatestSquareIn_27 : decode cX8_sideOfGreatestSquareIn 27 = .ok (.goto (-18), 3) := by decide +kernel
theorem dX8_sideOfGreatestSquareIn_30 : decode cX8_sideOfGreatestSquareIn 30 = .ok (.iconst 1, 1) := by decide +kernel
theorem dX8_sideOfGreatestSquareIn_31 : decode cX8_sideOfGreatestSquareIn 31 = .ok (.ireturn, 1) := by decide +kernel
abbrev eX1_startWith (G : GG) (R : Unit × AH) : EE := eM G 3 none false 0 0 0 0 none R.2
theorem wX1_startWith_2 (G : GG) (hG : GT G) (R : Unit × AH) {K2 : Nat → Nat → Int32 → AH → Fn Unit} (hK2 : ∀ (l0 : Nat) (l1 : Nat) (l2 : Int32) (h : AH), K2 l0 l1 l2 h = some R → AW (eX1_startWith G R) RX1 cX1_startWith 2 [some (.ref (gB G + l0)), some (.ref (gB G + l1)), some (.int l2)] [] h 0 0) (l0 : Nat) (l1 : Nat) (l2 : Int32) (h : AH) (X : fX1_startWith_2 K2 l0 l1 l2 h = some R) : AW (eX1_startWith G R) RX1 cX1_startWith 2 [some (.ref (gB G + l0)), some (.ref (gB G + l1)), some (.int l2)] [] h 0 0 := by
  unfold fX1_startWith_2 at X
  refine r_ild2 3 dX1_startWith_2 rfl ?_
  refine r_bipush 5 _ dX1_startWith_3 rfl kb_8 ?_
  refine r_icmp_ge 29 8 dX1_startWith_5 (by decide) rfl X (fun _ X => ?_) (fun _ X => ?_)
  · exact r_retV dX1_startWith_29 (Nat.zero_le _) (Nat.zero_le _) X
  · refine r_ild2 9 dX1_startWith_8 rfl ?_
    refine r_ald1 10 dX1_startWith_9 rfl ?_
    refine r_aN 11 1 dX1_startWith_10 rfl rfl X (fun x101 X => ?_)
    refine r_icmp_ge 29 14 dX1_startWith_11 (by decide) rfl X (fun _ X => ?_) (fun _ X => ?_)
    · exact r_retV dX1_startWith_29 (Nat.zero_le _) (Nat.zero_le _) X
    · refine r_ald0 15 dX1_startWith_14 rfl ?_
      refine r_gR 18 dX1_startWith_15 rfl lfX1_23 rfl X (fun b102 X => ?_)
      refine r_ild2 19 dX1_startWith_18 rfl ?_
      refine r_ald1 20 dX1_startWith_19 rfl ?_
      refine r_ild2 21 dX1_startWith_20 rfl ?_
      refine r_aL 22 1 dX1_startWith_21 rfl rfl X (fun x103 X => ?_)
      refine r_zL 23 1 dX1_startWith_22 rfl rfl X (fun h104 X => ?_)
      refine r_iinc2w 26 dX1_startWith_23 rfl rfl ki_1 X (fun x105 X => ?_)
      refine r_goto 2 dX1_startWith_26 (by decide) ?_
      exact r_cut (hK2 _ _ _ _ X) ⟨rfl, ⟨rfl, ⟨rfl, trivial⟩⟩⟩
theorem wX1_startWith_2L (G : GG) (hG : GT G) (R : Unit × AH) : ∀ (m : Nat) (l0 : Nat) (l1 : Nat) (l2 : Int32) (h : AH), fX1_startWith_2L m l0 l1 l2 h = some R → AW (eX1_startWith G R) RX1 cX1_startWith 2 [some (.ref (gB G + l0)), some (.ref (gB G + l1)), some (.int l2)] [] h 0 0 := by
  intro m
  induction m with
  | zero => intro l0 l1 l2 h X; exact nomatch (show (none : Fn Unit) = some R from X)
  | succ m ih => intro l0 l1 l2 h X; exact wX1_startWith_2 G hG R ih l0 l1 l2 h X
theorem wX1_startWith (G : GG) (hG : GT G) (R : Unit × AH) (a0 : Nat) (a1 : Nat) (h : AH) (X : fX1_startWith a0 a1 h = some R) : AW (eX1_startWith G R) RX1 cX1_startWith 0 [some (.ref (gB G + a0)), some (.ref (gB G + a1)), none] [] h 0 0 := by
  unfold fX1_startWith at X
  refine r_iconst 1 _ dX1_startWith_0 rfl ki_0 ?_
  refine r_ist2 2 dX1_startWith_1 rfl rfl ?_
  exact r_cut (wX1_startWith_2L G hG R 1000 _ _ _ _ X) ⟨rfl, ⟨rfl, ⟨rfl, trivial⟩⟩⟩
theorem mtX1_startWith (G : GG) (hG : GT G) {a0 : Nat} {a1 : Nat} {h h' : AH} {v : Unit} (hc : fX1_startWith a0 a1 h = some (v, h')) : AMet G yX1_startWith cX1_startWith 3 none 0 0 0 0 [.ref (gB G + a0), .ref (gB G + a1)] h none h' :=
  amet_of false [some (.ref (gB G + a0)), some (.ref (gB G + a1)), none] (by decide +kernel) (by decide) (Nat.le_of_ble_eq_true rfl) rfl (Nat.le_of_ble_eq_true rfl) (wX1_startWith G hG (v, h') _ _ h hc)
abbrev eX3_mixed (G : GG) (R : Int64 × AH) : EE := eM G 6 (some .long) false 2 44 0 0 (some (.long R.1)) R.2
theorem wX3_mixed (G : GG) (hG : GT G) (R : Int64 × AH) (a1 : Nat) (x1 : Int32) (a3 : Nat) (a4 : Nat) (h : AH) (X : fX3_mixed a1 x1 a3 a4 h = some R) : AW (eX3_mixed G R) RX3 cX3_mixed 0 [some (.ref (gB G + a1)), some (.int x1), some (.ref (gB G + a3)), some (.ref (gB G + a4)), none, none] [] h 0 0 := by
  unfold fX3_mixed at X
  refine r_ild1 1 dX3_mixed_0 rfl ?_
  refine r_if_lt 12 4 dX3_mixed_1 (by decide) rfl X (fun _ X => ?_) (fun _ X => ?_)
  · refine r_ldc2 15 dX3_mixed_12 rfl lkX3_56 ?_
    exact r_retL dX3_mixed_15 (Nat.zero_le _) (Nat.zero_le _) X
  · refine r_ild1 5 dX3_mixed_4 rfl ?_
    refine r_iconst 6 _ dX3_mixed_5 rfl ki_3 ?_
    refine r_iadd 7 dX3_mixed_6 rfl ?_
    refine r_ald0 8 dX3_mixed_7 rfl ?_
    refine r_aN 9 1 dX3_mixed_8 rfl rfl X (fun x101 X => ?_)
    refine r_icmp_lt 16 12 dX3_mixed_9 (by decide) rfl X (fun _ X => ?_) (fun _ X => ?_)
    · refine r_ald0 17 dX3_mixed_16 rfl ?_
      refine r_ild1 18 dX3_mixed_17 rfl ?_
      refine r_aL 19 1 dX3_mixed_18 rfl rfl X (fun x102 X => ?_)
      refine r_ald2 20 dX3_mixed_19 rfl ?_
      refine r_gL 23 dX3_mixed_20 rfl lfX3_31 rfl X (fun x103 X => ?_)
      obtain ⟨x105, h104, hc, X⟩ := bnd_ok X
      refine r_callS2 26 dX3_mixed_23 rfl lmX3_33 (mtX8_times G hG hc) rfl ⟨(Nat.zero_le _), (Nat.zero_le _)⟩ ?_
      refine r_ald3 27 dX3_mixed_26 rfl ?_
      refine r_gL 30 dX3_mixed_27 rfl lfX3_31 rfl X (fun x106 X => ?_)
      obtain ⟨x108, h107, hc, X⟩ := bnd_ok X
      refine r_callS2 33 dX3_mixed_30 rfl lmX3_33 (mtX8_times G hG hc) rfl ⟨(Nat.zero_le _), (Nat.zero_le _)⟩ ?_
      refine r_lst4 35 dX3_mixed_33 rfl rfl ?_
      refine r_lld4 37 dX3_mixed_35 rfl ?_
      refine r_ald0 38 dX3_mixed_37 rfl ?_
      refine r_ild1 39 dX3_mixed_38 rfl ?_
      refine r_iconst 40 _ dX3_mixed_39 rfl ki_1 ?_
      refine r_iadd 41 dX3_mixed_40 rfl ?_
      refine r_aL 42 1 dX3_mixed_41 rfl rfl X (fun x109 X => ?_)
      refine r_ald2 43 dX3_mixed_42 rfl ?_
      refine r_gL 46 dX3_mixed_43 rfl lfX3_31 rfl X (fun x110 X => ?_)
      obtain ⟨x112, h111, hc, X⟩ := bnd_ok X
      refine r_callS2 49 dX3_mixed_46 rfl lmX3_33 (mtX8_times G hG hc) rfl ⟨(Nat.zero_le _), (Nat.zero_le _)⟩ ?_
      refine r_ald3 50 dX3_mixed_49 rfl ?_
      refine r_gL 53 dX3_mixed_50 rfl lfX3_32 rfl X (fun x113 X => ?_)
      obtain ⟨x115, h114, hc, X⟩ := bnd_ok X
      refine r_callS2 56 dX3_mixed_53 rfl lmX3_33 (mtX8_times G hG hc) rfl ⟨(Nat.zero_le _), (Nat.zero_le _)⟩ ?_
      obtain ⟨x117, h116, hc, X⟩ := bnd_ok X
      refine r_callS2 59 dX3_mixed_56 rfl lmX3_37 (mtX8_plus G hG hc) rfl ⟨(Nat.zero_le _), (Nat.zero_le _)⟩ ?_
      refine r_lst4 61 dX3_mixed_59 rfl rfl ?_
      refine r_lld4 63 dX3_mixed_61 rfl ?_
      refine r_ald0 64 dX3_mixed_63 rfl ?_
      refine r_ild1 65 dX3_mixed_64 rfl ?_
      refine r_iconst 66 _ dX3_mixed_65 rfl ki_2 ?_
      refine r_iadd 67 dX3_mixed_66 rfl ?_
      refine r_aL 68 1 dX3_mixed_67 rfl rfl X (fun x118 X => ?_)
      refine r_ald3 69 dX3_mixed_68 rfl ?_
      refine r_gL 72 dX3_mixed_69 rfl lfX3_31 rfl X (fun x119 X => ?_)
      obtain ⟨x121, h120, hc, X⟩ := bnd_ok X
      refine r_callS2 75 dX3_mixed_72 rfl lmX3_33 (mtX8_times G hG hc) rfl ⟨(Nat.zero_le _), (Nat.zero_le _)⟩ ?_
      refine r_ald2 76 dX3_mixed_75 rfl ?_
      refine r_gL 79 dX3_mixed_76 rfl lfX3_32 rfl X (fun x122 X => ?_)
      obtain ⟨x124, h123, hc, X⟩ := bnd_ok X
      refine r_callS2 82 dX3_mixed_79 rfl lmX3_33 (mtX8_times G hG hc) rfl ⟨(Nat.zero_le _), (Nat.zero_le _)⟩ ?_
      obtain ⟨x126, h125, hc, X⟩ := bnd_ok X
      refine r_callS2 85 dX3_mixed_82 rfl lmX3_37 (mtX8_plus G hG hc) rfl ⟨(Nat.zero_le _), (Nat.zero_le _)⟩ ?_
      refine r_lst4 87 dX3_mixed_85 rfl rfl ?_
      refine r_lld4 89 dX3_mixed_87 rfl ?_
      refine r_ald0 90 dX3_mixed_89 rfl ?_
      refine r_ild1 91 dX3_mixed_90 rfl ?_
      refine r_iconst 92 _ dX3_mixed_91 rfl ki_3 ?_
      refine r_iadd 93 dX3_mixed_92 rfl ?_
      refine r_aL 94 1 dX3_mixed_93 rfl rfl X (fun x127 X => ?_)
      refine r_ald2 95 dX3_mixed_94 rfl ?_
      refine r_gL 98 dX3_mixed_95 rfl lfX3_32 rfl X (fun x128 X => ?_)
      obtain ⟨x130, h129, hc, X⟩ := bnd_ok X
      refine r_callS2 101 dX3_mixed_98 rfl lmX3_33 (mtX8_times G hG hc) rfl ⟨(Nat.zero_le _), (Nat.zero_le _)⟩ ?_
      refine r_ald3 102 dX3_mixed_101 rfl ?_
      refine r_gL 105 dX3_mixed_102 rfl lfX3_32 rfl X (fun x131 X => ?_)
      obtain ⟨x133, h132, hc, X⟩ := bnd_ok X
      refine r_callS2 108 dX3_mixed_105 rfl lmX3_33 (mtX8_times G hG hc) rfl ⟨(Nat.zero_le _), (Nat.zero_le _)⟩ ?_
      obtain ⟨x135, h134, hc, X⟩ := bnd_ok X
      refine r_callS2 111 dX3_mixed_108 rfl lmX3_37 (mtX8_plus G hG hc) rfl ⟨(Nat.zero_le _), (Nat.zero_le _)⟩ ?_
      exact r_retL dX3_mixed_111 (Nat.zero_le _) (Nat.zero_le _) X
    · refine r_ldc2 15 dX3_mixed_12 rfl lkX3_56 ?_
      exact r_retL dX3_mixed_15 (Nat.zero_le _) (Nat.zero_le _) X
theorem mtX3_mixed (G : GG) (hG : GT G) {a1 : Nat} {x1 : Int32} {a3 : Nat} {a4 : Nat} {h h' : AH} {v : Int64} (hc : fX3_mixed a1 x1 a3 a4 h = some (v, h')) : AMet G yX3_mixed cX3_mixed 6 (some .long) 2 44 0 0 [.ref (gB G + a1), .int x1, .ref (gB G + a3), .ref (gB G + a4)] h (some (.long v)) h' :=
  amet_of false [some (.ref (gB G + a1)), some (.int x1), some (.ref (gB G + a3)), some (.ref (gB G + a4)), none, none] (by decide +kernel) (by decide) (Nat.le_of_ble_eq_true rfl) rfl (Nat.le_of_ble_eq_true rfl) (wX3_mixed G hG (v, h') _ _ _ _ h hc)
abbrev eX3_workMix (G : GG) (R : Unit × AH) : EE := eM G 4 none false 3 69 0 0 none R.2
theorem wX3_workMix (G : GG) (hG : GT G) (R : Unit × AH) (a0 : Nat) (a1 : Nat) (a2 : Nat) (a3 : Nat) (h : AH) (X : fX3_workMix a0 a1 a2 a3 h = some R) : AW (eX3_workMix G R) RX3 cX3_workMix 0 [some (.ref (gB G + a0)), some (.ref (gB G + a1)), some (.ref (gB G + a2)), some (.ref (gB G + a3))] [] h 0 0 := by
  unfold fX3_workMix at X
  refine r_ald0 1 dX3_workMix_0 rfl ?_
  refine r_ald1 2 dX3_workMix_1 rfl ?_
  refine r_iconst 3 _ dX3_workMix_2 rfl ki_0 ?_
  refine r_ald2 4 dX3_workMix_3 rfl ?_
  refine r_ald3 5 dX3_workMix_4 rfl ?_
  obtain ⟨x102, h101, hc, X⟩ := bnd_ok X
  refine r_callS4 8 dX3_workMix_5 rfl lmX3_48 (mtX3_mixed G hG hc) rfl ⟨(Nat.zero_le _), (Nat.zero_le _)⟩ ?_
  refine r_lconst 9 _ dX3_workMix_8 rfl kl_0 ?_
  refine r_lconst 10 _ dX3_workMix_9 rfl kl_0 ?_
  refine r_ald1 11 dX3_workMix_10 rfl ?_
  refine r_iconst 12 _ dX3_workMix_11 rfl ki_4 ?_
  refine r_ald2 13 dX3_workMix_12 rfl ?_
  refine r_ald3 14 dX3_workMix_13 rfl ?_
  obtain ⟨x104, h103, hc, X⟩ := bnd_ok X
  refine r_callS4 17 dX3_workMix_14 rfl lmX3_48 (mtX3_mixed G hG hc) rfl ⟨(Nat.zero_le _), (Nat.zero_le _)⟩ ?_
  obtain ⟨hs, X⟩ := r_cv X
  obtain ⟨_, h105, hc, X⟩ := bnd_ok X
  refine r_callV4v 20 dX3_workMix_17 rfl lmX3_52 hs (mtX3_become G hG hc) rfl ⟨(Nat.zero_le _), (Nat.zero_le _)⟩ ?_
  exact r_retV dX3_workMix_20 (Nat.zero_le _) (Nat.zero_le _) X
theorem mtX3_workMix (G : GG) (hG : GT G) {a0 : Nat} {a1 : Nat} {a2 : Nat} {a3 : Nat} {h h' : AH} {v : Unit} (hc : fX3_workMix a0 a1 a2 a3 h = some (v, h')) : AMet G yX3_workMix cX3_workMix 4 none 3 69 0 0 [.ref (gB G + a0), .ref (gB G + a1), .ref (gB G + a2), .ref (gB G + a3)] h none h' :=
  amet_of false [some (.ref (gB G + a0)), some (.ref (gB G + a1)), some (.ref (gB G + a2)), some (.ref (gB G + a3))] (by decide +kernel) (by decide) (Nat.le_of_ble_eq_true rfl) rfl (Nat.le_of_ble_eq_true rfl) (wX3_workMix G hG (v, h') _ _ _ _ h hc)
abbrev eX8_mix (G : GG) (R : Int64 × AH) : EE := eM G 7 (some .long) false 6 150 0 0 (some (.long R.1)) R.2
theorem wX8_mix_83 (G : GG) (hG : GT G) (R : Int64 × AH) (l0 : Nat) (l3 : Nat) (l4 : Nat) (l5 : Int32) (h : AH) (X : fX8_mix_83 l0 l3 l4 l5 h = some R) : AW (eX8_mix G R) RX8 cX8_mix 83 [some (.ref (gB G + l0)), none, none, some (.ref (gB G + l3)), some (.ref (gB G + l4)), some (.int l5), none] [] h 0 0 := by
  unfold fX8_mix_83 at X
  refine r_ald0 84 dX8_mix_83 rfl ?_
  obtain ⟨hs, X⟩ := r_cv X
  obtain ⟨x102, h101, hc, X⟩ := bnd_ok X
  refine r_callV0 87 dX8_mix_84 rfl lmX8_86 hs (mtX8_leastFree G hG hc) rfl ⟨(Nat.zero_le _), (Nat.zero_le _)⟩ ?_
  refine r_ist6 89 dX8_mix_87 rfl rfl ?_
  refine r_ild6 91 dX8_mix_89 rfl ?_
  refine r_iconst 92 _ dX8_mix_91 rfl ki_m1 ?_
  refine r_icmp_ne 99 95 dX8_mix_92 (by decide) rfl X (fun _ X => ?_) (fun _ X => ?_)
  · refine r_ild5 101 dX8_mix_99 rfl ?_
    refine r_if_eq 111 104 dX8_mix_101 (by decide) rfl X (fun _ X => ?_) (fun _ X => ?_)
    · refine r_ald0 112 dX8_mix_111 rfl ?_
      refine r_gR 115 dX8_mix_112 rfl lfX8_51 rfl X (fun b103 X => ?_)
      refine r_ald0 116 dX8_mix_115 rfl ?_
      refine r_gR 119 dX8_mix_116 rfl lfX8_31 rfl X (fun b104 X => ?_)
      obtain ⟨hs, X⟩ := r_cv X
      obtain ⟨_, h105, hc, X⟩ := bnd_ok X
      refine r_callV1v 122 dX8_mix_119 rfl lmX8_155 hs (mtX1_startWith G hG hc) rfl ⟨(Nat.zero_le _), (Nat.zero_le _)⟩ ?_
      refine r_ald0 123 dX8_mix_122 rfl ?_
      refine r_gR 126 dX8_mix_123 rfl lfX8_51 rfl X (fun b106 X => ?_)
      refine r_ald0 127 dX8_mix_126 rfl ?_
      refine r_gR 130 dX8_mix_127 rfl lfX8_11 rfl X (fun b107 X => ?_)
      refine r_ild6 132 dX8_mix_130 rfl ?_
      refine r_aR 133 3 dX8_mix_132 rfl rfl X (fun b108 X => ?_)
      refine r_ald3 134 dX8_mix_133 rfl ?_
      refine r_ald4 136 dX8_mix_134 rfl ?_
      obtain ⟨hs, X⟩ := r_cv X
      obtain ⟨_, h109, hc, X⟩ := bnd_ok X
      refine r_callV3v 139 dX8_mix_136 rfl lmX8_140 hs (mtX1_make G hG hc) rfl ⟨(Nat.zero_le _), (Nat.zero_le _)⟩ ?_
      refine r_ald0 140 dX8_mix_139 rfl ?_
      refine r_ild6 142 dX8_mix_140 rfl ?_
      obtain ⟨hs, X⟩ := r_cv X
      obtain ⟨x111, h110, hc, X⟩ := bnd_ok X
      refine r_callV1 145 dX8_mix_142 rfl lmX8_115 hs (mtX8_place G hG hc) rfl ⟨(Nat.zero_le _), (Nat.zero_le _)⟩ ?_
      exact r_retL dX8_mix_145 (Nat.zero_le _) (Nat.zero_le _) X
    · refine r_ald0 105 dX8_mix_104 rfl ?_
      refine r_ild6 107 dX8_mix_105 rfl ?_
      obtain ⟨hs, X⟩ := r_cv X
      obtain ⟨x113, h112, hc, X⟩ := bnd_ok X
      refine r_callV1 110 dX8_mix_107 rfl lmX8_96 hs (mtX8_placeOutcome G hG hc) rfl ⟨(Nat.zero_le _), (Nat.zero_le _)⟩ ?_
      exact r_retL dX8_mix_110 (Nat.zero_le _) (Nat.zero_le _) X
  · refine r_ldc2 98 dX8_mix_95 rfl lkX8_90 ?_
    exact r_retL dX8_mix_98 (Nat.zero_le _) (Nat.zero_le _) X
theorem wX8_mix_46 (G : GG) (hG : GT G) (R : Int64 × AH) (l0 : Nat) (l3 : Nat) (l4 : Nat) (s0 : Int32) (h : AH) (X : fX8_mix_46 l0 l3 l4 s0 h = some R) : AW (eX8_mix G R) RX8 cX8_mix 46 [some (.ref (gB G + l0)), none, none, some (.ref (gB G + l3)), some (.ref (gB G + l4)), none, none] [.int s0] h 0 0 := by
  unfold fX8_mix_46 at X
  refine r_ist5 48 dX8_mix_46 rfl rfl ?_
  refine r_ild5 50 dX8_mix_48 rfl ?_
  refine r_if_eq 83 53 dX8_mix_50 (by decide) rfl X (fun _ X => ?_) (fun _ X => ?_)
  · exact r_cut (wX8_mix_83 G hG R _ _ _ _ _ X) ⟨rfl, ⟨rfl, ⟨rfl, ⟨rfl, trivial⟩⟩⟩⟩
  · refine r_ald0 54 dX8_mix_53 rfl ?_
    refine r_gR 57 dX8_mix_54 rfl lfX8_37 rfl X (fun b101 X => ?_)
    refine r_ald0 58 dX8_mix_57 rfl ?_
    refine r_gR 61 dX8_mix_58 rfl lfX8_31 rfl X (fun b102 X => ?_)
    refine r_ald3 62 dX8_mix_61 rfl ?_
    refine r_ald4 64 dX8_mix_62 rfl ?_
    obtain ⟨hs, X⟩ := r_cv X
    obtain ⟨_, h103, hc, X⟩ := bnd_ok X
    refine r_callV3v 67 dX8_mix_64 rfl lmX8_147 hs (mtX3_workMix G hG hc) rfl ⟨(Nat.zero_le _), (Nat.zero_le _)⟩ ?_
    refine r_ald0 68 dX8_mix_67 rfl ?_
    refine r_gR 71 dX8_mix_68 rfl lfX8_37 rfl X (fun b104 X => ?_)
    refine r_gL 74 dX8_mix_71 rfl lfX8_151 rfl X (fun x105 X => ?_)
    refine r_lconst 75 _ dX8_mix_74 rfl kl_0 ?_
    refine r_lif_ne 83 79 dX8_mix_75 dX8_mix_76 (by decide) rfl X (fun _ X => ?_) (fun _ X => ?_)
    · exact r_cut (wX8_mix_83 G hG R _ _ _ _ _ X) ⟨rfl, ⟨rfl, ⟨rfl, ⟨rfl, trivial⟩⟩⟩⟩
    · refine r_ldc2 82 dX8_mix_79 rfl lkX8_109 ?_
      exact r_retL dX8_mix_82 (Nat.zero_le _) (Nat.zero_le _) X
theorem wX8_mix (G : GG) (hG : GT G) (R : Int64 × AH) (a0 : Nat) (x0 : Int32) (x1 : Int32) (h : AH) (X : fX8_mix a0 x0 x1 h = some R) : AW (eX8_mix G R) RX8 cX8_mix 0 [some (.ref (gB G + a0)), some (.int x0), some (.int x1), none, none, none, none] [] h 0 0 := by
  unfold fX8_mix at X
  refine r_ald0 1 dX8_mix_0 rfl ?_
  refine r_ild1 2 dX8_mix_1 rfl ?_
  obtain ⟨hs, X⟩ := r_cv X
  obtain ⟨r102, h101, hc, X⟩ := bnd_ok X
  refine r_callV1 5 dX8_mix_2 rfl lmX8_118 hs (mtX8_find G hG hc) rfl ⟨(Nat.zero_le _), (Nat.zero_le _)⟩ ?_
  refine r_split X (fun X => ?_) (fun b103 X => ?_)
  · refine r_astN3 6 dX8_mix_5 rfl rfl ?_
    refine r_ald0 7 dX8_mix_6 rfl ?_
    refine r_ild2 8 dX8_mix_7 rfl ?_
    obtain ⟨hs, X⟩ := r_cv X
    obtain ⟨r105, h104, hc, X⟩ := bnd_ok X
    refine r_callV1 11 dX8_mix_8 rfl lmX8_118 hs (mtX8_find G hG hc) rfl ⟨(Nat.zero_le _), (Nat.zero_le _)⟩ ?_
    refine r_split X (fun X => ?_) (fun b106 X => ?_)
    · refine r_astN4 13 dX8_mix_11 rfl rfl ?_
      refine r_aldN3 14 dX8_mix_13 rfl ?_
      refine r_ifnullN 22 dX8_mix_14 (by decide) ?_
      refine r_ldc2 25 dX8_mix_22 rfl lkX8_122 ?_
      exact r_retL dX8_mix_25 (Nat.zero_le _) (Nat.zero_le _) X
    · refine r_ast4 13 dX8_mix_11 rfl rfl ?_
      refine r_aldN3 14 dX8_mix_13 rfl ?_
      refine r_ifnullN 22 dX8_mix_14 (by decide) ?_
      refine r_ldc2 25 dX8_mix_22 rfl lkX8_122 ?_
      exact r_retL dX8_mix_25 (Nat.zero_le _) (Nat.zero_le _) X
  · refine r_ast3 6 dX8_mix_5 rfl rfl ?_
    refine r_ald0 7 dX8_mix_6 rfl ?_
    refine r_ild2 8 dX8_mix_7 rfl ?_
    obtain ⟨hs, X⟩ := r_cv X
    obtain ⟨r108, h107, hc, X⟩ := bnd_ok X
    refine r_callV1 11 dX8_mix_8 rfl lmX8_118 hs (mtX8_find G hG hc) rfl ⟨(Nat.zero_le _), (Nat.zero_le _)⟩ ?_
    refine r_split X (fun X => ?_) (fun b109 X => ?_)
    · refine r_astN4 13 dX8_mix_11 rfl rfl ?_
      refine r_ald3 14 dX8_mix_13 rfl ?_
      refine r_ifnull 17 dX8_mix_14 rfl ?_
      refine r_aldN4 19 dX8_mix_17 rfl ?_
      refine r_ifnonnullN 22 dX8_mix_19 rfl ?_
      refine r_ldc2 25 dX8_mix_22 rfl lkX8_122 ?_
      exact r_retL dX8_mix_25 (Nat.zero_le _) (Nat.zero_le _) X
    · refine r_ast4 13 dX8_mix_11 rfl rfl ?_
      refine r_ald3 14 dX8_mix_13 rfl ?_
      refine r_ifnull 17 dX8_mix_14 rfl ?_
      refine r_ald4 19 dX8_mix_17 rfl ?_
      refine r_ifnonnull 26 dX8_mix_19 (by decide) ?_
      refine r_ald3 27 dX8_mix_26 rfl ?_
      refine r_gI 30 dX8_mix_27 rfl lfX8_144 rfl X (fun x110 X => ?_)
      refine r_if_ne 45 33 dX8_mix_30 (by decide) rfl X (fun _ X => ?_) (fun _ X => ?_)
      · refine r_iconst 46 _ dX8_mix_45 rfl ki_0 ?_
        exact r_cut (wX8_mix_46 G hG R _ _ _ _ _ X) ⟨rfl, ⟨rfl, ⟨rfl, trivial⟩⟩⟩
      · refine r_ald4 35 dX8_mix_33 rfl ?_
        refine r_gI 38 dX8_mix_35 rfl lfX8_144 rfl X (fun x111 X => ?_)
        refine r_if_ne 45 41 dX8_mix_38 (by decide) rfl X (fun _ X => ?_) (fun _ X => ?_)
        · refine r_iconst 46 _ dX8_mix_45 rfl ki_0 ?_
          exact r_cut (wX8_mix_46 G hG R _ _ _ _ _ X) ⟨rfl, ⟨rfl, ⟨rfl, trivial⟩⟩⟩
        · refine r_iconst 42 _ dX8_mix_41 rfl ki_1 ?_
          refine r_goto 46 dX8_mix_42 (by decide) ?_
          exact r_cut (wX8_mix_46 G hG R _ _ _ _ _ X) ⟨rfl, ⟨rfl, ⟨rfl, trivial⟩⟩⟩
theorem mtX8_mix (G : GG) (hG : GT G) {a0 : Nat} {x0 : Int32} {x1 : Int32} {h h' : AH} {v : Int64} (hc : fX8_mix a0 x0 x1 h = some (v, h')) : AMet G yX8_mix cX8_mix 7 (some .long) 6 150 0 0 [.ref (gB G + a0), .int x0, .int x1] h (some (.long v)) h' :=
  amet_of false [some (.ref (gB G + a0)), some (.int x0), some (.int x1), none, none, none, none] (by decide +kernel) (by decide) (Nat.le_of_ble_eq_true rfl) rfl (Nat.le_of_ble_eq_true rfl) (wX8_mix G hG (v, h') _ _ _ h hc)
abbrev eX7_isBeyond (G : GG) (R : Int32 × AH) : EE := eM G 2 (some .boolean) false 0 0 0 0 (some (.int R.1)) R.2
theorem wX7_isBeyond (G : GG) (hG : GT G) (R : Int32 × AH) (a0 : Nat) (x0 : Int32) (h : AH) (X : fX7_isBeyond a0 x0 h = some R) : AW (eX7_isBeyond G R) RX7 cX7_isBeyond 0 [some (.ref (gB G + a0)), some (.int x0)] [] h 0 0 := by
  unfold fX7_isBeyond at X
  refine r_ild1 1 dX7_isBeyond_0 rfl ?_
  refine r_if_lt 19 4 dX7_isBeyond_1 (by decide) rfl X (fun _ X => ?_) (fun _ X => ?_)
  · refine r_iconst 20 _ dX7_isBeyond_19 rfl ki_1 ?_
    refine r_goto 24 dX7_isBeyond_20 (by decide) ?_
    exact r_ret1 dX7_isBeyond_24 (Nat.zero_le _) (Nat.zero_le _) X
  · refine r_ald0 5 dX7_isBeyond_4 rfl ?_
    refine r_gI 8 dX7_isBeyond_5 rfl lfX7_26 rfl X (fun x101 X => ?_)
    refine r_if_eq 23 11 dX7_isBeyond_8 (by decide) rfl X (fun _ X => ?_) (fun _ X => ?_)
    · refine r_iconst 24 _ dX7_isBeyond_23 rfl ki_0 ?_
      exact r_ret0 dX7_isBeyond_24 (Nat.zero_le _) (Nat.zero_le _) X
    · refine r_ild1 12 dX7_isBeyond_11 rfl ?_
      refine r_ald0 13 dX7_isBeyond_12 rfl ?_
      refine r_gI 16 dX7_isBeyond_13 rfl lfX7_23 rfl X (fun x102 X => ?_)
      refine r_icmp_lt 23 19 dX7_isBeyond_16 (by decide) rfl X (fun _ X => ?_) (fun _ X => ?_)
      · refine r_iconst 24 _ dX7_isBeyond_23 rfl ki_0 ?_
        exact r_ret0 dX7_isBeyond_24 (Nat.zero_le _) (Nat.zero_le _) X
      · refine r_iconst 20 _ dX7_isBeyond_19 rfl ki_1 ?_
        refine r_goto 24 dX7_isBeyond_20 (by decide) ?_
        exact r_ret1 dX7_isBeyond_24 (Nat.zero_le _) (Nat.zero_le _) X
theorem mtX7_isBeyond (G : GG) (hG : GT G) {a0 : Nat} {x0 : Int32} {h h' : AH} {v : Int32} (hc : fX7_isBeyond a0 x0 h = some (v, h')) : AMet G yX7_isBeyond cX7_isBeyond 2 (some .boolean) 0 0 0 0 [.ref (gB G + a0), .int x0] h (some (.int v)) h' :=
  amet_of false [some (.ref (gB G + a0)), some (.int x0)] (by decide +kernel) (by decide) (Nat.le_of_ble_eq_true rfl) rfl (Nat.le_of_ble_eq_true rfl) (wX7_isBeyond G hG (v, h') _ _ h hc)
abbrev eX8_near (G : GG) (R : Int64 × AH) : EE := eM G 5 (some .long) false 3 72 0 0 (some (.long R.1)) R.2
theorem wX8_near_77 (G : GG) (hG : GT G) (R : Int64 × AH) (l0 : Nat) (l2 : Int32) (l3 : Int32) (l4 : Nat) (h : AH) (X : fX8_near_77 l0 l2 l3 l4 h = some R) : AW (eX8_near G R) RX8 cX8_near 77 [some (.ref (gB G + l0)), none, some (.int l2), some (.int l3), some (.ref (gB G + l4))] [] h 0 0 := by
  unfold fX8_near_77 at X
  refine r_ild2 78 dX8_near_77 rfl ?_
  refine r_ald4 80 dX8_near_78 rfl ?_
  refine r_gI 83 dX8_near_80 rfl lfX8_166 rfl X (fun x101 X => ?_)
  refine r_icmp_lt 90 86 dX8_near_83 (by decide) rfl X (fun _ X => ?_) (fun _ X => ?_)
  · refine r_ild3 91 dX8_near_90 rfl ?_
    refine r_if_ne 105 94 dX8_near_91 (by decide) rfl X (fun _ X => ?_) (fun _ X => ?_)
    · refine r_ald0 106 dX8_near_105 rfl ?_
      refine r_gR 109 dX8_near_106 rfl lfX8_58 rfl X (fun b102 X => ?_)
      refine r_ild2 110 dX8_near_109 rfl ?_
      obtain ⟨hs, X⟩ := r_cv X
      obtain ⟨x104, h103, hc, X⟩ := bnd_ok X
      refine r_callV1 113 dX8_near_110 rfl lmX8_229 hs (mtX2_lowerAt G hG hc) rfl ⟨(Nat.zero_le _), (Nat.zero_le _)⟩ ?_
      exact r_retL dX8_near_113 (Nat.zero_le _) (Nat.zero_le _) X
    · refine r_ald0 95 dX8_near_94 rfl ?_
      refine r_gR 98 dX8_near_95 rfl lfX8_58 rfl X (fun b105 X => ?_)
      refine r_ild2 99 dX8_near_98 rfl ?_
      obtain ⟨hs, X⟩ := r_cv X
      obtain ⟨x107, h106, hc, X⟩ := bnd_ok X
      refine r_callV1 102 dX8_near_99 rfl lmX8_226 hs (mtX2_upperAt G hG hc) rfl ⟨(Nat.zero_le _), (Nat.zero_le _)⟩ ?_
      refine r_goto 113 dX8_near_102 (by decide) ?_
      exact r_retL dX8_near_113 (Nat.zero_le _) (Nat.zero_le _) X
  · refine r_ldc2 89 dX8_near_86 rfl lkX8_185 ?_
    exact r_retL dX8_near_89 (Nat.zero_le _) (Nat.zero_le _) X
theorem wX8_near (G : GG) (hG : GT G) (R : Int64 × AH) (a0 : Nat) (x0 : Int32) (x1 : Int32) (x2 : Int32) (h : AH) (X : fX8_near a0 x0 x1 x2 h = some R) : AW (eX8_near G R) RX8 cX8_near 0 [some (.ref (gB G + a0)), some (.int x0), some (.int x1), some (.int x2), none] [] h 0 0 := by
  unfold fX8_near at X
  refine r_ald0 1 dX8_near_0 rfl ?_
  refine r_ild1 2 dX8_near_1 rfl ?_
  obtain ⟨hs, X⟩ := r_cv X
  obtain ⟨r102, h101, hc, X⟩ := bnd_ok X
  refine r_callV1 5 dX8_near_2 rfl lmX8_118 hs (mtX8_find G hG hc) rfl ⟨(Nat.zero_le _), (Nat.zero_le _)⟩ ?_
  refine r_split X (fun X => ?_) (fun b103 X => ?_)
  · refine r_astN4 7 dX8_near_5 rfl rfl ?_
    refine r_aldN4 9 dX8_near_7 rfl ?_
    refine r_ifnonnullN 12 dX8_near_9 rfl ?_
    refine r_ldc2 15 dX8_near_12 rfl lkX8_122 ?_
    exact r_retL dX8_near_15 (Nat.zero_le _) (Nat.zero_le _) X
  · refine r_ast4 7 dX8_near_5 rfl rfl ?_
    refine r_ald4 9 dX8_near_7 rfl ?_
    refine r_ifnonnull 16 dX8_near_9 (by decide) ?_
    refine r_ald4 18 dX8_near_16 rfl ?_
    refine r_ild2 19 dX8_near_18 rfl ?_
    obtain ⟨hs, X⟩ := r_cv X
    obtain ⟨x105, h104, hc, X⟩ := bnd_ok X
    refine r_callV1 22 dX8_near_19 rfl lmX8_178 hs (mtX7_isBeyond G hG hc) rfl ⟨(Nat.zero_le _), (Nat.zero_le _)⟩ ?_
    refine r_if_ne 34 25 dX8_near_22 (by decide) rfl X (fun _ X => ?_) (fun _ X => ?_)
    · refine r_ldc2 37 dX8_near_34 rfl lkX8_84 ?_
      exact r_retL dX8_near_37 (Nat.zero_le _) (Nat.zero_le _) X
    · refine r_ild3 26 dX8_near_25 rfl ?_
      refine r_if_lt 34 29 dX8_near_26 (by decide) rfl X (fun _ X => ?_) (fun _ X => ?_)
      · refine r_ldc2 37 dX8_near_34 rfl lkX8_84 ?_
        exact r_retL dX8_near_37 (Nat.zero_le _) (Nat.zero_le _) X
      · refine r_ild3 30 dX8_near_29 rfl ?_
        refine r_iconst 31 _ dX8_near_30 rfl ki_1 ?_
        refine r_icmp_le 38 34 dX8_near_31 (by decide) rfl X (fun _ X => ?_) (fun _ X => ?_)
        · refine r_ald0 39 dX8_near_38 rfl ?_
          refine r_gR 42 dX8_near_39 rfl lfX8_58 rfl X (fun b106 X => ?_)
          refine r_ald4 44 dX8_near_42 rfl ?_
          obtain ⟨hs, X⟩ := r_cv X
          obtain ⟨_, h107, hc, X⟩ := bnd_ok X
          refine r_callV1v 47 dX8_near_44 rfl lmX8_218 hs (mtX2_workOut G hG hc) rfl ⟨(Nat.zero_le _), (Nat.zero_le _)⟩ ?_
          refine r_ild2 48 dX8_near_47 rfl ?_
          refine r_ald0 49 dX8_near_48 rfl ?_
          refine r_gR 52 dX8_near_49 rfl lfX8_58 rfl X (fun b108 X => ?_)
          refine r_gI 55 dX8_near_52 rfl lfX8_221 rfl X (fun x109 X => ?_)
          refine r_icmp_lt 77 58 dX8_near_55 (by decide) rfl X (fun _ X => ?_) (fun _ X => ?_)
          · exact r_cut (wX8_near_77 G hG R _ _ _ _ _ X) ⟨rfl, ⟨rfl, ⟨rfl, ⟨rfl, trivial⟩⟩⟩⟩
          · refine r_ald0 59 dX8_near_58 rfl ?_
            refine r_gR 62 dX8_near_59 rfl lfX8_58 rfl X (fun b110 X => ?_)
            refine r_gI 65 dX8_near_62 rfl lfX8_221 rfl X (fun x111 X => ?_)
            refine r_ald4 67 dX8_near_65 rfl ?_
            refine r_gI 70 dX8_near_67 rfl lfX8_166 rfl X (fun x112 X => ?_)
            refine r_icmp_ge 77 73 dX8_near_70 (by decide) rfl X (fun _ X => ?_) (fun _ X => ?_)
            · exact r_cut (wX8_near_77 G hG R _ _ _ _ _ X) ⟨rfl, ⟨rfl, ⟨rfl, ⟨rfl, trivial⟩⟩⟩⟩
            · refine r_ldc2 76 dX8_near_73 rfl lkX8_224 ?_
              exact r_retL dX8_near_76 (Nat.zero_le _) (Nat.zero_le _) X
        · refine r_ldc2 37 dX8_near_34 rfl lkX8_84 ?_
          exact r_retL dX8_near_37 (Nat.zero_le _) (Nat.zero_le _) X
theorem mtX8_near (G : GG) (hG : GT G) {a0 : Nat} {x0 : Int32} {x1 : Int32} {x2 : Int32} {h h' : AH} {v : Int64} (hc : fX8_near a0 x0 x1 x2 h = some (v, h')) : AMet G yX8_near cX8_near 5 (some .long) 3 72 0 0 [.ref (gB G + a0), .int x0, .int x1, .int x2] h (some (.long v)) h' :=
  amet_of false [some (.ref (gB G + a0)), some (.int x0), some (.int x1), some (.int x2), none] (by decide +kernel) (by decide) (Nat.le_of_ble_eq_true rfl) rfl (Nat.le_of_ble_eq_true rfl) (wX8_near G hG (v, h') _ _ _ _ h hc)
abbrev eX8_part (G : GG) (R : Int64 × AH) : EE := eM G 4 (some .long) false 1 22 0 0 (some (.long R.1)) R.2
theorem wX8_part (G : GG) (hG : GT G) (R : Int64 × AH) (a0 : Nat) (x0 : Int32) (x1 : Int32) (h : AH) (X : fX8_part a0 x0 x1 h = some R) : AW (eX8_part G R) RX8 cX8_part 0 [some (.ref (gB G + a0)), some (.int x0), some (.int x1), none] [] h 0 0 := by
  unfold fX8_part at X
  refine r_ald0 1 dX8_part_0 rfl ?_
  refine r_ild1 2 dX8_part_1 rfl ?_
  obtain ⟨hs, X⟩ := r_cv X
  obtain ⟨r102, h101, hc, X⟩ := bnd_ok X
  refine r_callV1 5 dX8_part_2 rfl lmX8_118 hs (mtX8_find G hG hc) rfl ⟨(Nat.zero_le _), (Nat.zero_le _)⟩ ?_
  refine r_split X (fun X => ?_) (fun b103 X => ?_)
  · refine r_astN3 6 dX8_part_5 rfl rfl ?_
    refine r_aldN3 7 dX8_part_6 rfl ?_
    refine r_ifnonnullN 10 dX8_part_7 rfl ?_
    refine r_ldc2 13 dX8_part_10 rfl lkX8_122 ?_
    exact r_retL dX8_part_13 (Nat.zero_le _) (Nat.zero_le _) X
  · refine r_ast3 6 dX8_part_5 rfl rfl ?_
    refine r_ald3 7 dX8_part_6 rfl ?_
    refine r_ifnonnull 14 dX8_part_7 (by decide) ?_
    refine r_ald3 15 dX8_part_14 rfl ?_
    refine r_ild2 16 dX8_part_15 rfl ?_
    obtain ⟨hs, X⟩ := r_cv X
    obtain ⟨x105, h104, hc, X⟩ := bnd_ok X
    refine r_callV1 19 dX8_part_16 rfl lmX8_178 hs (mtX7_isBeyond G hG hc) rfl ⟨(Nat.zero_le _), (Nat.zero_le _)⟩ ?_
    refine r_if_eq 26 22 dX8_part_19 (by decide) rfl X (fun _ X => ?_) (fun _ X => ?_)
    · refine r_ild2 27 dX8_part_26 rfl ?_
      refine r_ald3 28 dX8_part_27 rfl ?_
      refine r_gI 31 dX8_part_28 rfl lfX8_166 rfl X (fun x106 X => ?_)
      refine r_icmp_ge 42 34 dX8_part_31 (by decide) rfl X (fun _ X => ?_) (fun _ X => ?_)
      · refine r_ldc2 45 dX8_part_42 rfl lkX8_185 ?_
        exact r_retL dX8_part_45 (Nat.zero_le _) (Nat.zero_le _) X
      · refine r_ald3 35 dX8_part_34 rfl ?_
        refine r_ild2 36 dX8_part_35 rfl ?_
        obtain ⟨hs, X⟩ := r_cv X
        obtain ⟨x108, h107, hc, X⟩ := bnd_ok X
        refine r_callV1 39 dX8_part_36 rfl lmX8_182 hs (mtX7_partAt G hG hc) rfl ⟨(Nat.zero_le _), (Nat.zero_le _)⟩ ?_
        refine r_goto 45 dX8_part_39 (by decide) ?_
        exact r_retL dX8_part_45 (Nat.zero_le _) (Nat.zero_le _) X
    · refine r_ldc2 25 dX8_part_22 rfl lkX8_84 ?_
      exact r_retL dX8_part_25 (Nat.zero_le _) (Nat.zero_le _) X
theorem mtX8_part (G : GG) (hG : GT G) {a0 : Nat} {x0 : Int32} {x1 : Int32} {h h' : AH} {v : Int64} (hc : fX8_part a0 x0 x1 h = some (v, h')) : AMet G yX8_part cX8_part 4 (some .long) 1 22 0 0 [.ref (gB G + a0), .int x0, .int x1] h (some (.long v)) h' :=
  amet_of false [some (.ref (gB G + a0)), some (.int x0), some (.int x1), none] (by decide +kernel) (by decide) (Nat.le_of_ble_eq_true rfl) rfl (Nat.le_of_ble_eq_true rfl) (wX8_part G hG (v, h') _ _ _ h hc)
abbrev eX8_ratio (G : GG) (R : Int64 × AH) : EE := eM G 6 (some .long) false 6 150 0 0 (some (.long R.1)) R.2
theorem wX8_ratio (G : GG) (hG : GT G) (R : Int64 × AH) (a0 : Nat) (x0 : Int64) (x1 : Int64) (h : AH) (X : fX8_ratio a0 x0 x1 h = some R) : AW (eX8_ratio G R) RX8 cX8_ratio 0 [some (.ref (gB G + a0)), some (.long x0), none, some (.long x1), none, none] [] h 0 0 := by
  unfold fX8_ratio at X
  refine r_lld1 1 dX8_ratio_0 rfl ?_
  obtain ⟨x102, h101, hc, X⟩ := bnd_ok X
  refine r_callS1 4 dX8_ratio_1 rfl lmX8_80 (mtX8_isFar G hG hc) rfl ⟨(Nat.zero_le _), (Nat.zero_le _)⟩ ?_
  refine r_if_ne 20 7 dX8_ratio_4 (by decide) rfl X (fun _ X => ?_) (fun _ X => ?_)
  · refine r_ldc2 23 dX8_ratio_20 rfl lkX8_84 ?_
    exact r_retL dX8_ratio_23 (Nat.zero_le _) (Nat.zero_le _) X
  · refine r_lld3 8 dX8_ratio_7 rfl ?_
    obtain ⟨x104, h103, hc, X⟩ := bnd_ok X
    refine r_callS1 11 dX8_ratio_8 rfl lmX8_80 (mtX8_isFar G hG hc) rfl ⟨(Nat.zero_le _), (Nat.zero_le _)⟩ ?_
    refine r_if_ne 20 14 dX8_ratio_11 (by decide) rfl X (fun _ X => ?_) (fun _ X => ?_)
    · refine r_ldc2 23 dX8_ratio_20 rfl lkX8_84 ?_
      exact r_retL dX8_ratio_23 (Nat.zero_le _) (Nat.zero_le _) X
    · refine r_lld3 15 dX8_ratio_14 rfl ?_
      refine r_lconst 16 _ dX8_ratio_15 rfl kl_0 ?_
      refine r_lif_ne 24 20 dX8_ratio_16 dX8_ratio_17 (by decide) rfl X (fun _ X => ?_) (fun _ X => ?_)
      · refine r_ald0 25 dX8_ratio_24 rfl ?_
        obtain ⟨hs, X⟩ := r_cv X
        obtain ⟨x106, h105, hc, X⟩ := bnd_ok X
        refine r_callV0 28 dX8_ratio_25 rfl lmX8_86 hs (mtX8_leastFree G hG hc) rfl ⟨(Nat.zero_le _), (Nat.zero_le _)⟩ ?_
        refine r_ist5 30 dX8_ratio_28 rfl rfl ?_
        refine r_ild5 32 dX8_ratio_30 rfl ?_
        refine r_iconst 33 _ dX8_ratio_32 rfl ki_m1 ?_
        refine r_icmp_ne 40 36 dX8_ratio_33 (by decide) rfl X (fun _ X => ?_) (fun _ X => ?_)
        · refine r_ald0 41 dX8_ratio_40 rfl ?_
          refine r_gR 44 dX8_ratio_41 rfl lfX8_37 rfl X (fun b107 X => ?_)
          refine r_lld1 45 dX8_ratio_44 rfl ?_
          refine r_lconst 46 _ dX8_ratio_45 rfl kl_0 ?_
          refine r_lconst 47 _ dX8_ratio_46 rfl kl_0 ?_
          refine r_lld3 48 dX8_ratio_47 rfl ?_
          obtain ⟨hs, X⟩ := r_cv X
          obtain ⟨_, h108, hc, X⟩ := bnd_ok X
          refine r_callV4v 51 dX8_ratio_48 rfl lmX8_92 hs (mtX3_become G hG hc) rfl ⟨(Nat.zero_le _), (Nat.zero_le _)⟩ ?_
          refine r_ald0 52 dX8_ratio_51 rfl ?_
          refine r_ild5 54 dX8_ratio_52 rfl ?_
          obtain ⟨hs, X⟩ := r_cv X
          obtain ⟨x110, h109, hc, X⟩ := bnd_ok X
          refine r_callV1 57 dX8_ratio_54 rfl lmX8_96 hs (mtX8_placeOutcome G hG hc) rfl ⟨(Nat.zero_le _), (Nat.zero_le _)⟩ ?_
          exact r_retL dX8_ratio_57 (Nat.zero_le _) (Nat.zero_le _) X
        · refine r_ldc2 39 dX8_ratio_36 rfl lkX8_90 ?_
          exact r_retL dX8_ratio_39 (Nat.zero_le _) (Nat.zero_le _) X
      · refine r_ldc2 23 dX8_ratio_20 rfl lkX8_84 ?_
        exact r_retL dX8_ratio_23 (Nat.zero_le _) (Nat.zero_le _) X
theorem mtX8_ratio (G : GG) (hG : GT G) {a0 : Nat} {x0 : Int64} {x1 : Int64} {h h' : AH} {v : Int64} (hc : fX8_ratio a0 x0 x1 h = some (v, h')) : AMet G yX8_ratio cX8_ratio 6 (some .long) 6 150 0 0 [.ref (gB G + a0), .long x0, .long x1] h (some (.long v)) h' :=
  amet_of false [some (.ref (gB G + a0)), some (.long x0), none, some (.long x1), none, none] (by decide +kernel) (by decide) (Nat.le_of_ble_eq_true rfl) rfl (Nat.le_of_ble_eq_true rfl) (wX8_ratio G hG (v, h') _ _ _ h hc)
abbrev eX1_stepTold (G : GG) (R : Int64 × AH) : EE := eM G 4 (some .long) false 0 0 0 0 (some (.long R.1)) R.2
theorem wX1_stepTold (G : GG) (hG : GT G) (R : Int64 × AH) (a0 : Nat) (x0 : Int32) (x1 : Int32) (h : AH) (X : fX1_stepTold a0 x0 x1 h = some R) : AW (eX1_stepTold G R) RX1 cX1_stepTold 0 [some (.ref (gB G + a0)), some (.int x0), some (.int x1), none] [] h 0 0 := by
  unfold fX1_stepTold at X
  refine r_ild1 1 dX1_stepTold_0 rfl ?_
  refine r_bipush 3 _ dX1_stepTold_1 rfl kb_10 ?_
  refine r_imul 4 dX1_stepTold_3 rfl ?_
  refine r_ild2 5 dX1_stepTold_4 rfl ?_
  refine r_iadd 6 dX1_stepTold_5 rfl ?_
  refine r_ist3w 7 dX1_stepTold_6 rfl rfl X (fun x101 X => ?_)
  refine r_ild3 8 dX1_stepTold_7 rfl ?_
  refine r_if_lt 29 11 dX1_stepTold_8 (by decide) rfl X (fun _ X => ?_) (fun _ X => ?_)
  · refine r_ldc2 32 dX1_stepTold_29 rfl lkX1_153 ?_
    exact r_retL dX1_stepTold_32 (Nat.zero_le _) (Nat.zero_le _) X
  · refine r_ild3 12 dX1_stepTold_11 rfl ?_
    refine r_ald0 13 dX1_stepTold_12 rfl ?_
    refine r_gR 16 dX1_stepTold_13 rfl lfX1_40 rfl X (fun b102 X => ?_)
    refine r_aN 17 1 dX1_stepTold_16 rfl rfl X (fun x103 X => ?_)
    refine r_icmp_ge 29 20 dX1_stepTold_17 (by decide) rfl X (fun _ X => ?_) (fun _ X => ?_)
    · refine r_ldc2 32 dX1_stepTold_29 rfl lkX1_153 ?_
      exact r_retL dX1_stepTold_32 (Nat.zero_le _) (Nat.zero_le _) X
    · refine r_ald0 21 dX1_stepTold_20 rfl ?_
      refine r_gR 24 dX1_stepTold_21 rfl lfX1_40 rfl X (fun b104 X => ?_)
      refine r_ild3 25 dX1_stepTold_24 rfl ?_
      refine r_aL 26 1 dX1_stepTold_25 rfl rfl X (fun x105 X => ?_)
      refine r_goto 32 dX1_stepTold_26 (by decide) ?_
      exact r_retL dX1_stepTold_32 (Nat.zero_le _) (Nat.zero_le _) X
theorem mtX1_stepTold (G : GG) (hG : GT G) {a0 : Nat} {x0 : Int32} {x1 : Int32} {h h' : AH} {v : Int64} (hc : fX1_stepTold a0 x0 x1 h = some (v, h')) : AMet G yX1_stepTold cX1_stepTold 4 (some .long) 0 0 0 0 [.ref (gB G + a0), .int x0, .int x1] h (some (.long v)) h' :=
  amet_of false [some (.ref (gB G + a0)), some (.int x0), some (.int x1), none] (by decide +kernel) (by decide) (Nat.le_of_ble_eq_true rfl) rfl (Nat.le_of_ble_eq_true rfl) (wX1_stepTold G hG (v, h') _ _ _ h hc)
abbrev eX8_roll (G : GG) (R : Int64 × AH) : EE := eM G 3 (some .long) false 1 23 0 0 (some (.long R.1)) R.2
theorem wX8_roll (G : GG) (hG : GT G) (R : Int64 × AH) (a0 : Nat) (x0 : Int32) (x1 : Int32) (h : AH) (X : fX8_roll a0 x0 x1 h = some R) : AW (eX8_roll G R) RX8 cX8_roll 0 [some (.ref (gB G + a0)), some (.int x0), some (.int x1)] [] h 0 0 := by
  unfold fX8_roll at X
  refine r_ild1 1 dX8_roll_0 rfl ?_
  refine r_iconst 2 _ dX8_roll_1 rfl ki_m1 ?_
  refine r_icmp_ne 14 5 dX8_roll_2 (by decide) rfl X (fun _ X => ?_) (fun _ X => ?_)
  · refine r_ild1 15 dX8_roll_14 rfl ?_
    refine r_if_lt 39 18 dX8_roll_15 (by decide) rfl X (fun _ X => ?_) (fun _ X => ?_)
    · refine r_ldc2 42 dX8_roll_39 rfl lkX8_84 ?_
      exact r_retL dX8_roll_42 (Nat.zero_le _) (Nat.zero_le _) X
    · refine r_ild1 19 dX8_roll_18 rfl ?_
      refine r_ald0 20 dX8_roll_19 rfl ?_
      refine r_gR 23 dX8_roll_20 rfl lfX8_51 rfl X (fun b101 X => ?_)
      refine r_gI 26 dX8_roll_23 rfl lfX8_254 rfl X (fun x102 X => ?_)
      refine r_icmp_ge 39 29 dX8_roll_26 (by decide) rfl X (fun _ X => ?_) (fun _ X => ?_)
      · refine r_ldc2 42 dX8_roll_39 rfl lkX8_84 ?_
        exact r_retL dX8_roll_42 (Nat.zero_le _) (Nat.zero_le _) X
      · refine r_ild2 30 dX8_roll_29 rfl ?_
        refine r_if_lt 39 33 dX8_roll_30 (by decide) rfl X (fun _ X => ?_) (fun _ X => ?_)
        · refine r_ldc2 42 dX8_roll_39 rfl lkX8_84 ?_
          exact r_retL dX8_roll_42 (Nat.zero_le _) (Nat.zero_le _) X
        · refine r_ild2 34 dX8_roll_33 rfl ?_
          refine r_bipush 36 _ dX8_roll_34 rfl kb_10 ?_
          refine r_icmp_lt 43 39 dX8_roll_36 (by decide) rfl X (fun _ X => ?_) (fun _ X => ?_)
          · refine r_ald0 44 dX8_roll_43 rfl ?_
            refine r_gR 47 dX8_roll_44 rfl lfX8_51 rfl X (fun b103 X => ?_)
            refine r_ild1 48 dX8_roll_47 rfl ?_
            refine r_ild2 49 dX8_roll_48 rfl ?_
            obtain ⟨hs, X⟩ := r_cv X
            obtain ⟨x105, h104, hc, X⟩ := bnd_ok X
            refine r_callV2 52 dX8_roll_49 rfl lmX8_257 hs (mtX1_stepTold G hG hc) rfl ⟨(Nat.zero_le _), (Nat.zero_le _)⟩ ?_
            exact r_retL dX8_roll_52 (Nat.zero_le _) (Nat.zero_le _) X
          · refine r_ldc2 42 dX8_roll_39 rfl lkX8_84 ?_
            exact r_retL dX8_roll_42 (Nat.zero_le _) (Nat.zero_le _) X
  · refine r_ald0 6 dX8_roll_5 rfl ?_
    refine r_gR 9 dX8_roll_6 rfl lfX8_51 rfl X (fun b106 X => ?_)
    refine r_gI 12 dX8_roll_9 rfl lfX8_254 rfl X (fun x107 X => ?_)
    refine r_i2l 13 dX8_roll_12 rfl ?_
    exact r_retL dX8_roll_13 (Nat.zero_le _) (Nat.zero_le _) X
theorem mtX8_roll (G : GG) (hG : GT G) {a0 : Nat} {x0 : Int32} {x1 : Int32} {h h' : AH} {v : Int64} (hc : fX8_roll a0 x0 x1 h = some (v, h')) : AMet G yX8_roll cX8_roll 3 (some .long) 1 23 0 0 [.ref (gB G + a0), .int x0, .int x1] h (some (.long v)) h' :=
  amet_of false [some (.ref (gB G + a0)), some (.int x0), some (.int x1)] (by decide +kernel) (by decide) (Nat.le_of_ble_eq_true rfl) rfl (Nat.le_of_ble_eq_true rfl) (wX8_roll G hG (v, h') _ _ _ h hc)
abbrev eX8_sideOfGreatestSquareIn (G : GG) (R : Int32 × AH) : EE := eM G 2 (some .int) false 0 0 0 0 (some (.int R.1)) R.2
theorem wX8_sideOfGreatestSquareIn_9 (G : GG) (hG : GT G) (R : Int32 × AH) {K9 : Int32 → Int32 → AH → Fn Int32} (hK9 : ∀ (l0 : Int32) (l1 : Int32) (h : AH), K9 l0 l1 h = some R → AW (eX8_sideOfGreatestSquareIn G R) RX8 cX8_sideOfGreatestSquareIn 9 [some (.int l0), some (.int l1)] [] h 0 0) (l0 : Int32) (l1 : Int32) (h : AH) (X : fX8_sideOfGreatestSquareIn_9 K9 l0 l1 h = some R) : AW (eX8_sideOfGreatestSquareIn G R) RX8 cX8_sideOfGreatestSquareIn 9 [some (.int l0), some (.int l1)] [] h 0 0 := by
  unfold fX8_sideOfGreatestSquareIn_9 at X
  refine r_ild1 10 dX8_sideOfGreatestSquareIn_9 rfl ?_
  refine r_iconst 11 _ dX8_sideOfGreatestSquareIn_10 rfl ki_1 ?_
  refine r_icmp_le 30 14 dX8_sideOfGreatestSquareIn_11 (by decide) rfl X (fun _ X => ?_) (fun _ X => ?_)
  · refine r_iconst 31 _ dX8_sideOfGreatestSquareIn_30 rfl ki_1 ?_
    exact r_retI dX8_sideOfGreatestSquareIn_31 (Nat.zero_le _) (Nat.zero_le _) X
  · refine r_ild0 15 dX8_sideOfGreatestSquareIn_14 rfl ?_
    refine r_ild1 16 dX8_sideOfGreatestSquareIn_15 rfl ?_
    refine r_ild1 17 dX8_sideOfGreatestSquareIn_16 rfl ?_
    refine r_imul 18 dX8_sideOfGreatestSquareIn_17 rfl ?_
    refine r_irem 19 dX8_sideOfGreatestSquareIn_18 rfl X (fun X => ?_)
    refine r_if_ne 24 22 dX8_sideOfGreatestSquareIn_19 (by decide) rfl X (fun _ X => ?_) (fun _ X => ?_)
    · refine r_iinc1w 27 dX8_sideOfGreatestSquareIn_24 rfl rfl ki_m1 X (fun x101 X => ?_)
      refine r_goto 9 dX8_sideOfGreatestSquareIn_27 (by decide) ?_
      exact r_cut (hK9 _ _ _ X) ⟨rfl, ⟨rfl, trivial⟩⟩
    · refine r_ild1 23 dX8_sideOfGreatestSquareIn_22 rfl ?_
      exact r_retI dX8_sideOfGreatestSquareIn_23 (Nat.zero_le _) (Nat.zero_le _) X
theorem wX8_sideOfGreatestSquareIn_9L (G : GG) (hG : GT G) (R : Int32 × AH) : ∀ (m : Nat) (l0 : Int32) (l1 : Int32) (h : AH), fX8_sideOfGreatestSquareIn_9L m l0 l1 h = some R → AW (eX8_sideOfGreatestSquareIn G R) RX8 cX8_sideOfGreatestSquareIn 9 [some (.int l0), some (.int l1)] [] h 0 0 := by
  intro m
  induction m with
  | zero => intro l0 l1 h X; exact nomatch (show (none : Fn Int32) = some R from X)
  | succ m ih => intro l0 l1 h X; exact wX8_sideOfGreatestSquareIn_9 G hG R ih l0 l1 h X
theorem wX8_sideOfGreatestSquareIn (G : GG) (hG : GT G) (R : Int32 × AH) (x0 : Int32) (h : AH) (X : fX8_sideOfGreatestSquareIn x0 h = some R) : AW (eX8_sideOfGreatestSquareIn G R) RX8 cX8_sideOfGreatestSquareIn 0 [some (.int x0), none] [] h 0 0 := by
  unfold fX8_sideOfGreatestSquareIn at X
  refine r_ild0 1 dX8_sideOfGreatestSquareIn_0 rfl ?_
  refine r_if_gt 6 4 dX8_sideOfGreatestSquareIn_1 (by decide) rfl X (fun _ X => ?_) (fun _ X => ?_)
  · refine r_bipush 8 _ dX8_sideOfGreatestSquareIn_6 rfl kb_31 ?_
    refine r_ist1 9 dX8_sideOfGreatestSquareIn_8 rfl rfl ?_
    exact r_cut (wX8_sideOfGreatestSquareIn_9L G hG R 1000 _ _ _ X) ⟨rfl, ⟨rfl, trivial⟩⟩
  · refine r_iconst 5 _ dX8_sideOfGreatestSquareIn_4 rfl ki_0 ?_
    exact r_retI dX8_sideOfGreatestSquareIn_5 (Nat.zero_le _) (Nat.zero_le _) X
theorem mtX8_sideOfGreatestSquareIn (G : GG) (hG : GT G) {x0 : Int32} {h h' : AH} {v : Int32} (hc : fX8_sideOfGreatestSquareIn x0 h = some (v, h')) : AMet G yX8_sideOfGreatestSquareIn cX8_sideOfGreatestSquareIn 2 (some .int) 0 0 0 0 [.int x0] h (some (.int v)) h' :=
  amet_of false [some (.int x0), none] (by decide +kernel) (by decide) (Nat.le_of_ble_eq_true rfl) rfl (Nat.le_of_ble_eq_true rfl) (wX8_sideOfGreatestSquareIn G hG (v, h') _ h hc)
abbrev eX8_root (G : GG) (R : Int64 × AH) : EE := eM G 8 (some .long) false 6 150 0 0 (some (.long R.1)) R.2
theorem wX8_root_88 (G : GG) (hG : GT G) (R : Int64 × AH) (l0 : Nat) (l1 : Int32) (l2 : Int32) (l4 : Int32) (l5 : Int32) (l6 : Int32) (s0 : Int32) (h : AH) (X : fX8_root_88 l0 l1 l2 l4 l5 l6 s0 h = some R) : AW (eX8_root G R) RX8 cX8_root 88 [some (.ref (gB G + l0)), some (.int l1), some (.int l2), none, some (.int l4), some (.int l5), some (.int l6), none] [.int s0] h 0 0 := by
  unfold fX8_root_88 at X
  refine r_ist7 90 dX8_root_88 rfl rfl ?_
  refine r_ild7 92 dX8_root_90 rfl ?_
  refine r_iconst 93 _ dX8_root_92 rfl ki_1 ?_
  refine r_icmp_ne 120 96 dX8_root_93 (by decide) rfl X (fun _ X => ?_) (fun _ X => ?_)
  · refine r_ald0 121 dX8_root_120 rfl ?_
    refine r_gR 124 dX8_root_121 rfl lfX8_37 rfl X (fun b101 X => ?_)
    refine r_ild1 125 dX8_root_124 rfl ?_
    refine r_i2l 126 dX8_root_125 rfl ?_
    refine r_ild2 127 dX8_root_126 rfl ?_
    refine r_i2l 128 dX8_root_127 rfl ?_
    refine r_ild6 130 dX8_root_128 rfl ?_
    refine r_i2l 131 dX8_root_130 rfl ?_
    refine r_lmul 132 dX8_root_131 rfl ?_
    refine r_ild7 134 dX8_root_132 rfl ?_
    refine r_i2l 135 dX8_root_134 rfl ?_
    refine r_ild4 137 dX8_root_135 rfl ?_
    refine r_i2l 138 dX8_root_137 rfl ?_
    obtain ⟨hs, X⟩ := r_cv X
    obtain ⟨_, h102, hc, X⟩ := bnd_ok X
    refine r_callV4v 141 dX8_root_138 rfl lmX8_92 hs (mtX3_become G hG hc) rfl ⟨(Nat.zero_le _), (Nat.zero_le _)⟩ ?_
    refine r_ald0 142 dX8_root_141 rfl ?_
    refine r_ild5 144 dX8_root_142 rfl ?_
    obtain ⟨hs, X⟩ := r_cv X
    obtain ⟨x104, h103, hc, X⟩ := bnd_ok X
    refine r_callV1 147 dX8_root_144 rfl lmX8_96 hs (mtX8_placeOutcome G hG hc) rfl ⟨(Nat.zero_le _), (Nat.zero_le _)⟩ ?_
    exact r_retL dX8_root_147 (Nat.zero_le _) (Nat.zero_le _) X
  · refine r_ald0 97 dX8_root_96 rfl ?_
    refine r_gR 100 dX8_root_97 rfl lfX8_37 rfl X (fun b105 X => ?_)
    refine r_ild1 101 dX8_root_100 rfl ?_
    refine r_i2l 102 dX8_root_101 rfl ?_
    refine r_ild2 103 dX8_root_102 rfl ?_
    refine r_i2l 104 dX8_root_103 rfl ?_
    refine r_ild6 106 dX8_root_104 rfl ?_
    refine r_i2l 107 dX8_root_106 rfl ?_
    refine r_lmul 108 dX8_root_107 rfl ?_
    refine r_ladd 109 dX8_root_108 rfl ?_
    refine r_lconst 110 _ dX8_root_109 rfl kl_0 ?_
    refine r_lconst 111 _ dX8_root_110 rfl kl_0 ?_
    refine r_ild4 113 dX8_root_111 rfl ?_
    refine r_i2l 114 dX8_root_113 rfl ?_
    obtain ⟨hs, X⟩ := r_cv X
    obtain ⟨_, h106, hc, X⟩ := bnd_ok X
    refine r_callV4v 117 dX8_root_114 rfl lmX8_92 hs (mtX3_become G hG hc) rfl ⟨(Nat.zero_le _), (Nat.zero_le _)⟩ ?_
    refine r_goto 141 dX8_root_117 (by decide) ?_
    refine r_ald0 142 dX8_root_141 rfl ?_
    refine r_ild5 144 dX8_root_142 rfl ?_
    obtain ⟨hs, X⟩ := r_cv X
    obtain ⟨x108, h107, hc, X⟩ := bnd_ok X
    refine r_callV1 147 dX8_root_144 rfl lmX8_96 hs (mtX8_placeOutcome G hG hc) rfl ⟨(Nat.zero_le _), (Nat.zero_le _)⟩ ?_
    exact r_retL dX8_root_147 (Nat.zero_le _) (Nat.zero_le _) X
theorem wX8_root (G : GG) (hG : GT G) (R : Int64 × AH) (a0 : Nat) (x0 : Int32) (x1 : Int32) (x2 : Int32) (x3 : Int32) (h : AH) (X : fX8_root a0 x0 x1 x2 x3 h = some R) : AW (eX8_root G R) RX8 cX8_root 0 [some (.ref (gB G + a0)), some (.int x0), some (.int x1), some (.int x2), some (.int x3), none, none, none] [] h 0 0 := by
  unfold fX8_root at X
  refine r_ild1 1 dX8_root_0 rfl ?_
  refine r_sipush 4 _ dX8_root_1 rfl ks_10000 ?_
  obtain ⟨x102, h101, hc, X⟩ := bnd_ok X
  refine r_callS2 7 dX8_root_4 rfl lmX8_100 (mtX8_beyond G hG hc) rfl ⟨(Nat.zero_le _), (Nat.zero_le _)⟩ ?_
  refine r_if_ne 46 10 dX8_root_7 (by decide) rfl X (fun _ X => ?_) (fun _ X => ?_)
  · refine r_ldc2 49 dX8_root_46 rfl lkX8_84 ?_
    exact r_retL dX8_root_49 (Nat.zero_le _) (Nat.zero_le _) X
  · refine r_ild2 11 dX8_root_10 rfl ?_
    refine r_bipush 13 _ dX8_root_11 rfl kb_100 ?_
    obtain ⟨x104, h103, hc, X⟩ := bnd_ok X
    refine r_callS2 16 dX8_root_13 rfl lmX8_100 (mtX8_beyond G hG hc) rfl ⟨(Nat.zero_le _), (Nat.zero_le _)⟩ ?_
    refine r_if_ne 46 19 dX8_root_16 (by decide) rfl X (fun _ X => ?_) (fun _ X => ?_)
    · refine r_ldc2 49 dX8_root_46 rfl lkX8_84 ?_
      exact r_retL dX8_root_49 (Nat.zero_le _) (Nat.zero_le _) X
    · refine r_ild4 21 dX8_root_19 rfl ?_
      refine r_sipush 24 _ dX8_root_21 rfl ks_1000 ?_
      obtain ⟨x106, h105, hc, X⟩ := bnd_ok X
      refine r_callS2 27 dX8_root_24 rfl lmX8_100 (mtX8_beyond G hG hc) rfl ⟨(Nat.zero_le _), (Nat.zero_le _)⟩ ?_
      refine r_if_ne 46 30 dX8_root_27 (by decide) rfl X (fun _ X => ?_) (fun _ X => ?_)
      · refine r_ldc2 49 dX8_root_46 rfl lkX8_84 ?_
        exact r_retL dX8_root_49 (Nat.zero_le _) (Nat.zero_le _) X
      · refine r_ild4 32 dX8_root_30 rfl ?_
        refine r_if_eq 46 35 dX8_root_32 (by decide) rfl X (fun _ X => ?_) (fun _ X => ?_)
        · refine r_ldc2 49 dX8_root_46 rfl lkX8_84 ?_
          exact r_retL dX8_root_49 (Nat.zero_le _) (Nat.zero_le _) X
        · refine r_ild3 36 dX8_root_35 rfl ?_
          refine r_if_lt 46 39 dX8_root_36 (by decide) rfl X (fun _ X => ?_) (fun _ X => ?_)
          · refine r_ldc2 49 dX8_root_46 rfl lkX8_84 ?_
            exact r_retL dX8_root_49 (Nat.zero_le _) (Nat.zero_le _) X
          · refine r_ild3 40 dX8_root_39 rfl ?_
            refine r_sipush 43 _ dX8_root_40 rfl ks_1000 ?_
            refine r_icmp_le 50 46 dX8_root_43 (by decide) rfl X (fun _ X => ?_) (fun _ X => ?_)
            · refine r_ald0 51 dX8_root_50 rfl ?_
              obtain ⟨hs, X⟩ := r_cv X
              obtain ⟨x108, h107, hc, X⟩ := bnd_ok X
              refine r_callV0 54 dX8_root_51 rfl lmX8_86 hs (mtX8_leastFree G hG hc) rfl ⟨(Nat.zero_le _), (Nat.zero_le _)⟩ ?_
              refine r_ist5 56 dX8_root_54 rfl rfl ?_
              refine r_ild5 58 dX8_root_56 rfl ?_
              refine r_iconst 59 _ dX8_root_58 rfl ki_m1 ?_
              refine r_icmp_ne 66 62 dX8_root_59 (by decide) rfl X (fun _ X => ?_) (fun _ X => ?_)
              · refine r_ild3 67 dX8_root_66 rfl ?_
                obtain ⟨x110, h109, hc, X⟩ := bnd_ok X
                refine r_callS1 70 dX8_root_67 rfl lmX8_104 (mtX8_sideOfGreatestSquareIn G hG hc) rfl ⟨(Nat.zero_le _), (Nat.zero_le _)⟩ ?_
                refine r_ist6 72 dX8_root_70 rfl rfl ?_
                refine r_ild6 74 dX8_root_72 rfl ?_
                refine r_if_ne 81 77 dX8_root_74 (by decide) rfl X (fun _ X => ?_) (fun _ X => ?_)
                · refine r_ild3 82 dX8_root_81 rfl ?_
                  refine r_ild6 84 dX8_root_82 rfl ?_
                  refine r_ild6 86 dX8_root_84 rfl ?_
                  refine r_imul 87 dX8_root_86 rfl ?_
                  refine r_idiv 88 dX8_root_87 rfl X (fun X => ?_)
                  exact r_cut (wX8_root_88 G hG R _ _ _ _ _ _ _ _ X) ⟨rfl, ⟨rfl, ⟨rfl, ⟨rfl, ⟨rfl, ⟨rfl, trivial⟩⟩⟩⟩⟩⟩
                · refine r_iconst 78 _ dX8_root_77 rfl ki_1 ?_
                  refine r_goto 88 dX8_root_78 (by decide) ?_
                  exact r_cut (wX8_root_88 G hG R _ _ _ _ _ _ _ _ X) ⟨rfl, ⟨rfl, ⟨rfl, ⟨rfl, ⟨rfl, ⟨rfl, trivial⟩⟩⟩⟩⟩⟩
              · refine r_ldc2 65 dX8_root_62 rfl lkX8_90 ?_
                exact r_retL dX8_root_65 (Nat.zero_le _) (Nat.zero_le _) X
            · refine r_ldc2 49 dX8_root_46 rfl lkX8_84 ?_
              exact r_retL dX8_root_49 (Nat.zero_le _) (Nat.zero_le _) X
theorem mtX8_root (G : GG) (hG : GT G) {a0 : Nat} {x0 : Int32} {x1 : Int32} {x2 : Int32} {x3 : Int32} {h h' : AH} {v : Int64} (hc : fX8_root a0 x0 x1 x2 x3 h = some (v, h')) : AMet G yX8_root cX8_root 8 (some .long) 6 150 0 0 [.ref (gB G + a0), .int x0, .int x1, .int x2, .int x3] h (some (.long v)) h' :=
  amet_of false [some (.ref (gB G + a0)), some (.int x0), some (.int x1), some (.int x2), some (.int x3), none, none, none] (by decide +kernel) (by decide) (Nat.le_of_ble_eq_true rfl) rfl (Nat.le_of_ble_eq_true rfl) (wX8_root G hG (v, h') _ _ _ _ _ h hc)
abbrev eX4_comesRound (G : GG) (R : Int32 × AH) : EE := eM G 3 (some .boolean) false 0 0 0 0 (some (.int R.1)) R.2
theorem wX4_comesRound_50 (G : GG) (hG : GT G) (R : Int32 × AH) (l0 : Nat) (l1 : Int32) (l2 : Int32) (h : AH) (X : fX4_comesRound_50 l0 l1 l2 h = some R) : AW (eX4_comesRound G R) RX4 cX4_comesRound 50 [some (.ref (gB G + l0)), some (.int l1), some (.int l2)] [] h 0 0 := by
  unfold fX4_comesRound_50 at X
  refine r_ald0 51 dX4_comesRound_50 rfl ?_
  refine r_ild1 52 dX4_comesRound_51 rfl ?_
  refine r_pI 55 dX4_comesRound_52 rfl lpX4_21 rfl X (fun h101 X => ?_)
  refine r_ald0 56 dX4_comesRound_55 rfl ?_
  refine r_ild2 57 dX4_comesRound_56 rfl ?_
  refine r_ild1 58 dX4_comesRound_57 rfl ?_
  refine r_isub 59 dX4_comesRound_58 rfl ?_
  refine r_pI 62 dX4_comesRound_59 rfl lpX4_25 rfl X (fun h102 X => ?_)
  refine r_iconst 63 _ dX4_comesRound_62 rfl ki_1 ?_
  exact r_ret1 dX4_comesRound_63 (Nat.zero_le _) (Nat.zero_le _) X
theorem wX4_comesRound_12 (G : GG) (hG : GT G) (R : Int32 × AH) {K2 : Nat → Int32 → AH → Fn Int32} {K12 : Nat → Int32 → Int32 → AH → Fn Int32} (hK2 : ∀ (l0 : Nat) (l1 : Int32) (h : AH), K2 l0 l1 h = some R → AW (eX4_comesRound G R) RX4 cX4_comesRound 2 [some (.ref (gB G + l0)), some (.int l1), none] [] h 0 0) (hK12 : ∀ (l0 : Nat) (l1 : Int32) (l2 : Int32) (h : AH), K12 l0 l1 l2 h = some R → AW (eX4_comesRound G R) RX4 cX4_comesRound 12 [some (.ref (gB G + l0)), some (.int l1), some (.int l2)] [] h 0 0) (l0 : Nat) (l1 : Int32) (l2 : Int32) (h : AH) (X : fX4_comesRound_12 K2 K12 l0 l1 l2 h = some R) : AW (eX4_comesRound G R) RX4 cX4_comesRound 12 [some (.ref (gB G + l0)), some (.int l1), some (.int l2)] [] h 0 0 := by
  unfold fX4_comesRound_12 at X
  refine r_ild2 13 dX4_comesRound_12 rfl ?_
  refine r_bipush 15 _ dX4_comesRound_13 rfl kb_60 ?_
  refine r_icmp_gt 70 18 dX4_comesRound_15 (by decide) rfl X (fun _ X => ?_) (fun _ X => ?_)
  · refine r_iinc1w 73 dX4_comesRound_70 rfl rfl ki_1 X (fun x101 X => ?_)
    refine r_goto 2 dX4_comesRound_73 (by decide) ?_
    exact r_cut (hK2 _ _ _ X) ⟨rfl, ⟨rfl, trivial⟩⟩
  · refine r_ald0 19 dX4_comesRound_18 rfl ?_
    refine r_gR 22 dX4_comesRound_19 rfl lfX4_9 rfl X (fun b102 X => ?_)
    refine r_ild1 23 dX4_comesRound_22 rfl ?_
    refine r_aL 24 1 dX4_comesRound_23 rfl rfl X (fun x103 X => ?_)
    refine r_ald0 25 dX4_comesRound_24 rfl ?_
    refine r_gR 28 dX4_comesRound_25 rfl lfX4_9 rfl X (fun b104 X => ?_)
    refine r_ild2 29 dX4_comesRound_28 rfl ?_
    refine r_aL 30 1 dX4_comesRound_29 rfl rfl X (fun x105 X => ?_)
    refine r_lif_ne 64 34 dX4_comesRound_30 dX4_comesRound_31 (by decide) rfl X (fun _ X => ?_) (fun _ X => ?_)
    · refine r_iinc2w 67 dX4_comesRound_64 rfl rfl ki_1 X (fun x106 X => ?_)
      refine r_goto 12 dX4_comesRound_67 (by decide) ?_
      exact r_cut (hK12 _ _ _ _ X) ⟨rfl, ⟨rfl, ⟨rfl, trivial⟩⟩⟩
    · refine r_ald0 35 dX4_comesRound_34 rfl ?_
      refine r_gR 38 dX4_comesRound_35 rfl lfX4_15 rfl X (fun b107 X => ?_)
      refine r_ild1 39 dX4_comesRound_38 rfl ?_
      refine r_aL 40 1 dX4_comesRound_39 rfl rfl X (fun x108 X => ?_)
      refine r_ald0 41 dX4_comesRound_40 rfl ?_
      refine r_gR 44 dX4_comesRound_41 rfl lfX4_15 rfl X (fun b109 X => ?_)
      refine r_ild2 45 dX4_comesRound_44 rfl ?_
      refine r_aL 46 1 dX4_comesRound_45 rfl rfl X (fun x110 X => ?_)
      refine r_lif_ne 64 50 dX4_comesRound_46 dX4_comesRound_47 (by decide) rfl X (fun _ X => ?_) (fun _ X => ?_)
      · refine r_iinc2w 67 dX4_comesRound_64 rfl rfl ki_1 X (fun x111 X => ?_)
        refine r_goto 12 dX4_comesRound_67 (by decide) ?_
        exact r_cut (hK12 _ _ _ _ X) ⟨rfl, ⟨rfl, ⟨rfl, trivial⟩⟩⟩
      · exact r_cut (wX4_comesRound_50 G hG R _ _ _ _ X) ⟨rfl, ⟨rfl, ⟨rfl, trivial⟩⟩⟩
theorem wX4_comesRound_12L (G : GG) (hG : GT G) (R : Int32 × AH) {K2 : Nat → Int32 → AH → Fn Int32} (hK2 : ∀ (l0 : Nat) (l1 : Int32) (h : AH), K2 l0 l1 h = some R → AW (eX4_comesRound G R) RX4 cX4_comesRound 2 [some (.ref (gB G + l0)), some (.int l1), none] [] h 0 0) : ∀ (m : Nat) (l0 : Nat) (l1 : Int32) (l2 : Int32) (h : AH), fX4_comesRound_12L K2 m l0 l1 l2 h = some R → AW (eX4_comesRound G R) RX4 cX4_comesRound 12 [some (.ref (gB G + l0)), some (.int l1), some (.int l2)] [] h 0 0 := by
  intro m
  induction m with
  | zero => intro l0 l1 l2 h X; exact nomatch (show (none : Fn Int32) = some R from X)
  | succ m ih => intro l0 l1 l2 h X; exact wX4_comesRound_12 G hG R hK2 ih l0 l1 l2 h X
theorem wX4_comesRound_2 (G : GG) (hG : GT G) (R : Int32 × AH) {K2 : Nat → Int32 → AH → Fn Int32} (hK2 : ∀ (l0 : Nat) (l1 : Int32) (h : AH), K2 l0 l1 h = some R → AW (eX4_comesRound G R) RX4 cX4_comesRound 2 [some (.ref (gB G + l0)), some (.int l1), none] [] h 0 0) (l0 : Nat) (l1 : Int32) (h : AH) (X : fX4_comesRound_2 K2 l0 l1 h = some R) : AW (eX4_comesRound G R) RX4 cX4_comesRound 2 [some (.ref (gB G + l0)), some (.int l1), none] [] h 0 0 := by
  unfold fX4_comesRound_2 at X
  refine r_ild1 3 dX4_comesRound_2 rfl ?_
  refine r_bipush 5 _ dX4_comesRound_3 rfl kb_60 ?_
  refine r_icmp_ge 76 8 dX4_comesRound_5 (by decide) rfl X (fun _ X => ?_) (fun _ X => ?_)
  · refine r_iconst 77 _ dX4_comesRound_76 rfl ki_0 ?_
    exact r_ret0 dX4_comesRound_77 (Nat.zero_le _) (Nat.zero_le _) X
  · refine r_ild1 9 dX4_comesRound_8 rfl ?_
    refine r_iconst 10 _ dX4_comesRound_9 rfl ki_1 ?_
    refine r_iadd 11 dX4_comesRound_10 rfl ?_
    refine r_ist2w 12 dX4_comesRound_11 rfl rfl X (fun x101 X => ?_)
    exact r_cut (wX4_comesRound_12L G hG R hK2 1000 _ _ _ _ X) ⟨rfl, ⟨rfl, ⟨rfl, trivial⟩⟩⟩
theorem wX4_comesRound_2L (G : GG) (hG : GT G) (R : Int32 × AH) : ∀ (m : Nat) (l0 : Nat) (l1 : Int32) (h : AH), fX4_comesRound_2L m l0 l1 h = some R → AW (eX4_comesRound G R) RX4 cX4_comesRound 2 [some (.ref (gB G + l0)), some (.int l1), none] [] h 0 0 := by
  intro m
  induction m with
  | zero => intro l0 l1 h X; exact nomatch (show (none : Fn Int32) = some R from X)
  | succ m ih => intro l0 l1 h X; exact wX4_comesRound_2 G hG R ih l0 l1 h X
theorem wX4_comesRound (G : GG) (hG : GT G) (R : Int32 × AH) (a0 : Nat) (h : AH) (X : fX4_comesRound a0 h = some R) : AW (eX4_comesRound G R) RX4 cX4_comesRound 0 [some (.ref (gB G + a0)), none, none] [] h 0 0 := by
  unfold fX4_comesRound at X
  refine r_iconst 1 _ dX4_comesRound_0 rfl ki_0 ?_
  refine r_ist1 2 dX4_comesRound_1 rfl rfl ?_
  exact r_cut (wX4_comesRound_2L G hG R 1000 _ _ _ X) ⟨rfl, ⟨rfl, trivial⟩⟩
theorem mtX4_comesRound (G : GG) (hG : GT G) {a0 : Nat} {h h' : AH} {v : Int32} (hc : fX4_comesRound a0 h = some (v, h')) : AMet G yX4_comesRound cX4_comesRound 3 (some .boolean) 0 0 0 0 [.ref (gB G + a0)] h (some (.int v)) h' :=
  amet_of false [some (.ref (gB G + a0)), none, none] (by decide +kernel) (by decide) (Nat.le_of_ble_eq_true rfl) rfl (Nat.le_of_ble_eq_true rfl) (wX4_comesRound G hG (v, h') _ h hc)
abbrev eX8_round (G : GG) (R : Int64 × AH) : EE := eM G 4 (some .long) false 4 105 0 0 (some (.long R.1)) R.2
theorem wX8_round_27 (G : GG) (hG : GT G) (R : Int64 × AH) (l0 : Nat) (l2 : Int32) (l3 : Nat) (h : AH) (X : fX8_round_27 l0 l2 l3 h = some R) : AW (eX8_round G R) RX8 cX8_round 27 [some (.ref (gB G + l0)), none, some (.int l2), some (.ref (gB G + l3))] [] h 0 0 := by
  unfold fX8_round_27 at X
  refine r_ald3 28 dX8_round_27 rfl ?_
  refine r_gI 31 dX8_round_28 rfl lfX8_144 rfl X (fun x101 X => ?_)
  refine r_iconst 32 _ dX8_round_31 rfl ki_1 ?_
  refine r_icmp_eq 39 35 dX8_round_32 (by decide) rfl X (fun _ X => ?_) (fun _ X => ?_)
  · refine r_ald0 40 dX8_round_39 rfl ?_
    refine r_gR 43 dX8_round_40 rfl lfX8_44 rfl X (fun b102 X => ?_)
    refine r_ald3 44 dX8_round_43 rfl ?_
    obtain ⟨hs, X⟩ := r_cv X
    obtain ⟨_, h103, hc, X⟩ := bnd_ok X
    refine r_callV1v 47 dX8_round_44 rfl lmX8_195 hs (mtX4_go G hG hc) rfl ⟨(Nat.zero_le _), (Nat.zero_le _)⟩ ?_
    refine r_ald0 48 dX8_round_47 rfl ?_
    refine r_gR 51 dX8_round_48 rfl lfX8_44 rfl X (fun b104 X => ?_)
    obtain ⟨hs, X⟩ := r_cv X
    obtain ⟨x106, h105, hc, X⟩ := bnd_ok X
    refine r_callV0 54 dX8_round_51 rfl lmX8_199 hs (mtX4_comesRound G hG hc) rfl ⟨(Nat.zero_le _), (Nat.zero_le _)⟩ ?_
    refine r_if_ne 61 57 dX8_round_54 (by decide) rfl X (fun _ X => ?_) (fun _ X => ?_)
    · refine r_ild2 62 dX8_round_61 rfl ?_
      refine r_if_ne 76 65 dX8_round_62 (by decide) rfl X (fun _ X => ?_) (fun _ X => ?_)
      · refine r_ald0 77 dX8_round_76 rfl ?_
        refine r_gR 80 dX8_round_77 rfl lfX8_44 rfl X (fun b107 X => ?_)
        refine r_gI 83 dX8_round_80 rfl lfX8_205 rfl X (fun x108 X => ?_)
        refine r_i2l 84 dX8_round_83 rfl ?_
        exact r_retL dX8_round_84 (Nat.zero_le _) (Nat.zero_le _) X
      · refine r_ald0 66 dX8_round_65 rfl ?_
        refine r_gR 69 dX8_round_66 rfl lfX8_44 rfl X (fun b109 X => ?_)
        refine r_gI 72 dX8_round_69 rfl lfX8_202 rfl X (fun x110 X => ?_)
        refine r_i2l 73 dX8_round_72 rfl ?_
        refine r_goto 84 dX8_round_73 (by decide) ?_
        exact r_retL dX8_round_84 (Nat.zero_le _) (Nat.zero_le _) X
    · refine r_ldc2 60 dX8_round_57 rfl lkX8_185 ?_
      exact r_retL dX8_round_60 (Nat.zero_le _) (Nat.zero_le _) X
  · refine r_ldc2 38 dX8_round_35 rfl lkX8_109 ?_
    exact r_retL dX8_round_38 (Nat.zero_le _) (Nat.zero_le _) X
theorem wX8_round (G : GG) (hG : GT G) (R : Int64 × AH) (a0 : Nat) (x0 : Int32) (x1 : Int32) (h : AH) (X : fX8_round a0 x0 x1 h = some R) : AW (eX8_round G R) RX8 cX8_round 0 [some (.ref (gB G + a0)), some (.int x0), some (.int x1), none] [] h 0 0 := by
  unfold fX8_round at X
  refine r_ald0 1 dX8_round_0 rfl ?_
  refine r_ild1 2 dX8_round_1 rfl ?_
  obtain ⟨hs, X⟩ := r_cv X
  obtain ⟨r102, h101, hc, X⟩ := bnd_ok X
  refine r_callV1 5 dX8_round_2 rfl lmX8_118 hs (mtX8_find G hG hc) rfl ⟨(Nat.zero_le _), (Nat.zero_le _)⟩ ?_
  refine r_split X (fun X => ?_) (fun b103 X => ?_)
  · refine r_astN3 6 dX8_round_5 rfl rfl ?_
    refine r_aldN3 7 dX8_round_6 rfl ?_
    refine r_ifnonnullN 10 dX8_round_7 rfl ?_
    refine r_ldc2 13 dX8_round_10 rfl lkX8_122 ?_
    exact r_retL dX8_round_13 (Nat.zero_le _) (Nat.zero_le _) X
  · refine r_ast3 6 dX8_round_5 rfl rfl ?_
    refine r_ald3 7 dX8_round_6 rfl ?_
    refine r_ifnonnull 14 dX8_round_7 (by decide) ?_
    refine r_ild2 15 dX8_round_14 rfl ?_
    refine r_if_eq 27 18 dX8_round_15 (by decide) rfl X (fun _ X => ?_) (fun _ X => ?_)
    · exact r_cut (wX8_round_27 G hG R _ _ _ _ X) ⟨rfl, ⟨rfl, ⟨rfl, trivial⟩⟩⟩
    · refine r_ild2 19 dX8_round_18 rfl ?_
      refine r_iconst 20 _ dX8_round_19 rfl ki_1 ?_
      refine r_icmp_eq 27 23 dX8_round_20 (by decide) rfl X (fun _ X => ?_) (fun _ X => ?_)
      · exact r_cut (wX8_round_27 G hG R _ _ _ _ X) ⟨rfl, ⟨rfl, ⟨rfl, trivial⟩⟩⟩
      · refine r_ldc2 26 dX8_round_23 rfl lkX8_84 ?_
        exact r_retL dX8_round_26 (Nat.zero_le _) (Nat.zero_le _) X
theorem mtX8_round (G : GG) (hG : GT G) {a0 : Nat} {x0 : Int32} {x1 : Int32} {h h' : AH} {v : Int64} (hc : fX8_round a0 x0 x1 h = some (v, h')) : AMet G yX8_round cX8_round 4 (some .long) 4 105 0 0 [.ref (gB G + a0), .int x0, .int x1] h (some (.long v)) h' :=
  amet_of false [some (.ref (gB G + a0)), some (.int x0), some (.int x1), none] (by decide +kernel) (by decide) (Nat.le_of_ble_eq_true rfl) rfl (Nat.le_of_ble_eq_true rfl) (wX8_round G hG (v, h') _ _ _ h hc)
abbrev eX8_row (G : GG) (R : Int64 × AH) : EE := eM G 3 (some .long) false 0 0 0 0 (some (.long R.1)) R.2
theorem wX8_row (G : GG) (hG : GT G) (R : Int64 × AH) (a0 : Nat) (x0 : Int32) (x1 : Int32) (h : AH) (X : fX8_row a0 x0 x1 h = some R) : AW (eX8_row G R) RX8 cX8_row 0 [some (.ref (gB G + a0)), some (.int x0), some (.int x1)] [] h 0 0 := by
  unfold fX8_row at X
  refine r_ild1 1 dX8_row_0 rfl ?_
  refine r_iconst 2 _ dX8_row_1 rfl ki_1 ?_
  refine r_icmp_lt 21 5 dX8_row_2 (by decide) rfl X (fun _ X => ?_) (fun _ X => ?_)
  · refine r_ldc2 24 dX8_row_21 rfl lkX8_84 ?_
    exact r_retL dX8_row_24 (Nat.zero_le _) (Nat.zero_le _) X
  · refine r_ild1 6 dX8_row_5 rfl ?_
    refine r_ldc 8 dX8_row_6 rfl lkX8_108 ?_
    refine r_icmp_gt 21 11 dX8_row_8 (by decide) rfl X (fun _ X => ?_) (fun _ X => ?_)
    · refine r_ldc2 24 dX8_row_21 rfl lkX8_84 ?_
      exact r_retL dX8_row_24 (Nat.zero_le _) (Nat.zero_le _) X
    · refine r_ild2 12 dX8_row_11 rfl ?_
      refine r_if_lt 21 15 dX8_row_12 (by decide) rfl X (fun _ X => ?_) (fun _ X => ?_)
      · refine r_ldc2 24 dX8_row_21 rfl lkX8_84 ?_
        exact r_retL dX8_row_24 (Nat.zero_le _) (Nat.zero_le _) X
      · refine r_ild2 16 dX8_row_15 rfl ?_
        refine r_ldc 18 dX8_row_16 rfl lkX8_108 ?_
        refine r_icmp_le 25 21 dX8_row_18 (by decide) rfl X (fun _ X => ?_) (fun _ X => ?_)
        · refine r_ald0 26 dX8_row_25 rfl ?_
          refine r_gI 29 dX8_row_26 rfl lfX8_27 rfl X (fun x101 X => ?_)
          refine r_bipush 31 _ dX8_row_29 rfl kb_8 ?_
          refine r_icmp_lt 38 34 dX8_row_31 (by decide) rfl X (fun _ X => ?_) (fun _ X => ?_)
          · refine r_ald0 39 dX8_row_38 rfl ?_
            refine r_gR 42 dX8_row_39 rfl lfX8_20 rfl X (fun b102 X => ?_)
            refine r_ald0 43 dX8_row_42 rfl ?_
            refine r_gI 46 dX8_row_43 rfl lfX8_27 rfl X (fun x103 X => ?_)
            refine r_ild1 47 dX8_row_46 rfl ?_
            refine r_i2l 48 dX8_row_47 rfl ?_
            refine r_zL 49 1 dX8_row_48 rfl rfl X (fun h104 X => ?_)
            refine r_ald0 50 dX8_row_49 rfl ?_
            refine r_gR 53 dX8_row_50 rfl lfX8_24 rfl X (fun b105 X => ?_)
            refine r_ald0 54 dX8_row_53 rfl ?_
            refine r_gI 57 dX8_row_54 rfl lfX8_27 rfl X (fun x106 X => ?_)
            refine r_ild2 58 dX8_row_57 rfl ?_
            refine r_i2l 59 dX8_row_58 rfl ?_
            refine r_zL 60 1 dX8_row_59 rfl rfl X (fun h107 X => ?_)
            refine r_ald0 61 dX8_row_60 rfl ?_
            refine r_dup 62 dX8_row_61 rfl rfl ?_
            refine r_gI 65 dX8_row_62 rfl lfX8_27 rfl X (fun x108 X => ?_)
            refine r_iconst 66 _ dX8_row_65 rfl ki_1 ?_
            refine r_iadd 67 dX8_row_66 rfl ?_
            refine r_pI 70 dX8_row_67 rfl lpX8_27 rfl X (fun h109 X => ?_)
            refine r_ald0 71 dX8_row_70 rfl ?_
            refine r_gI 74 dX8_row_71 rfl lfX8_27 rfl X (fun x110 X => ?_)
            refine r_i2l 75 dX8_row_74 rfl ?_
            exact r_retL dX8_row_75 (Nat.zero_le _) (Nat.zero_le _) X
          · refine r_ldc2 37 dX8_row_34 rfl lkX8_90 ?_
            exact r_retL dX8_row_37 (Nat.zero_le _) (Nat.zero_le _) X
        · refine r_ldc2 24 dX8_row_21 rfl lkX8_84 ?_
          exact r_retL dX8_row_24 (Nat.zero_le _) (Nat.zero_le _) X
theorem mtX8_row (G : GG) (hG : GT G) {a0 : Nat} {x0 : Int32} {x1 : Int32} {h h' : AH} {v : Int64} (hc : fX8_row a0 x0 x1 h = some (v, h')) : AMet G yX8_row cX8_row 3 (some .long) 0 0 0 0 [.ref (gB G + a0), .int x0, .int x1] h (some (.long v)) h' :=
  amet_of false [some (.ref (gB G + a0)), some (.int x0), some (.int x1)] (by decide +kernel) (by decide) (Nat.le_of_ble_eq_true rfl) rfl (Nat.le_of_ble_eq_true rfl) (wX8_row G hG (v, h') _ _ _ h hc)
abbrev eX8_fillRule (G : GG) (R : Unit × AH) : EE := eM G 7 none false 1 22 0 0 none R.2
theorem wX8_fillRule_19 (G : GG) (hG : GT G) (R : Unit × AH) {K19 : Nat → Nat → Int32 → Int64 → Int32 → AH → Fn Unit} (hK19 : ∀ (l0 : Nat) (l1 : Nat) (l3 : Int32) (l4 : Int64) (l6 : Int32) (h : AH), K19 l0 l1 l3 l4 l6 h = some R → AW (eX8_fillRule G R) RX8 cX8_fillRule 19 [some (.ref (gB G + l0)), some (.ref (gB G + l1)), none, some (.int l3), some (.long l4), none, some (.int l6)] [] h 0 0) (l0 : Nat) (l1 : Nat) (l3 : Int32) (l4 : Int64) (l6 : Int32) (h : AH) (X : fX8_fillRule_19 K19 l0 l1 l3 l4 l6 h = some R) : AW (eX8_fillRule G R) RX8 cX8_fillRule 19 [some (.ref (gB G + l0)), some (.ref (gB G + l1)), none, some (.int l3), some (.long l4), none, some (.int l6)] [] h 0 0 := by
  unfold fX8_fillRule_19 at X
  refine r_ild6 21 dX8_fillRule_19 rfl ?_
  refine r_bipush 23 _ dX8_fillRule_21 rfl kb_60 ?_
  refine r_icmp_ge 71 26 dX8_fillRule_23 (by decide) rfl X (fun _ X => ?_) (fun _ X => ?_)
  · exact r_retV dX8_fillRule_71 (Nat.zero_le _) (Nat.zero_le _) X
  · refine r_ald1 27 dX8_fillRule_26 rfl ?_
    refine r_ald0 28 dX8_fillRule_27 rfl ?_
    refine r_gR 31 dX8_fillRule_28 rfl lfX8_20 rfl X (fun b101 X => ?_)
    refine r_ild3 32 dX8_fillRule_31 rfl ?_
    refine r_aL 33 1 dX8_fillRule_32 rfl rfl X (fun x102 X => ?_)
    refine r_lld4 35 dX8_fillRule_33 rfl ?_
    refine r_ald0 36 dX8_fillRule_35 rfl ?_
    refine r_gR 39 dX8_fillRule_36 rfl lfX8_24 rfl X (fun b103 X => ?_)
    refine r_ild3 40 dX8_fillRule_39 rfl ?_
    refine r_aL 41 1 dX8_fillRule_40 rfl rfl X (fun x104 X => ?_)
    refine r_lmul 42 dX8_fillRule_41 rfl ?_
    refine r_ladd 43 dX8_fillRule_42 rfl ?_
    obtain ⟨hs, X⟩ := r_cv X
    obtain ⟨_, h105, hc, X⟩ := bnd_ok X
    refine r_callV1v 46 dX8_fillRule_43 rfl lmX8_278 hs (mtX7_addPart G hG hc) rfl ⟨(Nat.zero_le _), (Nat.zero_le _)⟩ ?_
    refine r_iinc3w 49 dX8_fillRule_46 rfl rfl ki_1 X (fun x106 X => ?_)
    refine r_ild3 50 dX8_fillRule_49 rfl ?_
    refine r_ald0 51 dX8_fillRule_50 rfl ?_
    refine r_gI 54 dX8_fillRule_51 rfl lfX8_27 rfl X (fun x107 X => ?_)
    refine r_icmp_lt 65 57 dX8_fillRule_54 (by decide) rfl X (fun _ X => ?_) (fun _ X => ?_)
    · refine r_iinc6w 68 dX8_fillRule_65 rfl rfl ki_1 X (fun x108 X => ?_)
      refine r_goto 19 dX8_fillRule_68 (by decide) ?_
      exact r_cut (hK19 _ _ _ _ _ _ X) ⟨rfl, ⟨rfl, ⟨rfl, ⟨rfl, ⟨rfl, trivial⟩⟩⟩⟩⟩
    · refine r_iconst 58 _ dX8_fillRule_57 rfl ki_0 ?_
      refine r_ist3 59 dX8_fillRule_58 rfl rfl ?_
      refine r_lld4 61 dX8_fillRule_59 rfl ?_
      refine r_lconst 62 _ dX8_fillRule_61 rfl kl_1 ?_
      refine r_ladd 63 dX8_fillRule_62 rfl ?_
      refine r_lst4w 65 dX8_fillRule_63 rfl rfl X (fun x109 X => ?_)
      refine r_iinc6w 68 dX8_fillRule_65 rfl rfl ki_1 X (fun x110 X => ?_)
      refine r_goto 19 dX8_fillRule_68 (by decide) ?_
      exact r_cut (hK19 _ _ _ _ _ _ X) ⟨rfl, ⟨rfl, ⟨rfl, ⟨rfl, ⟨rfl, trivial⟩⟩⟩⟩⟩
theorem wX8_fillRule_19L (G : GG) (hG : GT G) (R : Unit × AH) : ∀ (m : Nat) (l0 : Nat) (l1 : Nat) (l3 : Int32) (l4 : Int64) (l6 : Int32) (h : AH), fX8_fillRule_19L m l0 l1 l3 l4 l6 h = some R → AW (eX8_fillRule G R) RX8 cX8_fillRule 19 [some (.ref (gB G + l0)), some (.ref (gB G + l1)), none, some (.int l3), some (.long l4), none, some (.int l6)] [] h 0 0 := by
  intro m
  induction m with
  | zero => intro l0 l1 l3 l4 l6 h X; exact nomatch (show (none : Fn Unit) = some R from X)
  | succ m ih => intro l0 l1 l3 l4 l6 h X; exact wX8_fillRule_19 G hG R ih l0 l1 l3 l4 l6 h X
theorem wX8_fillRule (G : GG) (hG : GT G) (R : Unit × AH) (a0 : Nat) (a1 : Nat) (x1 : Int32) (h : AH) (X : fX8_fillRule a0 a1 x1 h = some R) : AW (eX8_fillRule G R) RX8 cX8_fillRule 0 [some (.ref (gB G + a0)), some (.ref (gB G + a1)), some (.int x1), none, none, none, none] [] h 0 0 := by
  unfold fX8_fillRule at X
  refine r_ald1 1 dX8_fillRule_0 rfl ?_
  refine r_iconst 2 _ dX8_fillRule_1 rfl ki_2 ?_
  obtain ⟨hs, X⟩ := r_cv X
  obtain ⟨_, h101, hc, X⟩ := bnd_ok X
  refine r_callV1v 5 dX8_fillRule_2 rfl lmX8_275 hs (mtX7_start G hG hc) rfl ⟨(Nat.zero_le _), (Nat.zero_le _)⟩ ?_
  refine r_ald1 6 dX8_fillRule_5 rfl ?_
  refine r_ild2 7 dX8_fillRule_6 rfl ?_
  refine r_i2l 8 dX8_fillRule_7 rfl ?_
  obtain ⟨hs, X⟩ := r_cv X
  obtain ⟨_, h102, hc, X⟩ := bnd_ok X
  refine r_callV1v 11 dX8_fillRule_8 rfl lmX8_278 hs (mtX7_addPart G hG hc) rfl ⟨(Nat.zero_le _), (Nat.zero_le _)⟩ ?_
  refine r_iconst 12 _ dX8_fillRule_11 rfl ki_0 ?_
  refine r_ist3 13 dX8_fillRule_12 rfl rfl ?_
  refine r_lconst 14 _ dX8_fillRule_13 rfl kl_0 ?_
  refine r_lst4 16 dX8_fillRule_14 rfl rfl ?_
  refine r_iconst 17 _ dX8_fillRule_16 rfl ki_1 ?_
  refine r_ist6 19 dX8_fillRule_17 rfl rfl ?_
  exact r_cut (wX8_fillRule_19L G hG R 1000 _ _ _ _ _ _ X) ⟨rfl, ⟨rfl, ⟨rfl, ⟨rfl, ⟨rfl, trivial⟩⟩⟩⟩⟩
theorem mtX8_fillRule (G : GG) (hG : GT G) {a0 : Nat} {a1 : Nat} {x1 : Int32} {h h' : AH} {v : Unit} (hc : fX8_fillRule a0 a1 x1 h = some (v, h')) : AMet G yX8_fillRule cX8_fillRule 7 none 1 22 0 0 [.ref (gB G + a0), .ref (gB G + a1), .int x1] h none h' :=
  amet_of false [some (.ref (gB G + a0)), some (.ref (gB G + a1)), some (.int x1), none, none, none, none] (by decide +kernel) (by decide) (Nat.le_of_ble_eq_true rfl) rfl (Nat.le_of_ble_eq_true rfl) (wX8_fillRule G hG (v, h') _ _ _ h hc)
abbrev eX8_rule (G : GG) (R : Int64 × AH) : EE := eM G 3 (some .long) false 2 48 0 0 (some (.long R.1)) R.2
theorem wX8_rule (G : GG) (hG : GT G) (R : Int64 × AH) (a0 : Nat) (x0 : Int32) (h : AH) (X : fX8_rule a0 x0 h = some R) : AW (eX8_rule G R) RX8 cX8_rule 0 [some (.ref (gB G + a0)), some (.int x0), none] [] h 0 0 := by
  unfold fX8_rule at X
  refine r_ild1 1 dX8_rule_0 rfl ?_
  refine r_ldc 3 dX8_rule_1 rfl lkX8_108 ?_
  obtain ⟨x102, h101, hc, X⟩ := bnd_ok X
  refine r_callS2 6 dX8_rule_3 rfl lmX8_100 (mtX8_beyond G hG hc) rfl ⟨(Nat.zero_le _), (Nat.zero_le _)⟩ ?_
  refine r_if_eq 13 9 dX8_rule_6 (by decide) rfl X (fun _ X => ?_) (fun _ X => ?_)
  · refine r_ald0 14 dX8_rule_13 rfl ?_
    refine r_gI 17 dX8_rule_14 rfl lfX8_27 rfl X (fun x103 X => ?_)
    refine r_if_ne 24 20 dX8_rule_17 (by decide) rfl X (fun _ X => ?_) (fun _ X => ?_)
    · refine r_ald0 25 dX8_rule_24 rfl ?_
      obtain ⟨hs, X⟩ := r_cv X
      obtain ⟨x105, h104, hc, X⟩ := bnd_ok X
      refine r_callV0 28 dX8_rule_25 rfl lmX8_86 hs (mtX8_leastFree G hG hc) rfl ⟨(Nat.zero_le _), (Nat.zero_le _)⟩ ?_
      refine r_ist2 29 dX8_rule_28 rfl rfl ?_
      refine r_ild2 30 dX8_rule_29 rfl ?_
      refine r_iconst 31 _ dX8_rule_30 rfl ki_m1 ?_
      refine r_icmp_ne 38 34 dX8_rule_31 (by decide) rfl X (fun _ X => ?_) (fun _ X => ?_)
      · refine r_ald0 39 dX8_rule_38 rfl ?_
        refine r_ald0 40 dX8_rule_39 rfl ?_
        refine r_gR 43 dX8_rule_40 rfl lfX8_11 rfl X (fun b106 X => ?_)
        refine r_ild2 44 dX8_rule_43 rfl ?_
        refine r_aR 45 3 dX8_rule_44 rfl rfl X (fun b107 X => ?_)
        refine r_ild1 46 dX8_rule_45 rfl ?_
        obtain ⟨hs, X⟩ := r_cv X
        obtain ⟨_, h108, hc, X⟩ := bnd_ok X
        refine r_callV2v 49 dX8_rule_46 rfl lmX8_111 hs (mtX8_fillRule G hG hc) rfl ⟨(Nat.zero_le _), (Nat.zero_le _)⟩ ?_
        refine r_ald0 50 dX8_rule_49 rfl ?_
        refine r_iconst 51 _ dX8_rule_50 rfl ki_0 ?_
        refine r_pI 54 dX8_rule_51 rfl lpX8_27 rfl X (fun h109 X => ?_)
        refine r_ald0 55 dX8_rule_54 rfl ?_
        refine r_ild2 56 dX8_rule_55 rfl ?_
        obtain ⟨hs, X⟩ := r_cv X
        obtain ⟨x111, h110, hc, X⟩ := bnd_ok X
        refine r_callV1 59 dX8_rule_56 rfl lmX8_115 hs (mtX8_place G hG hc) rfl ⟨(Nat.zero_le _), (Nat.zero_le _)⟩ ?_
        exact r_retL dX8_rule_59 (Nat.zero_le _) (Nat.zero_le _) X
      · refine r_ldc2 37 dX8_rule_34 rfl lkX8_90 ?_
        exact r_retL dX8_rule_37 (Nat.zero_le _) (Nat.zero_le _) X
    · refine r_ldc2 23 dX8_rule_20 rfl lkX8_109 ?_
      exact r_retL dX8_rule_23 (Nat.zero_le _) (Nat.zero_le _) X
  · refine r_ldc2 12 dX8_rule_9 rfl lkX8_84 ?_
    exact r_retL dX8_rule_12 (Nat.zero_le _) (Nat.zero_le _) X
theorem mtX8_rule (G : GG) (hG : GT G) {a0 : Nat} {x0 : Int32} {h h' : AH} {v : Int64} (hc : fX8_rule a0 x0 h = some (v, h')) : AMet G yX8_rule cX8_rule 3 (some .long) 2 48 0 0 [.ref (gB G + a0), .int x0] h (some (.long v)) h' :=
  amet_of false [some (.ref (gB G + a0)), some (.int x0), none] (by decide +kernel) (by decide) (Nat.le_of_ble_eq_true rfl) rfl (Nat.le_of_ble_eq_true rfl) (wX8_rule G hG (v, h') _ _ h hc)
abbrev eX8_sign (G : GG) (R : Int64 × AH) : EE := eM G 5 (some .long) false 1 22 0 0 (some (.long R.1)) R.2
theorem wX8_sign (G : GG) (hG : GT G) (R : Int64 × AH) (a0 : Nat) (x0 : Int32) (h : AH) (X : fX8_sign a0 x0 h = some R) : AW (eX8_sign G R) RX8 cX8_sign 0 [some (.ref (gB G + a0)), some (.int x0), none, none, none] [] h 0 0 := by
  unfold fX8_sign at X
  refine r_ald0 1 dX8_sign_0 rfl ?_
  refine r_ild1 2 dX8_sign_1 rfl ?_
  obtain ⟨hs, X⟩ := r_cv X
  obtain ⟨r102, h101, hc, X⟩ := bnd_ok X
  refine r_callV1 5 dX8_sign_2 rfl lmX8_118 hs (mtX8_find G hG hc) rfl ⟨(Nat.zero_le _), (Nat.zero_le _)⟩ ?_
  refine r_split X (fun X => ?_) (fun b103 X => ?_)
  · refine r_astN2 6 dX8_sign_5 rfl rfl ?_
    refine r_aldN2 7 dX8_sign_6 rfl ?_
    refine r_ifnonnullN 10 dX8_sign_7 rfl ?_
    refine r_ldc2 13 dX8_sign_10 rfl lkX8_122 ?_
    exact r_retL dX8_sign_13 (Nat.zero_le _) (Nat.zero_le _) X
  · refine r_ast2 6 dX8_sign_5 rfl rfl ?_
    refine r_ald2 7 dX8_sign_6 rfl ?_
    refine r_ifnonnull 14 dX8_sign_7 (by decide) ?_
    refine r_ald2 15 dX8_sign_14 rfl ?_
    refine r_gI 18 dX8_sign_15 rfl lfX8_166 rfl X (fun x104 X => ?_)
    refine r_if_ne 25 21 dX8_sign_18 (by decide) rfl X (fun _ X => ?_) (fun _ X => ?_)
    · refine r_ald2 26 dX8_sign_25 rfl ?_
      refine r_iconst 27 _ dX8_sign_26 rfl ki_0 ?_
      obtain ⟨hs, X⟩ := r_cv X
      obtain ⟨x106, h105, hc, X⟩ := bnd_ok X
      refine r_callV1 30 dX8_sign_27 rfl lmX8_182 hs (mtX7_partAt G hG hc) rfl ⟨(Nat.zero_le _), (Nat.zero_le _)⟩ ?_
      refine r_lst3 31 dX8_sign_30 rfl rfl ?_
      refine r_lld3 32 dX8_sign_31 rfl ?_
      refine r_lconst 33 _ dX8_sign_32 rfl kl_0 ?_
      refine r_lif_eq 51 37 dX8_sign_33 dX8_sign_34 (by decide) rfl X (fun _ X => ?_) (fun _ X => ?_)
      · refine r_ald2 52 dX8_sign_51 rfl ?_
        refine r_gI 55 dX8_sign_52 rfl lfX8_166 rfl X (fun x107 X => ?_)
        refine r_iconst 56 _ dX8_sign_55 rfl ki_1 ?_
        refine r_icmp_le 61 59 dX8_sign_56 (by decide) rfl X (fun _ X => ?_) (fun _ X => ?_)
        · refine r_ald2 62 dX8_sign_61 rfl ?_
          refine r_gI 65 dX8_sign_62 rfl lfX8_169 rfl X (fun x108 X => ?_)
          refine r_if_eq 72 68 dX8_sign_65 (by decide) rfl X (fun _ X => ?_) (fun _ X => ?_)
          · refine r_ldc2 75 dX8_sign_72 rfl lkX8_185 ?_
            exact r_retL dX8_sign_75 (Nat.zero_le _) (Nat.zero_le _) X
          · refine r_lconst 69 _ dX8_sign_68 rfl kl_0 ?_
            refine r_goto 75 dX8_sign_69 (by decide) ?_
            exact r_retL dX8_sign_75 (Nat.zero_le _) (Nat.zero_le _) X
        · refine r_lconst 60 _ dX8_sign_59 rfl kl_1 ?_
          exact r_retL dX8_sign_60 (Nat.zero_le _) (Nat.zero_le _) X
      · refine r_lld3 38 dX8_sign_37 rfl ?_
        refine r_lconst 39 _ dX8_sign_38 rfl kl_0 ?_
        refine r_lif_ge 49 43 dX8_sign_39 dX8_sign_40 (by decide) rfl X (fun _ X => ?_) (fun _ X => ?_)
        · refine r_lconst 50 _ dX8_sign_49 rfl kl_1 ?_
          exact r_retL dX8_sign_50 (Nat.zero_le _) (Nat.zero_le _) X
        · refine r_ldc2 46 dX8_sign_43 rfl lkX8_208 ?_
          refine r_goto 50 dX8_sign_46 (by decide) ?_
          exact r_retL dX8_sign_50 (Nat.zero_le _) (Nat.zero_le _) X
    · refine r_ldc2 24 dX8_sign_21 rfl lkX8_185 ?_
      exact r_retL dX8_sign_24 (Nat.zero_le _) (Nat.zero_le _) X
theorem mtX8_sign (G : GG) (hG : GT G) {a0 : Nat} {x0 : Int32} {h h' : AH} {v : Int64} (hc : fX8_sign a0 x0 h = some (v, h')) : AMet G yX8_sign cX8_sign 5 (some .long) 1 22 0 0 [.ref (gB G + a0), .int x0] h (some (.long v)) h' :=
  amet_of false [some (.ref (gB G + a0)), some (.int x0), none, none, none] (by decide +kernel) (by decide) (Nat.le_of_ble_eq_true rfl) rfl (Nat.le_of_ble_eq_true rfl) (wX8_sign G hG (v, h') _ _ h hc)
abbrev eX8_told (G : GG) (R : Int64 × AH) : EE := eM G 4 (some .long) false 1 22 0 0 (some (.long R.1)) R.2
theorem wX8_told (G : GG) (hG : GT G) (R : Int64 × AH) (a0 : Nat) (x0 : Int32) (x1 : Int32) (h : AH) (X : fX8_told a0 x0 x1 h = some R) : AW (eX8_told G R) RX8 cX8_told 0 [some (.ref (gB G + a0)), some (.int x0), some (.int x1), none] [] h 0 0 := by
  unfold fX8_told at X
  refine r_ald0 1 dX8_told_0 rfl ?_
  refine r_ild1 2 dX8_told_1 rfl ?_
  obtain ⟨hs, X⟩ := r_cv X
  obtain ⟨r102, h101, hc, X⟩ := bnd_ok X
  refine r_callV1 5 dX8_told_2 rfl lmX8_118 hs (mtX8_find G hG hc) rfl ⟨(Nat.zero_le _), (Nat.zero_le _)⟩ ?_
  refine r_split X (fun X => ?_) (fun b103 X => ?_)
  · refine r_astN3 6 dX8_told_5 rfl rfl ?_
    refine r_aldN3 7 dX8_told_6 rfl ?_
    refine r_ifnonnullN 10 dX8_told_7 rfl ?_
    refine r_ldc2 13 dX8_told_10 rfl lkX8_122 ?_
    exact r_retL dX8_told_13 (Nat.zero_le _) (Nat.zero_le _) X
  · refine r_ast3 6 dX8_told_5 rfl rfl ?_
    refine r_ald3 7 dX8_told_6 rfl ?_
    refine r_ifnonnull 14 dX8_told_7 (by decide) ?_
    refine r_ild2 15 dX8_told_14 rfl ?_
    refine r_case 48 0 0 33 dX8_told_15 (by decide) (by decide) (by decide) (by decide) X (fun _ X => ?_) (fun n0 X => ?_)
    · refine r_ald3 49 dX8_told_48 rfl ?_
      refine r_gI 52 dX8_told_49 rfl lfX8_144 rfl X (fun x109 X => ?_)
      refine r_i2l 53 dX8_told_52 rfl ?_
      exact r_retL dX8_told_53 (Nat.zero_le _) (Nat.zero_le _) X
    · refine r_case 54 1 1 39 dX8_told_15 (by decide) (by decide) (by decide) (by decide) X (fun _ X => ?_) (fun n1 X => ?_)
      · refine r_ald3 55 dX8_told_54 rfl ?_
        refine r_gI 58 dX8_told_55 rfl lfX8_166 rfl X (fun x108 X => ?_)
        refine r_i2l 59 dX8_told_58 rfl ?_
        exact r_retL dX8_told_59 (Nat.zero_le _) (Nat.zero_le _) X
      · refine r_case 60 2 2 45 dX8_told_15 (by decide) (by decide) (by decide) (by decide) X (fun _ X => ?_) (fun n2 X => ?_)
        · refine r_ald3 61 dX8_told_60 rfl ?_
          refine r_gI 64 dX8_told_61 rfl lfX8_169 rfl X (fun x107 X => ?_)
          refine r_if_eq 71 67 dX8_told_64 (by decide) rfl X (fun _ X => ?_) (fun _ X => ?_)
          · refine r_lconst 72 _ dX8_told_71 rfl kl_0 ?_
            exact r_retL dX8_told_72 (Nat.zero_le _) (Nat.zero_le _) X
          · refine r_lconst 68 _ dX8_told_67 rfl kl_1 ?_
            refine r_goto 72 dX8_told_68 (by decide) ?_
            exact r_retL dX8_told_72 (Nat.zero_le _) (Nat.zero_le _) X
        · refine r_case 73 3 3 58 dX8_told_15 (by decide) (by decide) (by decide) (by decide) X (fun _ X => ?_) (fun n3 X => ?_)
          · refine r_ald3 74 dX8_told_73 rfl ?_
            refine r_gI 77 dX8_told_74 rfl lfX8_172 rfl X (fun x106 X => ?_)
            refine r_i2l 78 dX8_told_77 rfl ?_
            exact r_retL dX8_told_78 (Nat.zero_le _) (Nat.zero_le _) X
          · refine r_case 79 4 4 64 dX8_told_15 (by decide) (by decide) (by decide) (by decide) X (fun _ X => ?_) (fun n4 X => ?_)
            · refine r_ald3 80 dX8_told_79 rfl ?_
              obtain ⟨hs, X⟩ := r_cv X
              obtain ⟨x105, h104, hc, X⟩ := bnd_ok X
              refine r_callV0 83 dX8_told_80 rfl lmX8_175 hs (mtX7_isOpen G hG hc) rfl ⟨(Nat.zero_le _), (Nat.zero_le _)⟩ ?_
              refine r_if_eq 90 86 dX8_told_83 (by decide) rfl X (fun _ X => ?_) (fun _ X => ?_)
              · refine r_lconst 91 _ dX8_told_90 rfl kl_0 ?_
                exact r_retL dX8_told_91 (Nat.zero_le _) (Nat.zero_le _) X
              · refine r_lconst 87 _ dX8_told_86 rfl kl_1 ?_
                refine r_goto 91 dX8_told_87 (by decide) ?_
                exact r_retL dX8_told_91 (Nat.zero_le _) (Nat.zero_le _) X
            · refine r_default 92 dX8_told_15 (by omega) (by decide) ?_
              refine r_ldc2 95 dX8_told_92 rfl lkX8_84 ?_
              exact r_retL dX8_told_95 (Nat.zero_le _) (Nat.zero_le _) X
theorem mtX8_told (G : GG) (hG : GT G) {a0 : Nat} {x0 : Int32} {x1 : Int32} {h h' : AH} {v : Int64} (hc : fX8_told a0 x0 x1 h = some (v, h')) : AMet G yX8_told cX8_told 4 (some .long) 1 22 0 0 [.ref (gB G + a0), .int x0, .int x1] h (some (.long v)) h' :=
  amet_of false [some (.ref (gB G + a0)), some (.int x0), some (.int x1), none] (by decide +kernel) (by decide) (Nat.le_of_ble_eq_true rfl) rfl (Nat.le_of_ble_eq_true rfl) (wX8_told G hG (v, h') _ _ _ h hc)
