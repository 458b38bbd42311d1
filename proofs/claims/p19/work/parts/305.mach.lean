theorem dX8_turn_0 : decode cX8_turn 0 = .ok (.aload_n 0, 1) := by decide +kernel
theorem dX8_turn_1 : decode cX8_turn 1 = .ok (.iload_n 1, 1) := by decide +kernel
theorem dX8_turn_2 : decode cX8_turn 2 = .ok (.invokevirtual 118, 3) := by decide +kernel
theorem dX8_turn_5 : decode cX8_turn 5 = .ok (.astore_n 2, 1) := by decide +kernel
theorem dX8_turn_6 : decode cX8_turn 6 = .ok (.aload_n 2, 1) := by decide +kernel
theorem dX8_turn_7 : decode cX8_turn 7 = .ok (.ifnonnull 7, 3) := by decide +kernel
theorem dX8_turn_10 : decode cX8_turn 10 = .ok (.ldc2_w 122, 3) := by decide +kernel
theorem dX8_turn_13 : decode cX8_turn 13 = .ok (.lreturn, 1) := by decide +kernel
theorem dX8_turn_14 : decode cX8_turn 14 = .ok (.aload_n 2, 1) := by decide +kernel
theorem dX8_turn_15 : decode cX8_turn 15 = .ok (.invokevirtual 124, 3) := by decide +kernel
theorem dX8_turn_18 : decode cX8_turn 18 = .ok (.ifCond .eq 7, 3) := by decide +kernel
theorem dX8_turn_21 : decode cX8_turn 21 = .ok (.ldc2_w 109, 3) := by decide +kernel
theorem dX8_turn_24 : decode cX8_turn 24 = .ok (.lreturn, 1) := by decide +kernel
theorem dX8_turn_25 : decode cX8_turn 25 = .ok (.aload_n 0, 1) := by decide +kernel
theorem dX8_turn_26 : decode cX8_turn 26 = .ok (.invokevirtual 86, 3) := by decide +kernel
theorem dX8_turn_29 : decode cX8_turn 29 = .ok (.istore_n 3, 1) := by decide +kernel
theorem dX8_turn_30 : decode cX8_turn 30 = .ok (.iload_n 3, 1) := by decide +kernel
theorem dX8_turn_31 : decode cX8_turn 31 = .ok (.iconst (-1), 1) := by decide +kernel
theorem dX8_turn_32 : decode cX8_turn 32 = .ok (.if_icmp .ne 7, 3) := by decide +kernel
theorem dX8_turn_35 : decode cX8_turn 35 = .ok (.ldc2_w 90, 3) := by decide +kernel
theorem dX8_turn_38 : decode cX8_turn 38 = .ok (.lreturn, 1) := by decide +kernel
theorem dX8_turn_39 : decode cX8_turn 39 = .ok (.aload_n 0, 1) := by decide +kernel
theorem dX8_turn_40 : decode cX8_turn 40 = .ok (.getfield 16, 3) := by decide +kernel
theorem dX8_turn_43 : decode cX8_turn 43 = .ok (.aload_n 2, 1) := by decide +kernel
theorem dX8_turn_44 : decode cX8_turn 44 = .ok (.invokestatic 128, 3) := by decide +kernel
theorem dX8_turn_47 : decode cX8_turn 47 = .ok (.ifCond .eq 22, 3) := by decide +kernel
theorem dX8_turn_50 : decode cX8_turn 50 = .ok (.aload_n 0, 1) := by decide +kernel
theorem dX8_turn_51 : decode cX8_turn 51 = .ok (.getfield 37, 3) := by decide +kernel
theorem dX8_turn_54 : decode cX8_turn 54 = .ok (.iconst 3, 1) := by decide +kernel
theorem dX8_turn_55 : decode cX8_turn 55 = .ok (.aload_n 0, 1) := by decide +kernel
theorem dX8_turn_56 : decode cX8_turn 56 = .ok (.getfield 16, 3) := by decide +kernel
theorem dX8_turn_59 : decode cX8_turn 59 = .ok (.aload_n 2, 1) := by decide +kernel
theorem dX8_turn_60 : decode cX8_turn 60 = .ok (.invokevirtual 132, 3) := by decide +kernel
theorem dX8_turn_63 : decode cX8_turn 63 = .ok (.aload_n 0, 1) := by decide +kernel
theorem dX8_turn_64 : decode cX8_turn 64 = .ok (.iload_n 3, 1) := by decide +kernel
theorem dX8_turn_65 : decode cX8_turn 65 = .ok (.invokevirtual 96, 3) := by decide +kernel
theorem dX8_turn_68 : decode cX8_turn 68 = .ok (.lreturn, 1) := by decide +kernel
theorem dX8_turn_69 : decode cX8_turn 69 = .ok (.aload_n 0, 1) := by decide +kernel
theorem dX8_turn_70 : decode cX8_turn 70 = .ok (.getfield 51, 3) := by decide +kernel
theorem dX8_turn_73 : decode cX8_turn 73 = .ok (.iconst 4, 1) := by decide +kernel
theorem dX8_turn_74 : decode cX8_turn 74 = .ok (.invokevirtual 136, 3) := by decide +kernel
theorem dX8_turn_77 : decode cX8_turn 77 = .ok (.aload_n 0, 1) := by decide +kernel
theorem dX8_turn_78 : decode cX8_turn 78 = .ok (.getfield 51, 3) := by decide +kernel
theorem dX8_turn_81 : decode cX8_turn 81 = .ok (.aload_n 0, 1) := by decide +kernel
theorem dX8_turn_82 : decode cX8_turn 82 = .ok (.getfield 11, 3) := by decide +kernel
theorem dX8_turn_85 : decode cX8_turn 85 = .ok (.iload_n 3, 1) := by decide +kernel
theorem dX8_turn_86 : decode cX8_turn 86 = .ok (.aaload, 1) := by decide +kernel
theorem dX8_turn_87 : decode cX8_turn 87 = .ok (.aload_n 2, 1) := by decide +kernel
theorem dX8_turn_88 : decode cX8_turn 88 = .ok (.aload_n 2, 1) := by decide +kernel
theorem dX8_turn_89 : decode cX8_turn 89 = .ok (.invokevirtual 140, 3) := by decide +kernel
theorem dX8_turn_92 : decode cX8_turn 92 = .ok (.aload_n 0, 1) := by decide +kernel
theorem dX8_turn_93 : decode cX8_turn 93 = .ok (.iload_n 3, 1) := by decide +kernel
theorem dX8_turn_94 : decode cX8_turn 94 = .ok (.invokevirtual 115, 3) := by decide +kernel
theorem dX8_turn_97 : decode cX8_turn 97 = .ok (.lreturn, 1) := by decide +kernel
theorem dX9_size_0 : decode cX9_size 0 = .ok (.lload_n 0, 1) := by decide +kernel
theorem dX9_size_1 : decode cX9_size 1 = .ok (.lconst 0, 1) := by decide +kernel
theorem dX9_size_2 : decode cX9_size 2 = .ok (.lcmp, 1) := by decide +kernel
theorem dX9_size_3 : decode cX9_size 3 = .ok (.ifCond .ge 8, 3) := by decide +kernel
theorem dX9_size_6 : decode cX9_size 6 = .ok (.lload_n 0, 1) := by decide +kernel
theorem dX9_size_7 : decode cX9_size 7 = .ok (.lneg, 1) := by decide +kernel
theorem dX9_size_8 : decode cX9_size 8 = .ok (.goto 4, 3) := by decide +kernel
theorem dX9_size_11 : decode cX9_size 11 = .ok (.lload_n 0, 1) := by decide +kernel
theorem dX9_size_12 : decode cX9_size 12 = .ok (.lreturn, 1) := by decide +kernel
theorem dX9_floor_0 : decode cX9_floor 0 = .ok (.lload_n 0, 1) := by decide +kernel
theorem dX9_floor_1 : decode cX9_floor 1 = .ok (.lload_n 2, 1) := by decide +kernel
theorem dX9_floor_2 : decode cX9_floor 2 = .ok (.ldiv, 1) := by decide +kernel
theorem dX9_floor_3 : decode cX9_floor 3 = .ok (.lstore 4, 2) := by decide +kernel
theorem dX9_floor_5 : decode cX9_floor 5 = .ok (.lload_n 0, 1) := by decide +kernel
theorem dX9_floor_6 : decode cX9_floor 6 = .ok (.lload_n 2, 1) := by decide +kernel
theorem dX9_floor_7 : decode cX9_floor 7 = .ok (.lrem, 1) := by decide +kernel
theorem dX9_floor_8 : decode cX9_floor 8 = .ok (.lconst 0, 1) := by decide +kernel
theorem dX9_floor_9 : decode cX9_floor 9 = .ok (.lcmp, 1) := by decide +kernel
theorem dX9_floor_10 : decode cX9_floor 10 = .ok (.ifCond .eq 35, 3) := by decide +kernel
theorem dX9_floor_13 : decode cX9_floor 13 = .ok (.lload_n 0, 1) := by decide +kernel
theorem dX9_floor_14 : decode cX9_floor 14 = .ok (.lconst 0, 1) := by decide +kernel
theorem dX9_floor_15 : decode cX9_floor 15 = .ok (.lcmp, 1) := by decide +kernel
theorem dX9_floor_16 : decode cX9_floor 16 = .ok (.ifCond .ge 7, 3) := by decide +kernel
theorem dX9_floor_19 : decode cX9_floor 19 = .ok (.iconst 1, 1) := by decide +kernel
theorem dX9_floor_20 : decode cX9_floor 20 = .ok (.goto 4, 3) := by decide +kernel
theorem dX9_floor_23 : decode cX9_floor 23 = .ok (.iconst 0, 1) := by decide +kernel
theorem dX9_floor_24 : decode cX9_floor 24 = .ok (.lload_n 2, 1) := by decide +kernel
theorem dX9_floor_25 : decode cX9_floor 25 = .ok (.lconst 0, 1) := by decide +kernel
theorem dX9_floor_26 : decode cX9_floor 26 = .ok (.lcmp, 1) := by decide +kernel
theorem dX9_floor_27 : decode cX9_floor 27 = .ok (.ifCond .ge 7, 3) := by decide +kernel
theorem dX9_floor_30 : decode cX9_floor 30 = .ok (.iconst 1, 1) := by decide +kernel
theorem dX9_floor_31 : decode cX9_floor 31 = .ok (.goto 4, 3) := by decide +kernel
theorem dX9_floor_34 : decode cX9_floor 34 = .ok (.iconst 0, 1) := by decide +kernel
theorem dX9_floor_35 : decode cX9_floor 35 = .ok (.if_icmp .eq 10, 3) := by decide +kernel
theorem dX9_floor_38 : decode cX9_floor 38 = .ok (.lload 4, 2) := by decide +kernel
theorem dX9_floor_40 : decode cX9_floor 40 = .ok (.lconst 1, 1) := by decide +kernel
theorem dX9_floor_41 : decode cX9_floor 41 = .ok (.lsub, 1) := by decide +kernel
theorem dX9_floor_42 : decode cX9_floor 42 = .ok (.goto 5, 3) := by decide +kernel
theorem dX9_floor_45 : decode cX9_floor 45 = .ok (.lload 4, 2) := by decide +kernel
theorem dX9_floor_47 : decode cX9_floor 47 = .ok (.lreturn, 1) := by decide +kernel
theorem dX9_divisor_0 : decode cX9_divisor 0 = .ok (.lload_n 0, 1) := by decide +kernel
theorem dX9_divisor_1 : decode cX9_divisor 1 = .ok (.invokestatic 63, 3) := by decide +kernel
theorem dX9_divisor_4 : decode cX9_divisor 4 = .ok (.lstore 4, 2) := by decide +kernel
theorem dX9_divisor_6 : decode cX9_divisor 6 = .ok (.lload_n 2, 1) := by decide +kernel
theorem dX9_divisor_7 : decode cX9_divisor 7 = .ok (.invokestatic 63, 3) := by decide +kernel
theorem dX9_divisor_10 : decode cX9_divisor 10 = .ok (.lstore 6, 2) := by decide +kernel
theorem dX9_divisor_12 : decode cX9_divisor 12 = .ok (.lload 6, 2) := by decide +kernel
theorem dX9_divisor_14 : decode cX9_divisor 14 = .ok (.lconst 0, 1) := by decide +kernel
theorem dX9_divisor_15 : decode cX9_divisor 15 = .ok (.lcmp, 1) := by decide +kernel
theorem dX9_divisor_16 : decode cX9_divisor 16 = .ok (.ifCond .eq 21, 3) := by decide +kernel
theorem dX9_divisor_19 : decode cX9_divisor 19 = .ok (.lload 4, 2) := by decide +kernel
theorem dX9_divisor_21 : decode cX9_divisor 21 = .ok (.lload 6, 2) := by decide +kernel
theorem dX9_divisor_23 : decode cX9_divisor 23 = .ok (.lrem, 1) := by decide +kernel
theorem dX9_divisor_24 : decode cX9_divisor 24 = .ok (.lstore 8, 2) := by decide +kernel
theorem dX9_divisor_26 : decode cX9_divisor 26 = .ok (.lload 6, 2) := by decide +kernel
theorem dX9_divisor_28 : decode cX9_divisor 28 = .ok (.lstore 4, 2) := by decide +kernel
theorem dX9_divisor_30 : decode cX9_divisor 30 = .ok (.lload 8, 2) := by decide +kernel
theorem dX9_divisor_32 : decode cX9_divisor 32 = .ok (.lstore 6, 2) := by decide +kernel
theorem dX9_divisor_34 : decode cX9_divisor 34 = .ok (.goto (-22), 3) := by decide +kernel
theorem dX9_divisor_37 : decode cX9_divisor 37 = .ok (.lload 4, 2) := by decide +kernel
theorem dX9_divisor_39 : decode cX9_divisor 39 = .ok (.lreturn, 1) := by decide +kernel
theorem dX9_mul_0 : decode cX9_mul 0 = .ok (.lload_n 1, 1) := by decide +kernel
theorem dX9_mul_1 : decode cX9_mul 1 = .ok (.lconst 0, 1) := by decide +kernel
theorem dX9_mul_2 : decode cX9_mul 2 = .ok (.lcmp, 1) := by decide +kernel
theorem dX9_mul_3 : decode cX9_mul 3 = .ok (.ifCond .eq 9, 3) := by decide +kernel
theorem dX9_mul_6 : decode cX9_mul 6 = .ok (.lload_n 3, 1) := by decide +kernel
theorem dX9_mul_7 : decode cX9_mul 7 = .ok (.lconst 0, 1) := by decide +kernel
theorem dX9_mul_8 : decode cX9_mul 8 = .ok (.lcmp, 1) := by decide +kernel
theorem dX9_mul_9 : decode cX9_mul 9 = .ok (.ifCond .ne 5, 3) := by decide +kernel
theorem dX9_mul_12 : decode cX9_mul 12 = .ok (.lconst 0, 1) := by decide +kernel
theorem dX9_mul_13 : decode cX9_mul 13 = .ok (.lreturn, 1) := by decide +kernel
theorem dX9_mul_14 : decode cX9_mul 14 = .ok (.lload_n 1, 1) := by decide +kernel
theorem dX9_mul_15 : decode cX9_mul 15 = .ok (.invokestatic 63, 3) := by decide +kernel
theorem dX9_mul_18 : decode cX9_mul 18 = .ok (.ldc2_w 67, 3) := by decide +kernel
theorem dX9_mul_21 : decode cX9_mul 21 = .ok (.lcmp, 1) := by decide +kernel
theorem dX9_mul_22 : decode cX9_mul 22 = .ok (.ifCond .gt 30, 3) := by decide +kernel
theorem dX9_mul_25 : decode cX9_mul 25 = .ok (.lload_n 3, 1) := by decide +kernel
theorem dX9_mul_26 : decode cX9_mul 26 = .ok (.invokestatic 63, 3) := by decide +kernel
theorem dX9_mul_29 : decode cX9_mul 29 = .ok (.ldc2_w 67, 3) := by decide +kernel
theorem dX9_mul_32 : decode cX9_mul 32 = .ok (.lcmp, 1) := by decide +kernel
theorem dX9_mul_33 : decode cX9_mul 33 = .ok (.ifCond .gt 19, 3) := by decide +kernel
theorem dX9_mul_36 : decode cX9_mul 36 = .ok (.lload_n 1, 1) := by decide +kernel
theorem dX9_mul_37 : decode cX9_mul 37 = .ok (.invokestatic 63, 3) := by decide +kernel
theorem dX9_mul_40 : decode cX9_mul 40 = .ok (.ldc2_w 67, 3) := by decide +kernel
theorem dX9_mul_43 : decode cX9_mul 43 = .ok (.lload_n 3, 1) := by decide +kernel
theorem dX9_mul_44 : decode cX9_mul 44 = .ok (.invokestatic 63, 3) := by decide +kernel
theorem dX9_mul_47 : decode cX9_mul 47 = .ok (.ldiv, 1) := by decide +kernel
theorem dX9_mul_48 : decode cX9_mul 48 = .ok (.lcmp, 1) := by decide +kernel
theorem dX9_mul_49 : decode cX9_mul 49 = .ok (.ifCond .le 10, 3) := by decide +kernel
theorem dX9_mul_52 : decode cX9_mul 52 = .ok (.aload_n 0, 1) := by decide +kernel
theorem dX9_mul_53 : decode cX9_mul 53 = .ok (.iconst 1, 1) := by decide +kernel
theorem dX9_mul_54 : decode cX9_mul 54 = .ok (.putfield 69, 3) := by decide +kernel
theorem dX9_mul_57 : decode cX9_mul 57 = .ok (.lconst 0, 1) := by decide +kernel
theorem dX9_mul_58 : decode cX9_mul 58 = .ok (.lreturn, 1) := by decide +kernel
theorem dX9_mul_59 : decode cX9_mul 59 = .ok (.lload_n 1, 1) := by decide +kernel
theorem dX9_mul_60 : decode cX9_mul 60 = .ok (.lload_n 3, 1) := by decide +kernel
theorem dX9_mul_61 : decode cX9_mul 61 = .ok (.lmul, 1) := by decide +kernel
theorem dX9_mul_62 : decode cX9_mul 62 = .ok (.lreturn, 1) := by decide +kernel
theorem dX9_add_0 : decode cX9_add 0 = .ok (.lload_n 1, 1) := by decide +kernel
theorem dX9_add_1 : decode cX9_add 1 = .ok (.lload_n 3, 1) := by decide +kernel
theorem dX9_add_2 : decode cX9_add 2 = .ok (.ladd, 1) := by decide +kernel
theorem dX9_add_3 : decode cX9_add 3 = .ok (.lstore 5, 2) := by decide +kernel
theorem dX9_add_5 : decode cX9_add 5 = .ok (.aload_n 0, 1) := by decide +kernel
theorem dX9_add_6 : decode cX9_add 6 = .ok (.aload_n 0, 1) := by decide +kernel
theorem dX9_add_7 : decode cX9_add 7 = .ok (.getfield 69, 3) := by decide +kernel
theorem dX9_add_10 : decode cX9_add 10 = .ok (.ifCond .ne 15, 3) := by decide +kernel
theorem dX9_add_13 : decode cX9_add 13 = .ok (.lload 5, 2) := by decide +kernel
theorem dX9_add_15 : decode cX9_add 15 = .ok (.invokestatic 63, 3) := by decide +kernel
theorem dX9_add_18 : decode cX9_add 18 = .ok (.ldc2_w 67, 3) := by decide +kernel
theorem dX9_add_21 : decode cX9_add 21 = .ok (.lcmp, 1) := by decide +kernel
theorem dX9_add_22 : decode cX9_add 22 = .ok (.ifCond .le 7, 3) := by decide +kernel
theorem dX9_add_25 : decode cX9_add 25 = .ok (.iconst 1, 1) := by decide +kernel
theorem dX9_add_26 : decode cX9_add 26 = .ok (.goto 4, 3) := by decide +kernel
theorem dX9_add_29 : decode cX9_add 29 = .ok (.iconst 0, 1) := by decide +kernel
theorem dX9_add_30 : decode cX9_add 30 = .ok (.putfield 69, 3) := by decide +kernel
theorem dX9_add_33 : decode cX9_add 33 = .ok (.aload_n 0, 1) := by decide +kernel
theorem dX9_add_34 : decode cX9_add 34 = .ok (.getfield 69, 3) := by decide +kernel
theorem dX9_add_37 : decode cX9_add 37 = .ok (.ifCond .eq 7, 3) := by decide +kernel
theorem dX9_add_40 : decode cX9_add 40 = .ok (.lconst 0, 1) := by decide +kernel
theorem dX9_add_41 : decode cX9_add 41 = .ok (.goto 5, 3) := by decide +kernel
theorem dX9_add_44 : decode cX9_add 44 = .ok (.lload 5, 2) := by decide +kernel
theorem dX9_add_46 : decode cX9_add 46 = .ok (.lreturn, 1) := by decide +kernel
theorem dX9_newStream_0 : decode cX9_newStream 0 = .ok (.iconst 0, 1) := by decide +kernel
theorem dX9_newStream_1 : decode cX9_newStream 1 = .ok (.istore_n 2, 1) := by decide +kernel
theorem dX9_newStream_2 : decode cX9_newStream 2 = .ok (.aload_n 0, 1) := by decide +kernel
theorem dX9_newStream_3 : decode cX9_newStream 3 = .ok (.getfield 7, 3) := by decide +kernel
theorem dX9_newStream_6 : decode cX9_newStream 6 = .ok (.iload_n 2, 1) := by decide +kernel
theorem dX9_newStream_7 : decode cX9_newStream 7 = .ok (.baload, 1) := by decide +kernel
theorem dX9_newStream_8 : decode cX9_newStream 8 = .ok (.ifCond .eq 9, 3) := by decide +kernel
theorem dX9_newStream_11 : decode cX9_newStream 11 = .ok (.iinc 2 1, 3) := by decide +kernel
theorem dX9_newStream_14 : decode cX9_newStream 14 = .ok (.goto (-12), 3) := by decide +kernel
theorem dX9_newStream_17 : decode cX9_newStream 17 = .ok (.aload_n 0, 1) := by decide +kernel
theorem dX9_newStream_18 : decode cX9_newStream 18 = .ok (.getfield 7, 3) := by decide +kernel
theorem dX9_newStream_21 : decode cX9_newStream 21 = .ok (.iload_n 2, 1) := by decide +kernel
theorem dX9_newStream_22 : decode cX9_newStream 22 = .ok (.iconst 1, 1) := by decide +kernel
theorem dX9_newStream_23 : decode cX9_newStream 23 = .ok (.bastore, 1) := by decide +kernel
theorem dX9_newStream_24 : decode cX9_newStream 24 = .ok (.aload_n 0, 1) := by decide +kernel
theorem dX9_newStream_25 : decode cX9_newStream 25 = .ok (.getfield 13, 3) := by decide +kernel
theorem dX9_newStream_28 : decode cX9_newStream 28 = .ok (.iload_n 2, 1) := by decide +kernel
theorem dX9_newStream_29 : decode cX9_newStream 29 = .ok (.iload_n 1, 1) := by decide +kernel
theorem dX9_newStream_30 : decode cX9_newStream 30 = .ok (.iastore, 1) := by decide +kernel
theorem dX9_newStream_31 : decode cX9_newStream 31 = .ok (.aload_n 0, 1) := by decide +kernel
theorem dX9_newStream_32 : decode cX9_newStream 32 = .ok (.getfield 17, 3) := by decide +kernel
theorem dX9_newStream_35 : decode cX9_newStream 35 = .ok (.iload_n 2, 1) := by decide +kernel
theorem dX9_newStream_36 : decode cX9_newStream 36 = .ok (.iconst 0, 1) := by decide +kernel
theorem dX9_newStream_37 : decode cX9_newStream 37 = .ok (.iastore, 1) := by decide +kernel
theorem dX9_newStream_38 : decode cX9_newStream 38 = .ok (.aload_n 0, 1) := by decide +kernel
theorem dX9_newStream_39 : decode cX9_newStream 39 = .ok (.getfield 20, 3) := by decide +kernel
theorem dX9_newStream_42 : decode cX9_newStream 42 = .ok (.iload_n 2, 1) := by decide +kernel
theorem dX9_newStream_43 : decode cX9_newStream 43 = .ok (.iconst 0, 1) := by decide +kernel
theorem dX9_newStream_44 : decode cX9_newStream 44 = .ok (.bastore, 1) := by decide +kernel
theorem dX9_newStream_45 : decode cX9_newStream 45 = .ok (.aload_n 0, 1) := by decide +kernel
theorem dX9_newStream_46 : decode cX9_newStream 46 = .ok (.getfield 27, 3) := by decide +kernel
theorem dX9_newStream_49 : decode cX9_newStream 49 = .ok (.iload_n 2, 1) := by decide +kernel
theorem dX9_newStream_50 : decode cX9_newStream 50 = .ok (.iconst 0, 1) := by decide +kernel
theorem dX9_newStream_51 : decode cX9_newStream 51 = .ok (.iastore, 1) := by decide +kernel
theorem dX9_newStream_52 : decode cX9_newStream 52 = .ok (.aload_n 0, 1) := by decide +kernel
theorem dX9_newStream_53 : decode cX9_newStream 53 = .ok (.dup, 1) := by decide +kernel
theorem dX9_newStream_54 : decode cX9_newStream 54 = .ok (.getfield 79, 3) := by decide +kernel
theorem dX9_newStream_57 : decode cX9_newStream 57 = .ok (.iconst 1, 1) := by decide +kernel
theorem dX9_newStream_58 : decode cX9_newStream 58 = .ok (.iadd, 1) := by decide +kernel
theorem dX9_newStream_59 : decode cX9_newStream 59 = .ok (.putfield 79, 3) := by decide +kernel
theorem dX9_newStream_62 : decode cX9_newStream 62 = .ok (.iload_n 2, 1) := by decide +kernel
theorem dX9_newStream_63 : decode cX9_newStream 63 = .ok (.ireturn, 1) := by decide +kernel
theorem dX9_give_0 : decode cX9_give 0 = .ok (.aload_n 0, 1) := by decide +kernel
theorem dX9_give_1 : decode cX9_give 1 = .ok (.getfield 23, 3) := by decide +kernel
theorem dX9_give_4 : decode cX9_give 4 = .ok (.bipush 60, 2) := by decide +kernel
theorem dX9_give_6 : decode cX9_give 6 = .ok (.iload_n 1, 1) := by decide +kernel
theorem dX9_give_7 : decode cX9_give 7 = .ok (.imul, 1) := by decide +kernel
theorem dX9_give_8 : decode cX9_give 8 = .ok (.aload_n 0, 1) := by decide +kernel
theorem dX9_give_9 : decode cX9_give 9 = .ok (.getfield 17, 3) := by decide +kernel
theorem dX9_give_12 : decode cX9_give 12 = .ok (.iload_n 1, 1) := by decide +kernel
theorem dX9_give_13 : decode cX9_give 13 = .ok (.iaload, 1) := by decide +kernel
theorem dX9_give_14 : decode cX9_give 14 = .ok (.iadd, 1) := by decide +kernel
theorem dX9_give_15 : decode cX9_give 15 = .ok (.lload_n 2, 1) := by decide +kernel
theorem dX9_give_16 : decode cX9_give 16 = .ok (.lastore, 1) := by decide +kernel
theorem dX9_give_17 : decode cX9_give 17 = .ok (.aload_n 0, 1) := by decide +kernel
theorem dX9_give_18 : decode cX9_give 18 = .ok (.getfield 17, 3) := by decide +kernel
theorem dX9_give_21 : decode cX9_give 21 = .ok (.iload_n 1, 1) := by decide +kernel
theorem dX9_give_22 : decode cX9_give 22 = .ok (.dup2, 1) := by decide +kernel
theorem dX9_give_23 : decode cX9_give 23 = .ok (.iaload, 1) := by decide +kernel
theorem dX9_give_24 : decode cX9_give 24 = .ok (.iconst 1, 1) := by decide +kernel
theorem dX9_give_25 : decode cX9_give 25 = .ok (.iadd, 1) := by decide +kernel
theorem dX9_give_26 : decode cX9_give 26 = .ok (.iastore, 1) := by decide +kernel
theorem dX9_give_27 : decode cX9_give 27 = .ok (.return_, 1) := by decide +kernel
theorem dX9_newRatio_0 : decode cX9_newRatio 0 = .ok (.aload_n 0, 1) := by decide +kernel
theorem dX9_newRatio_1 : decode cX9_newRatio 1 = .ok (.iconst 0, 1) := by decide +kernel
theorem dX9_newRatio_2 : decode cX9_newRatio 2 = .ok (.invokevirtual 83, 3) := by decide +kernel
theorem dX9_newRatio_5 : decode cX9_newRatio 5 = .ok (.istore 5, 2) := by decide +kernel
theorem dX9_newRatio_7 : decode cX9_newRatio 7 = .ok (.lload_n 1, 1) := by decide +kernel
theorem dX9_newRatio_8 : decode cX9_newRatio 8 = .ok (.lload_n 3, 1) := by decide +kernel
theorem dX9_newRatio_9 : decode cX9_newRatio 9 = .ok (.invokestatic 87, 3) := by decide +kernel
theorem dX9_newRatio_12 : decode cX9_newRatio 12 = .ok (.lstore 6, 2) := by decide +kernel
theorem dX9_newRatio_14 : decode cX9_newRatio 14 = .ok (.lload_n 3, 1) := by decide +kernel
theorem dX9_newRatio_15 : decode cX9_newRatio 15 = .ok (.lconst 0, 1) := by decide +kernel
theorem dX9_newRatio_16 : decode cX9_newRatio 16 = .ok (.lcmp, 1) := by decide +kernel
theorem dX9_newRatio_17 : decode cX9_newRatio 17 = .ok (.ifCond .ge 9, 3) := by decide +kernel
theorem dX9_newRatio_20 : decode cX9_newRatio 20 = .ok (.lload 6, 2) := by decide +kernel
theorem dX9_newRatio_22 : decode cX9_newRatio 22 = .ok (.lneg, 1) := by decide +kernel
theorem dX9_newRatio_23 : decode cX9_newRatio 23 = .ok (.goto 5, 3) := by decide +kernel
theorem dX9_newRatio_26 : decode cX9_newRatio 26 = .ok (.lload 6, 2) := by decide +kernel
theorem dX9_newRatio_28 : decode cX9_newRatio 28 = .ok (.lstore 6, 2) := by decide +kernel
theorem dX9_newRatio_30 : decode cX9_newRatio 30 = .ok (.aload_n 0, 1) := by decide +kernel
theorem dX9_newRatio_31 : decode cX9_newRatio 31 = .ok (.getfield 30, 3) := by decide +kernel
theorem dX9_newRatio_34 : decode cX9_newRatio 34 = .ok (.iconst 4, 1) := by decide +kernel
theorem dX9_newRatio_35 : decode cX9_newRatio 35 = .ok (.iload 5, 2) := by decide +kernel
theorem dX9_newRatio_37 : decode cX9_newRatio 37 = .ok (.imul, 1) := by decide +kernel
theorem dX9_newRatio_38 : decode cX9_newRatio 38 = .ok (.lload_n 1, 1) := by decide +kernel
theorem dX9_newRatio_39 : decode cX9_newRatio 39 = .ok (.lload 6, 2) := by decide +kernel
theorem dX9_newRatio_41 : decode cX9_newRatio 41 = .ok (.ldiv, 1) := by decide +kernel
theorem dX9_newRatio_42 : decode cX9_newRatio 42 = .ok (.lastore, 1) := by decide +kernel
theorem dX9_newRatio_43 : decode cX9_newRatio 43 = .ok (.aload_n 0, 1) := by decide +kernel
theorem dX9_newRatio_44 : decode cX9_newRatio 44 = .ok (.getfield 30, 3) := by decide +kernel
theorem dX9_newRatio_47 : decode cX9_newRatio 47 = .ok (.iconst 4, 1) := by decide +kernel
theorem dX9_newRatio_48 : decode cX9_newRatio 48 = .ok (.iload 5, 2) := by decide +kernel
theorem dX9_newRatio_50 : decode cX9_newRatio 50 = .ok (.imul, 1) := by decide +kernel
theorem dX9_newRatio_51 : decode cX9_newRatio 51 = .ok (.iconst 1, 1) := by decide +kernel
theorem dX9_newRatio_52 : decode cX9_newRatio 52 = .ok (.iadd, 1) := by decide +kernel
theorem dX9_newRatio_53 : decode cX9_newRatio 53 = .ok (.lload_n 3, 1) := by decide +kernel
theorem dX9_newRatio_54 : decode cX9_newRatio 54 = .ok (.lload 6, 2) := by decide +kernel
theorem dX9_newRatio_56 : decode cX9_newRatio 56 = .ok (.ldiv, 1) := by decide +kernel
theorem dX9_newRatio_57 : decode cX9_newRatio 57 = .ok (.lastore, 1) := by decide +kernel
theorem dX9_newRatio_58 : decode cX9_newRatio 58 = .ok (.lload_n 1, 1) := by decide +kernel
theorem dX9_newRatio_59 : decode cX9_newRatio 59 = .ok (.lload 6, 2) := by decide +kernel
theorem dX9_newRatio_61 : decode cX9_newRatio 61 = .ok (.ldiv, 1) := by decide +kernel
theorem dX9_newRatio_62 : decode cX9_newRatio 62 = .ok (.lstore 8, 2) := by decide +kernel
theorem dX9_newRatio_64 : decode cX9_newRatio 64 = .ok (.lload_n 3, 1) := by decide +kernel
theorem dX9_newRatio_65 : decode cX9_newRatio 65 = .ok (.lload 6, 2) := by decide +kernel
theorem dX9_newRatio_67 : decode cX9_newRatio 67 = .ok (.ldiv, 1) := by decide +kernel
theorem dX9_newRatio_68 : decode cX9_newRatio 68 = .ok (.lstore 10, 2) := by decide +kernel
theorem dX9_newRatio_70 : decode cX9_newRatio 70 = .ok (.lload 10, 2) := by decide +kernel
theorem dX9_newRatio_72 : decode cX9_newRatio 72 = .ok (.lconst 0, 1) := by decide +kernel
theorem dX9_newRatio_73 : decode cX9_newRatio 73 = .ok (.lcmp, 1) := by decide +kernel
theorem dX9_newRatio_74 : decode cX9_newRatio 74 = .ok (.ifCond .eq 53, 3) := by decide +kernel
theorem dX9_newRatio_77 : decode cX9_newRatio 77 = .ok (.aload_n 0, 1) := by decide +kernel
theorem dX9_newRatio_78 : decode cX9_newRatio 78 = .ok (.getfield 17, 3) := by decide +kernel
theorem dX9_newRatio_81 : decode cX9_newRatio 81 = .ok (.iload 5, 2) := by decide +kernel
theorem dX9_newRatio_83 : decode cX9_newRatio 83 = .ok (.iaload, 1) := by decide +kernel
theorem dX9_newRatio_84 : decode cX9_newRatio 84 = .ok (.bipush 60, 2) := by decide +kernel
theorem dX9_newRatio_86 : decode cX9_newRatio 86 = .ok (.if_icmp .ge 41, 3) := by decide +kernel
theorem dX9_newRatio_89 : decode cX9_newRatio 89 = .ok (.lload 8, 2) := by decide +kernel
theorem dX9_newRatio_91 : decode cX9_newRatio 91 = .ok (.lload 10, 2) := by decide +kernel
theorem dX9_newRatio_93 : decode cX9_newRatio 93 = .ok (.invokestatic 91, 3) := by decide +kernel
theorem dX9_newRatio_96 : decode cX9_newRatio 96 = .ok (.lstore 12, 2) := by decide +kernel
theorem dX9_newRatio_98 : decode cX9_newRatio 98 = .ok (.aload_n 0, 1) := by decide +kernel
theorem dX9_newRatio_99 : decode cX9_newRatio 99 = .ok (.iload 5, 2) := by decide +kernel
theorem dX9_newRatio_101 : decode cX9_newRatio 101 = .ok (.lload 12, 2) := by decide +kernel
theorem dX9_newRatio_103 : decode cX9_newRatio 103 = .ok (.invokevirtual 94, 3) := by decide +kernel
theorem dX9_newRatio_106 : decode cX9_newRatio 106 = .ok (.lload 8, 2) := by decide +kernel
theorem dX9_newRatio_108 : decode cX9_newRatio 108 = .ok (.lload 12, 2) := by decide +kernel
theorem dX9_newRatio_110 : decode cX9_newRatio 110 = .ok (.lload 10, 2) := by decide +kernel
theorem dX9_newRatio_112 : decode cX9_newRatio 112 = .ok (.lmul, 1) := by decide +kernel
theorem dX9_newRatio_113 : decode cX9_newRatio 113 = .ok (.lsub, 1) := by decide +kernel
theorem dX9_newRatio_114 : decode cX9_newRatio 114 = .ok (.lstore 14, 2) := by decide +kernel
theorem dX9_newRatio_116 : decode cX9_newRatio 116 = .ok (.lload 10, 2) := by decide +kernel
theorem dX9_newRatio_118 : decode cX9_newRatio 118 = .ok (.lstore 8, 2) := by decide +kernel
theorem dX9_newRatio_120 : decode cX9_newRatio 120 = .ok (.lload 14, 2) := by decide +kernel
theorem dX9_newRatio_122 : decode cX9_newRatio 122 = .ok (.lstore 10, 2) := by decide +kernel
theorem dX9_newRatio_124 : decode cX9_newRatio 124 = .ok (.goto (-54), 3) := by decide +kernel
theorem dX9_newRatio_127 : decode cX9_newRatio 127 = .ok (.aload_n 0, 1) := by decide +kernel
theorem dX9_newRatio_128 : decode cX9_newRatio 128 = .ok (.getfield 20, 3) := by decide +kernel
theorem dX9_newRatio_131 : decode cX9_newRatio 131 = .ok (.iload 5, 2) := by decide +kernel
theorem dX9_newRatio_133 : decode cX9_newRatio 133 = .ok (.lload 10, 2) := by decide +kernel
theorem dX9_newRatio_135 : decode cX9_newRatio 135 = .ok (.lconst 0, 1) := by decide +kernel
theorem dX9_newRatio_136 : decode cX9_newRatio 136 = .ok (.lcmp, 1) := by decide +kernel
theorem dX9_newRatio_137 : decode cX9_newRatio 137 = .ok (.ifCond .ne 7, 3) := by decide +kernel
theorem dX9_newRatio_140 : decode cX9_newRatio 140 = .ok (.iconst 1, 1) := by decide +kernel
theorem dX9_newRatio_141 : decode cX9_newRatio 141 = .ok (.goto 4, 3) := by decide +kernel
theorem dX9_newRatio_144 : decode cX9_newRatio 144 = .ok (.iconst 0, 1) := by decide +kernel
theorem dX9_newRatio_145 : decode cX9_newRatio 145 = .ok (.bastore, 1) := by decide +kernel
theorem dX9_newRatio_146 : decode cX9_newRatio 146 = .ok (.iload 5, 2) := by decide +kernel
theorem dX9_newRatio_148 : decode cX9_newRatio 148 = .ok (.ireturn, 1) := by decide +kernel
theorem dX9_rootOf_0 : decode cX9_rootOf 0 = .ok (.lconst 0, 1) := by decide +kernel
theorem dX9_rootOf_1 : decode cX9_rootOf 1 = .ok (.lstore_n 2, 1) := by decide +kernel
theorem dX9_rootOf_2 : decode cX9_rootOf 2 = .ok (.ldc2_w 98, 3) := by decide +kernel
theorem dX9_rootOf_5 : decode cX9_rootOf 5 = .ok (.lstore 4, 2) := by decide +kernel
theorem dX9_rootOf_7 : decode cX9_rootOf 7 = .ok (.lload 4, 2) := by decide +kernel
theorem dX9_rootOf_9 : decode cX9_rootOf 9 = .ok (.lconst 0, 1) := by decide +kernel
theorem dX9_rootOf_10 : decode cX9_rootOf 10 = .ok (.lcmp, 1) := by decide +kernel
theorem dX9_rootOf_11 : decode cX9_rootOf 11 = .ok (.ifCond .le 46, 3) := by decide +kernel
theorem dX9_rootOf_14 : decode cX9_rootOf 14 = .ok (.lload_n 2, 1) := by decide +kernel
theorem dX9_rootOf_15 : decode cX9_rootOf 15 = .ok (.lload 4, 2) := by decide +kernel
theorem dX9_rootOf_17 : decode cX9_rootOf 17 = .ok (.ladd, 1) := by decide +kernel
theorem dX9_rootOf_18 : decode cX9_rootOf 18 = .ok (.lstore 6, 2) := by decide +kernel
theorem dX9_rootOf_20 : decode cX9_rootOf 20 = .ok (.lload 6, 2) := by decide +kernel
theorem dX9_rootOf_22 : decode cX9_rootOf 22 = .ok (.ldc2_w 100, 3) := by decide +kernel
theorem dX9_rootOf_25 : decode cX9_rootOf 25 = .ok (.lcmp, 1) := by decide +kernel
theorem dX9_rootOf_26 : decode cX9_rootOf 26 = .ok (.ifCond .gt 18, 3) := by decide +kernel
theorem dX9_rootOf_29 : decode cX9_rootOf 29 = .ok (.lload 6, 2) := by decide +kernel
theorem dX9_rootOf_31 : decode cX9_rootOf 31 = .ok (.lload 6, 2) := by decide +kernel
theorem dX9_rootOf_33 : decode cX9_rootOf 33 = .ok (.lmul, 1) := by decide +kernel
theorem dX9_rootOf_34 : decode cX9_rootOf 34 = .ok (.lload_n 0, 1) := by decide +kernel
theorem dX9_rootOf_35 : decode cX9_rootOf 35 = .ok (.lcmp, 1) := by decide +kernel
theorem dX9_rootOf_36 : decode cX9_rootOf 36 = .ok (.ifCond .gt 8, 3) := by decide +kernel
theorem dX9_rootOf_39 : decode cX9_rootOf 39 = .ok (.lload 6, 2) := by decide +kernel
theorem dX9_rootOf_41 : decode cX9_rootOf 41 = .ok (.goto 4, 3) := by decide +kernel
theorem dX9_rootOf_44 : decode cX9_rootOf 44 = .ok (.lload_n 2, 1) := by decide +kernel
theorem dX9_rootOf_45 : decode cX9_rootOf 45 = .ok (.lstore_n 2, 1) := by decide +kernel
theorem dX9_rootOf_46 : decode cX9_rootOf 46 = .ok (.lload 4, 2) := by decide +kernel
theorem dX9_rootOf_48 : decode cX9_rootOf 48 = .ok (.ldc2_w 102, 3) := by decide +kernel
theorem dX9_rootOf_51 : decode cX9_rootOf 51 = .ok (.ldiv, 1) := by decide +kernel
theorem dX9_rootOf_52 : decode cX9_rootOf 52 = .ok (.lstore 4, 2) := by decide +kernel
theorem dX9_rootOf_54 : decode cX9_rootOf 54 = .ok (.goto (-47), 3) := by decide +kernel
theorem dX9_rootOf_57 : decode cX9_rootOf 57 = .ok (.lload_n 2, 1) := by decide +kernel
theorem dX9_rootOf_58 : decode cX9_rootOf 58 = .ok (.lreturn, 1) := by decide +kernel
theorem dX9_newRoot_0 : decode cX9_newRoot 0 = .ok (.aload_n 0, 1) := by decide +kernel
theorem dX9_newRoot_1 : decode cX9_newRoot 1 = .ok (.iconst 1, 1) := by decide +kernel
theorem dX9_newRoot_2 : decode cX9_newRoot 2 = .ok (.invokevirtual 83, 3) := by decide +kernel
theorem dX9_newRoot_5 : decode cX9_newRoot 5 = .ok (.istore 9, 2) := by decide +kernel
theorem dX9_newRoot_7 : decode cX9_newRoot 7 = .ok (.aload_n 0, 1) := by decide +kernel
theorem dX9_newRoot_8 : decode cX9_newRoot 8 = .ok (.getfield 30, 3) := by decide +kernel
theorem dX9_newRoot_11 : decode cX9_newRoot 11 = .ok (.iconst 4, 1) := by decide +kernel
theorem dX9_newRoot_12 : decode cX9_newRoot 12 = .ok (.iload 9, 2) := by decide +kernel
theorem dX9_newRoot_14 : decode cX9_newRoot 14 = .ok (.imul, 1) := by decide +kernel
theorem dX9_newRoot_15 : decode cX9_newRoot 15 = .ok (.lload_n 1, 1) := by decide +kernel
theorem dX9_newRoot_16 : decode cX9_newRoot 16 = .ok (.lastore, 1) := by decide +kernel
theorem dX9_newRoot_17 : decode cX9_newRoot 17 = .ok (.aload_n 0, 1) := by decide +kernel
theorem dX9_newRoot_18 : decode cX9_newRoot 18 = .ok (.getfield 30, 3) := by decide +kernel
theorem dX9_newRoot_21 : decode cX9_newRoot 21 = .ok (.iconst 4, 1) := by decide +kernel
theorem dX9_newRoot_22 : decode cX9_newRoot 22 = .ok (.iload 9, 2) := by decide +kernel
theorem dX9_newRoot_24 : decode cX9_newRoot 24 = .ok (.imul, 1) := by decide +kernel
theorem dX9_newRoot_25 : decode cX9_newRoot 25 = .ok (.iconst 1, 1) := by decide +kernel
theorem dX9_newRoot_26 : decode cX9_newRoot 26 = .ok (.iadd, 1) := by decide +kernel
theorem dX9_newRoot_27 : decode cX9_newRoot 27 = .ok (.lload_n 3, 1) := by decide +kernel
theorem dX9_newRoot_28 : decode cX9_newRoot 28 = .ok (.lastore, 1) := by decide +kernel
theorem dX9_newRoot_29 : decode cX9_newRoot 29 = .ok (.aload_n 0, 1) := by decide +kernel
theorem dX9_newRoot_30 : decode cX9_newRoot 30 = .ok (.getfield 30, 3) := by decide +kernel
theorem dX9_newRoot_33 : decode cX9_newRoot 33 = .ok (.iconst 4, 1) := by decide +kernel
theorem dX9_newRoot_34 : decode cX9_newRoot 34 = .ok (.iload 9, 2) := by decide +kernel
theorem dX9_newRoot_36 : decode cX9_newRoot 36 = .ok (.imul, 1) := by decide +kernel
theorem dX9_newRoot_37 : decode cX9_newRoot 37 = .ok (.iconst 2, 1) := by decide +kernel
theorem dX9_newRoot_38 : decode cX9_newRoot 38 = .ok (.iadd, 1) := by decide +kernel
theorem dX9_newRoot_39 : decode cX9_newRoot 39 = .ok (.lload 5, 2) := by decide +kernel
theorem dX9_newRoot_41 : decode cX9_newRoot 41 = .ok (.lastore, 1) := by decide +kernel
theorem dX9_newRoot_42 : decode cX9_newRoot 42 = .ok (.aload_n 0, 1) := by decide +kernel
theorem dX9_newRoot_43 : decode cX9_newRoot 43 = .ok (.getfield 30, 3) := by decide +kernel
theorem dX9_newRoot_46 : decode cX9_newRoot 46 = .ok (.iconst 4, 1) := by decide +kernel
theorem dX9_newRoot_47 : decode cX9_newRoot 47 = .ok (.iload 9, 2) := by decide +kernel
theorem dX9_newRoot_49 : decode cX9_newRoot 49 = .ok (.imul, 1) := by decide +kernel
theorem dX9_newRoot_50 : decode cX9_newRoot 50 = .ok (.iconst 3, 1) := by decide +kernel
theorem dX9_newRoot_51 : decode cX9_newRoot 51 = .ok (.iadd, 1) := by decide +kernel
theorem dX9_newRoot_52 : decode cX9_newRoot 52 = .ok (.lload 7, 2) := by decide +kernel
theorem dX9_newRoot_54 : decode cX9_newRoot 54 = .ok (.lastore, 1) := by decide +kernel
theorem dX9_newRoot_55 : decode cX9_newRoot 55 = .ok (.lload_n 3, 1) := by decide +kernel
theorem dX9_newRoot_56 : decode cX9_newRoot 56 = .ok (.lload_n 3, 1) := by decide +kernel
theorem dX9_newRoot_57 : decode cX9_newRoot 57 = .ok (.lmul, 1) := by decide +kernel
theorem dX9_newRoot_58 : decode cX9_newRoot 58 = .ok (.lload 5, 2) := by decide +kernel
theorem dX9_newRoot_60 : decode cX9_newRoot 60 = .ok (.lmul, 1) := by decide +kernel
theorem dX9_newRoot_61 : decode cX9_newRoot 61 = .ok (.lload 7, 2) := by decide +kernel
theorem dX9_newRoot_63 : decode cX9_newRoot 63 = .ok (.lmul, 1) := by decide +kernel
theorem dX9_newRoot_64 : decode cX9_newRoot 64 = .ok (.lload 7, 2) := by decide +kernel
theorem dX9_newRoot_66 : decode cX9_newRoot 66 = .ok (.lmul, 1) := by decide +kernel
theorem dX9_newRoot_67 : decode cX9_newRoot 67 = .ok (.lstore 10, 2) := by decide +kernel
theorem dX9_newRoot_69 : decode cX9_newRoot 69 = .ok (.lload 10, 2) := by decide +kernel
theorem dX9_newRoot_71 : decode cX9_newRoot 71 = .ok (.invokestatic 104, 3) := by decide +kernel
theorem dX9_newRoot_74 : decode cX9_newRoot 74 = .ok (.lstore 12, 2) := by decide +kernel
theorem dX9_newRoot_76 : decode cX9_newRoot 76 = .ok (.lload_n 3, 1) := by decide +kernel
theorem dX9_newRoot_77 : decode cX9_newRoot 77 = .ok (.lconst 0, 1) := by decide +kernel
theorem dX9_newRoot_78 : decode cX9_newRoot 78 = .ok (.lcmp, 1) := by decide +kernel
theorem dX9_newRoot_79 : decode cX9_newRoot 79 = .ok (.ifCond .ge 11, 3) := by decide +kernel
theorem dX9_newRoot_82 : decode cX9_newRoot 82 = .ok (.lload_n 1, 1) := by decide +kernel
theorem dX9_newRoot_83 : decode cX9_newRoot 83 = .ok (.lneg, 1) := by decide +kernel
theorem dX9_newRoot_84 : decode cX9_newRoot 84 = .ok (.lload 7, 2) := by decide +kernel
theorem dX9_newRoot_86 : decode cX9_newRoot 86 = .ok (.lmul, 1) := by decide +kernel
theorem dX9_newRoot_87 : decode cX9_newRoot 87 = .ok (.goto 7, 3) := by decide +kernel
theorem dX9_newRoot_90 : decode cX9_newRoot 90 = .ok (.lload_n 1, 1) := by decide +kernel
theorem dX9_newRoot_91 : decode cX9_newRoot 91 = .ok (.lload 7, 2) := by decide +kernel
theorem dX9_newRoot_93 : decode cX9_newRoot 93 = .ok (.lmul, 1) := by decide +kernel
theorem dX9_newRoot_94 : decode cX9_newRoot 94 = .ok (.lstore 14, 2) := by decide +kernel
theorem dX9_newRoot_96 : decode cX9_newRoot 96 = .ok (.lload_n 3, 1) := by decide +kernel
theorem dX9_newRoot_97 : decode cX9_newRoot 97 = .ok (.lconst 0, 1) := by decide +kernel
theorem dX9_newRoot_98 : decode cX9_newRoot 98 = .ok (.lcmp, 1) := by decide +kernel
theorem dX9_newRoot_99 : decode cX9_newRoot 99 = .ok (.ifCond .ge 12, 3) := by decide +kernel
theorem dX9_newRoot_102 : decode cX9_newRoot 102 = .ok (.lload 7, 2) := by decide +kernel
theorem dX9_newRoot_104 : decode cX9_newRoot 104 = .ok (.lneg, 1) := by decide +kernel
theorem dX9_newRoot_105 : decode cX9_newRoot 105 = .ok (.lload 7, 2) := by decide +kernel
theorem dX9_newRoot_107 : decode cX9_newRoot 107 = .ok (.lmul, 1) := by decide +kernel
theorem dX9_newRoot_108 : decode cX9_newRoot 108 = .ok (.goto 8, 3) := by decide +kernel
theorem dX9_newRoot_111 : decode cX9_newRoot 111 = .ok (.lload 7, 2) := by decide +kernel
theorem dX9_newRoot_113 : decode cX9_newRoot 113 = .ok (.lload 7, 2) := by decide +kernel
theorem dX9_newRoot_115 : decode cX9_newRoot 115 = .ok (.lmul, 1) := by decide +kernel
theorem dX9_newRoot_116 : decode cX9_newRoot 116 = .ok (.lstore 16, 2) := by decide +kernel
theorem dX9_newRoot_118 : decode cX9_newRoot 118 = .ok (.iconst 0, 1) := by decide +kernel
theorem dX9_newRoot_119 : decode cX9_newRoot 119 = .ok (.istore 18, 2) := by decide +kernel
theorem dX9_newRoot_121 : decode cX9_newRoot 121 = .ok (.iload 18, 2) := by decide +kernel
theorem dX9_newRoot_123 : decode cX9_newRoot 123 = .ok (.bipush 60, 2) := by decide +kernel
theorem dX9_newRoot_125 : decode cX9_newRoot 125 = .ok (.if_icmp .gt 113, 3) := by decide +kernel
theorem dX9_newRoot_128 : decode cX9_newRoot 128 = .ok (.aload_n 0, 1) := by decide +kernel
theorem dX9_newRoot_129 : decode cX9_newRoot 129 = .ok (.getfield 33, 3) := by decide +kernel
theorem dX9_newRoot_132 : decode cX9_newRoot 132 = .ok (.bipush 61, 2) := by decide +kernel
theorem dX9_newRoot_134 : decode cX9_newRoot 134 = .ok (.iload 9, 2) := by decide +kernel
theorem dX9_newRoot_136 : decode cX9_newRoot 136 = .ok (.imul, 1) := by decide +kernel
theorem dX9_newRoot_137 : decode cX9_newRoot 137 = .ok (.iload 18, 2) := by decide +kernel
theorem dX9_newRoot_139 : decode cX9_newRoot 139 = .ok (.iadd, 1) := by decide +kernel
theorem dX9_newRoot_140 : decode cX9_newRoot 140 = .ok (.lload 14, 2) := by decide +kernel
theorem dX9_newRoot_142 : decode cX9_newRoot 142 = .ok (.lastore, 1) := by decide +kernel
theorem dX9_newRoot_143 : decode cX9_newRoot 143 = .ok (.aload_n 0, 1) := by decide +kernel
theorem dX9_newRoot_144 : decode cX9_newRoot 144 = .ok (.getfield 36, 3) := by decide +kernel
theorem dX9_newRoot_147 : decode cX9_newRoot 147 = .ok (.bipush 61, 2) := by decide +kernel
theorem dX9_newRoot_149 : decode cX9_newRoot 149 = .ok (.iload 9, 2) := by decide +kernel
theorem dX9_newRoot_151 : decode cX9_newRoot 151 = .ok (.imul, 1) := by decide +kernel
theorem dX9_newRoot_152 : decode cX9_newRoot 152 = .ok (.iload 18, 2) := by decide +kernel
theorem dX9_newRoot_154 : decode cX9_newRoot 154 = .ok (.iadd, 1) := by decide +kernel
theorem dX9_newRoot_155 : decode cX9_newRoot 155 = .ok (.lload 16, 2) := by decide +kernel
theorem dX9_newRoot_157 : decode cX9_newRoot 157 = .ok (.lastore, 1) := by decide +kernel
theorem dX9_newRoot_158 : decode cX9_newRoot 158 = .ok (.iload 18, 2) := by decide +kernel
theorem dX9_newRoot_160 : decode cX9_newRoot 160 = .ok (.bipush 60, 2) := by decide +kernel
theorem dX9_newRoot_162 : decode cX9_newRoot 162 = .ok (.if_icmp .ge 70, 3) := by decide +kernel
theorem dX9_newRoot_165 : decode cX9_newRoot 165 = .ok (.lload 16, 2) := by decide +kernel
theorem dX9_newRoot_167 : decode cX9_newRoot 167 = .ok (.lconst 0, 1) := by decide +kernel
theorem dX9_newRoot_168 : decode cX9_newRoot 168 = .ok (.lcmp, 1) := by decide +kernel
theorem dX9_newRoot_169 : decode cX9_newRoot 169 = .ok (.ifCond .le 16, 3) := by decide +kernel
theorem dX9_newRoot_172 : decode cX9_newRoot 172 = .ok (.lload 14, 2) := by decide +kernel
theorem dX9_newRoot_174 : decode cX9_newRoot 174 = .ok (.lload 12, 2) := by decide +kernel
theorem dX9_newRoot_176 : decode cX9_newRoot 176 = .ok (.ladd, 1) := by decide +kernel
theorem dX9_newRoot_177 : decode cX9_newRoot 177 = .ok (.lload 16, 2) := by decide +kernel
theorem dX9_newRoot_179 : decode cX9_newRoot 179 = .ok (.invokestatic 91, 3) := by decide +kernel
theorem dX9_newRoot_182 : decode cX9_newRoot 182 = .ok (.goto 17, 3) := by decide +kernel
theorem dX9_newRoot_185 : decode cX9_newRoot 185 = .ok (.lload 14, 2) := by decide +kernel
theorem dX9_newRoot_187 : decode cX9_newRoot 187 = .ok (.lneg, 1) := by decide +kernel
theorem dX9_newRoot_188 : decode cX9_newRoot 188 = .ok (.lload 12, 2) := by decide +kernel
theorem dX9_newRoot_190 : decode cX9_newRoot 190 = .ok (.lsub, 1) := by decide +kernel
theorem dX9_newRoot_191 : decode cX9_newRoot 191 = .ok (.lconst 1, 1) := by decide +kernel
theorem dX9_newRoot_192 : decode cX9_newRoot 192 = .ok (.lsub, 1) := by decide +kernel
theorem dX9_newRoot_193 : decode cX9_newRoot 193 = .ok (.lload 16, 2) := by decide +kernel
theorem dX9_newRoot_195 : decode cX9_newRoot 195 = .ok (.lneg, 1) := by decide +kernel
theorem dX9_newRoot_196 : decode cX9_newRoot 196 = .ok (.invokestatic 91, 3) := by decide +kernel
theorem dX9_newRoot_199 : decode cX9_newRoot 199 = .ok (.lstore 19, 2) := by decide +kernel
theorem dX9_newRoot_201 : decode cX9_newRoot 201 = .ok (.aload_n 0, 1) := by decide +kernel
theorem dX9_newRoot_202 : decode cX9_newRoot 202 = .ok (.iload 9, 2) := by decide +kernel
theorem dX9_newRoot_204 : decode cX9_newRoot 204 = .ok (.lload 19, 2) := by decide +kernel
theorem dX9_newRoot_206 : decode cX9_newRoot 206 = .ok (.invokevirtual 94, 3) := by decide +kernel
theorem dX9_newRoot_209 : decode cX9_newRoot 209 = .ok (.lload 19, 2) := by decide +kernel
theorem dX9_newRoot_211 : decode cX9_newRoot 211 = .ok (.lload 16, 2) := by decide +kernel
theorem dX9_newRoot_213 : decode cX9_newRoot 213 = .ok (.lmul, 1) := by decide +kernel
theorem dX9_newRoot_214 : decode cX9_newRoot 214 = .ok (.lload 14, 2) := by decide +kernel
theorem dX9_newRoot_216 : decode cX9_newRoot 216 = .ok (.lsub, 1) := by decide +kernel
theorem dX9_newRoot_217 : decode cX9_newRoot 217 = .ok (.lstore 14, 2) := by decide +kernel
theorem dX9_newRoot_219 : decode cX9_newRoot 219 = .ok (.lload 10, 2) := by decide +kernel
theorem dX9_newRoot_221 : decode cX9_newRoot 221 = .ok (.lload 14, 2) := by decide +kernel
theorem dX9_newRoot_223 : decode cX9_newRoot 223 = .ok (.lload 14, 2) := by decide +kernel
theorem dX9_newRoot_225 : decode cX9_newRoot 225 = .ok (.lmul, 1) := by decide +kernel
theorem dX9_newRoot_226 : decode cX9_newRoot 226 = .ok (.lsub, 1) := by decide +kernel
theorem dX9_newRoot_227 : decode cX9_newRoot 227 = .ok (.lload 16, 2) := by decide +kernel
theorem dX9_newRoot_229 : decode cX9_newRoot 229 = .ok (.ldiv, 1) := by decide +kernel
theorem dX9_newRoot_230 : decode cX9_newRoot 230 = .ok (.lstore 16, 2) := by decide +kernel
theorem dX9_newRoot_232 : decode cX9_newRoot 232 = .ok (.iinc 18 1, 3) := by decide +kernel
theorem dX9_newRoot_235 : decode cX9_newRoot 235 = .ok (.goto (-114), 3) := by decide +kernel
theorem dX9_newRoot_238 : decode cX9_newRoot 238 = .ok (.iload 9, 2) := by decide +kernel
theorem dX9_newRoot_240 : decode cX9_newRoot 240 = .ok (.ireturn, 1) := by decide +kernel
theorem dX9_exactly_0 : decode cX9_exactly 0 = .ok (.aload_n 0, 1) := by decide +kernel
theorem dX9_exactly_1 : decode cX9_exactly 1 = .ok (.iconst 0, 1) := by decide +kernel
theorem dX9_exactly_2 : decode cX9_exactly 2 = .ok (.putfield 69, 3) := by decide +kernel
theorem dX9_exactly_5 : decode cX9_exactly 5 = .ok (.aload_n 0, 1) := by decide +kernel
theorem dX9_exactly_6 : decode cX9_exactly 6 = .ok (.lload 14, 2) := by decide +kernel
theorem dX9_exactly_8 : decode cX9_exactly 8 = .ok (.putfield 145, 3) := by decide +kernel
theorem dX9_exactly_11 : decode cX9_exactly 11 = .ok (.iload_n 1, 1) := by decide +kernel
theorem dX9_exactly_12 : decode cX9_exactly 12 = .ok (.ifCond .eq 8, 3) := by decide +kernel
theorem dX9_exactly_15 : decode cX9_exactly 15 = .ok (.iload_n 1, 1) := by decide +kernel
theorem dX9_exactly_16 : decode cX9_exactly 16 = .ok (.iconst 1, 1) := by decide +kernel
theorem dX9_exactly_17 : decode cX9_exactly 17 = .ok (.if_icmp .ne 84, 3) := by decide +kernel
theorem dX9_exactly_20 : decode cX9_exactly 20 = .ok (.iload_n 1, 1) := by decide +kernel
theorem dX9_exactly_21 : decode cX9_exactly 21 = .ok (.ifCond .ne 7, 3) := by decide +kernel
theorem dX9_exactly_24 : decode cX9_exactly 24 = .ok (.lconst 1, 1) := by decide +kernel
theorem dX9_exactly_25 : decode cX9_exactly 25 = .ok (.goto 6, 3) := by decide +kernel
theorem dX9_exactly_28 : decode cX9_exactly 28 = .ok (.ldc2_w 149, 3) := by decide +kernel
theorem dX9_exactly_31 : decode cX9_exactly 31 = .ok (.lstore 17, 2) := by decide +kernel
theorem dX9_exactly_33 : decode cX9_exactly 33 = .ok (.aload_n 0, 1) := by decide +kernel
theorem dX9_exactly_34 : decode cX9_exactly 34 = .ok (.aload_n 0, 1) := by decide +kernel
theorem dX9_exactly_35 : decode cX9_exactly 35 = .ok (.aload_n 0, 1) := by decide +kernel
theorem dX9_exactly_36 : decode cX9_exactly 36 = .ok (.lload_n 2, 1) := by decide +kernel
theorem dX9_exactly_37 : decode cX9_exactly 37 = .ok (.lload 12, 2) := by decide +kernel
theorem dX9_exactly_39 : decode cX9_exactly 39 = .ok (.invokevirtual 151, 3) := by decide +kernel
theorem dX9_exactly_42 : decode cX9_exactly 42 = .ok (.lload 17, 2) := by decide +kernel
theorem dX9_exactly_44 : decode cX9_exactly 44 = .ok (.aload_n 0, 1) := by decide +kernel
theorem dX9_exactly_45 : decode cX9_exactly 45 = .ok (.lload 8, 2) := by decide +kernel
theorem dX9_exactly_47 : decode cX9_exactly 47 = .ok (.lload 6, 2) := by decide +kernel
theorem dX9_exactly_49 : decode cX9_exactly 49 = .ok (.invokevirtual 151, 3) := by decide +kernel
theorem dX9_exactly_52 : decode cX9_exactly 52 = .ok (.lmul, 1) := by decide +kernel
theorem dX9_exactly_53 : decode cX9_exactly 53 = .ok (.invokevirtual 154, 3) := by decide +kernel
theorem dX9_exactly_56 : decode cX9_exactly 56 = .ok (.putfield 157, 3) := by decide +kernel
theorem dX9_exactly_59 : decode cX9_exactly 59 = .ok (.aload_n 0, 1) := by decide +kernel
theorem dX9_exactly_60 : decode cX9_exactly 60 = .ok (.aload_n 0, 1) := by decide +kernel
theorem dX9_exactly_61 : decode cX9_exactly 61 = .ok (.aload_n 0, 1) := by decide +kernel
theorem dX9_exactly_62 : decode cX9_exactly 62 = .ok (.lload 4, 2) := by decide +kernel
theorem dX9_exactly_64 : decode cX9_exactly 64 = .ok (.lload 12, 2) := by decide +kernel
theorem dX9_exactly_66 : decode cX9_exactly 66 = .ok (.invokevirtual 151, 3) := by decide +kernel
theorem dX9_exactly_69 : decode cX9_exactly 69 = .ok (.lload 17, 2) := by decide +kernel
theorem dX9_exactly_71 : decode cX9_exactly 71 = .ok (.aload_n 0, 1) := by decide +kernel
theorem dX9_exactly_72 : decode cX9_exactly 72 = .ok (.lload 10, 2) := by decide +kernel
theorem dX9_exactly_74 : decode cX9_exactly 74 = .ok (.lload 6, 2) := by decide +kernel
theorem dX9_exactly_76 : decode cX9_exactly 76 = .ok (.invokevirtual 151, 3) := by decide +kernel
theorem dX9_exactly_79 : decode cX9_exactly 79 = .ok (.lmul, 1) := by decide +kernel
theorem dX9_exactly_80 : decode cX9_exactly 80 = .ok (.invokevirtual 154, 3) := by decide +kernel
theorem dX9_exactly_83 : decode cX9_exactly 83 = .ok (.putfield 160, 3) := by decide +kernel
theorem dX9_exactly_86 : decode cX9_exactly 86 = .ok (.aload_n 0, 1) := by decide +kernel
theorem dX9_exactly_87 : decode cX9_exactly 87 = .ok (.aload_n 0, 1) := by decide +kernel
theorem dX9_exactly_88 : decode cX9_exactly 88 = .ok (.lload 6, 2) := by decide +kernel
theorem dX9_exactly_90 : decode cX9_exactly 90 = .ok (.lload 12, 2) := by decide +kernel
theorem dX9_exactly_92 : decode cX9_exactly 92 = .ok (.invokevirtual 151, 3) := by decide +kernel
theorem dX9_exactly_95 : decode cX9_exactly 95 = .ok (.putfield 163, 3) := by decide +kernel
theorem dX9_exactly_98 : decode cX9_exactly 98 = .ok (.goto 221, 3) := by decide +kernel
theorem dX9_exactly_101 : decode cX9_exactly 101 = .ok (.iload_n 1, 1) := by decide +kernel
theorem dX9_exactly_102 : decode cX9_exactly 102 = .ok (.iconst 2, 1) := by decide +kernel
theorem dX9_exactly_103 : decode cX9_exactly 103 = .ok (.if_icmp .ne 70, 3) := by decide +kernel
theorem dX9_exactly_106 : decode cX9_exactly 106 = .ok (.aload_n 0, 1) := by decide +kernel
theorem dX9_exactly_107 : decode cX9_exactly 107 = .ok (.aload_n 0, 1) := by decide +kernel
theorem dX9_exactly_108 : decode cX9_exactly 108 = .ok (.aload_n 0, 1) := by decide +kernel
theorem dX9_exactly_109 : decode cX9_exactly 109 = .ok (.lload_n 2, 1) := by decide +kernel
theorem dX9_exactly_110 : decode cX9_exactly 110 = .ok (.lload 8, 2) := by decide +kernel
theorem dX9_exactly_112 : decode cX9_exactly 112 = .ok (.invokevirtual 151, 3) := by decide +kernel
theorem dX9_exactly_115 : decode cX9_exactly 115 = .ok (.aload_n 0, 1) := by decide +kernel
theorem dX9_exactly_116 : decode cX9_exactly 116 = .ok (.aload_n 0, 1) := by decide +kernel
theorem dX9_exactly_117 : decode cX9_exactly 117 = .ok (.lload 4, 2) := by decide +kernel
theorem dX9_exactly_119 : decode cX9_exactly 119 = .ok (.lload 10, 2) := by decide +kernel
theorem dX9_exactly_121 : decode cX9_exactly 121 = .ok (.invokevirtual 151, 3) := by decide +kernel
theorem dX9_exactly_124 : decode cX9_exactly 124 = .ok (.lload 14, 2) := by decide +kernel
theorem dX9_exactly_126 : decode cX9_exactly 126 = .ok (.invokevirtual 151, 3) := by decide +kernel
theorem dX9_exactly_129 : decode cX9_exactly 129 = .ok (.invokevirtual 154, 3) := by decide +kernel
theorem dX9_exactly_132 : decode cX9_exactly 132 = .ok (.putfield 157, 3) := by decide +kernel
theorem dX9_exactly_135 : decode cX9_exactly 135 = .ok (.aload_n 0, 1) := by decide +kernel
theorem dX9_exactly_136 : decode cX9_exactly 136 = .ok (.aload_n 0, 1) := by decide +kernel
theorem dX9_exactly_137 : decode cX9_exactly 137 = .ok (.aload_n 0, 1) := by decide +kernel
theorem dX9_exactly_138 : decode cX9_exactly 138 = .ok (.lload_n 2, 1) := by decide +kernel
theorem dX9_exactly_139 : decode cX9_exactly 139 = .ok (.lload 10, 2) := by decide +kernel
theorem dX9_exactly_141 : decode cX9_exactly 141 = .ok (.invokevirtual 151, 3) := by decide +kernel
theorem dX9_exactly_144 : decode cX9_exactly 144 = .ok (.aload_n 0, 1) := by decide +kernel
theorem dX9_exactly_145 : decode cX9_exactly 145 = .ok (.lload 4, 2) := by decide +kernel
theorem dX9_exactly_147 : decode cX9_exactly 147 = .ok (.lload 8, 2) := by decide +kernel
theorem dX9_exactly_149 : decode cX9_exactly 149 = .ok (.invokevirtual 151, 3) := by decide +kernel
theorem dX9_exactly_152 : decode cX9_exactly 152 = .ok (.invokevirtual 154, 3) := by decide +kernel
theorem dX9_exactly_155 : decode cX9_exactly 155 = .ok (.putfield 160, 3) := by decide +kernel
theorem dX9_exactly_158 : decode cX9_exactly 158 = .ok (.aload_n 0, 1) := by decide +kernel
theorem dX9_exactly_159 : decode cX9_exactly 159 = .ok (.aload_n 0, 1) := by decide +kernel
theorem dX9_exactly_160 : decode cX9_exactly 160 = .ok (.lload 6, 2) := by decide +kernel
theorem dX9_exactly_162 : decode cX9_exactly 162 = .ok (.lload 12, 2) := by decide +kernel
theorem dX9_exactly_164 : decode cX9_exactly 164 = .ok (.invokevirtual 151, 3) := by decide +kernel
theorem dX9_exactly_167 : decode cX9_exactly 167 = .ok (.putfield 163, 3) := by decide +kernel
theorem dX9_exactly_170 : decode cX9_exactly 170 = .ok (.goto 149, 3) := by decide +kernel
theorem dX9_exactly_173 : decode cX9_exactly 173 = .ok (.iload 16, 2) := by decide +kernel
theorem dX9_exactly_175 : decode cX9_exactly 175 = .ok (.ifCond .ne 41, 3) := by decide +kernel
theorem dX9_exactly_178 : decode cX9_exactly 178 = .ok (.aload_n 0, 1) := by decide +kernel
theorem dX9_exactly_179 : decode cX9_exactly 179 = .ok (.aload_n 0, 1) := by decide +kernel
theorem dX9_exactly_180 : decode cX9_exactly 180 = .ok (.lload_n 2, 1) := by decide +kernel
theorem dX9_exactly_181 : decode cX9_exactly 181 = .ok (.lload 12, 2) := by decide +kernel
theorem dX9_exactly_183 : decode cX9_exactly 183 = .ok (.invokevirtual 151, 3) := by decide +kernel
theorem dX9_exactly_186 : decode cX9_exactly 186 = .ok (.putfield 157, 3) := by decide +kernel
theorem dX9_exactly_189 : decode cX9_exactly 189 = .ok (.aload_n 0, 1) := by decide +kernel
theorem dX9_exactly_190 : decode cX9_exactly 190 = .ok (.aload_n 0, 1) := by decide +kernel
theorem dX9_exactly_191 : decode cX9_exactly 191 = .ok (.lload 4, 2) := by decide +kernel
theorem dX9_exactly_193 : decode cX9_exactly 193 = .ok (.lload 12, 2) := by decide +kernel
theorem dX9_exactly_195 : decode cX9_exactly 195 = .ok (.invokevirtual 151, 3) := by decide +kernel
theorem dX9_exactly_198 : decode cX9_exactly 198 = .ok (.putfield 160, 3) := by decide +kernel
theorem dX9_exactly_201 : decode cX9_exactly 201 = .ok (.aload_n 0, 1) := by decide +kernel
theorem dX9_exactly_202 : decode cX9_exactly 202 = .ok (.aload_n 0, 1) := by decide +kernel
theorem dX9_exactly_203 : decode cX9_exactly 203 = .ok (.lload 6, 2) := by decide +kernel
theorem dX9_exactly_205 : decode cX9_exactly 205 = .ok (.lload 8, 2) := by decide +kernel
theorem dX9_exactly_207 : decode cX9_exactly 207 = .ok (.invokevirtual 151, 3) := by decide +kernel
theorem dX9_exactly_210 : decode cX9_exactly 210 = .ok (.putfield 163, 3) := by decide +kernel
theorem dX9_exactly_213 : decode cX9_exactly 213 = .ok (.goto 106, 3) := by decide +kernel
theorem dX9_exactly_216 : decode cX9_exactly 216 = .ok (.aload_n 0, 1) := by decide +kernel
theorem dX9_exactly_217 : decode cX9_exactly 217 = .ok (.aload_n 0, 1) := by decide +kernel
theorem dX9_exactly_218 : decode cX9_exactly 218 = .ok (.aload_n 0, 1) := by decide +kernel
theorem dX9_exactly_219 : decode cX9_exactly 219 = .ok (.aload_n 0, 1) := by decide +kernel
theorem dX9_exactly_220 : decode cX9_exactly 220 = .ok (.lload_n 2, 1) := by decide +kernel
theorem dX9_exactly_221 : decode cX9_exactly 221 = .ok (.lload 8, 2) := by decide +kernel
theorem dX9_exactly_223 : decode cX9_exactly 223 = .ok (.invokevirtual 151, 3) := by decide +kernel
theorem dX9_exactly_226 : decode cX9_exactly 226 = .ok (.aload_n 0, 1) := by decide +kernel
theorem dX9_exactly_227 : decode cX9_exactly 227 = .ok (.aload_n 0, 1) := by decide +kernel
theorem dX9_exactly_228 : decode cX9_exactly 228 = .ok (.lload 4, 2) := by decide +kernel
theorem dX9_exactly_230 : decode cX9_exactly 230 = .ok (.lload 10, 2) := by decide +kernel
theorem dX9_exactly_232 : decode cX9_exactly 232 = .ok (.invokevirtual 151, 3) := by decide +kernel
theorem dX9_exactly_235 : decode cX9_exactly 235 = .ok (.lload 14, 2) := by decide +kernel
theorem dX9_exactly_237 : decode cX9_exactly 237 = .ok (.invokevirtual 151, 3) := by decide +kernel
theorem dX9_exactly_240 : decode cX9_exactly 240 = .ok (.lneg, 1) := by decide +kernel
theorem dX9_exactly_241 : decode cX9_exactly 241 = .ok (.invokevirtual 154, 3) := by decide +kernel
theorem dX9_exactly_244 : decode cX9_exactly 244 = .ok (.lload 12, 2) := by decide +kernel
theorem dX9_exactly_246 : decode cX9_exactly 246 = .ok (.invokevirtual 151, 3) := by decide +kernel
theorem dX9_exactly_249 : decode cX9_exactly 249 = .ok (.putfield 157, 3) := by decide +kernel
theorem dX9_exactly_252 : decode cX9_exactly 252 = .ok (.aload_n 0, 1) := by decide +kernel
theorem dX9_exactly_253 : decode cX9_exactly 253 = .ok (.aload_n 0, 1) := by decide +kernel
theorem dX9_exactly_254 : decode cX9_exactly 254 = .ok (.aload_n 0, 1) := by decide +kernel
theorem dX9_exactly_255 : decode cX9_exactly 255 = .ok (.aload_n 0, 1) := by decide +kernel
theorem dX9_exactly_256 : decode cX9_exactly 256 = .ok (.lload 4, 2) := by decide +kernel
theorem dX9_exactly_258 : decode cX9_exactly 258 = .ok (.lload 8, 2) := by decide +kernel
theorem dX9_exactly_260 : decode cX9_exactly 260 = .ok (.invokevirtual 151, 3) := by decide +kernel
theorem dX9_exactly_263 : decode cX9_exactly 263 = .ok (.aload_n 0, 1) := by decide +kernel
theorem dX9_exactly_264 : decode cX9_exactly 264 = .ok (.lload_n 2, 1) := by decide +kernel
theorem dX9_exactly_265 : decode cX9_exactly 265 = .ok (.lload 10, 2) := by decide +kernel
theorem dX9_exactly_267 : decode cX9_exactly 267 = .ok (.invokevirtual 151, 3) := by decide +kernel
theorem dX9_exactly_270 : decode cX9_exactly 270 = .ok (.lneg, 1) := by decide +kernel
theorem dX9_exactly_271 : decode cX9_exactly 271 = .ok (.invokevirtual 154, 3) := by decide +kernel
theorem dX9_exactly_274 : decode cX9_exactly 274 = .ok (.lload 12, 2) := by decide +kernel
theorem dX9_exactly_276 : decode cX9_exactly 276 = .ok (.invokevirtual 151, 3) := by decide +kernel
theorem dX9_exactly_279 : decode cX9_exactly 279 = .ok (.putfield 160, 3) := by decide +kernel
theorem dX9_exactly_282 : decode cX9_exactly 282 = .ok (.aload_n 0, 1) := by decide +kernel
theorem dX9_exactly_283 : decode cX9_exactly 283 = .ok (.aload_n 0, 1) := by decide +kernel
theorem dX9_exactly_284 : decode cX9_exactly 284 = .ok (.aload_n 0, 1) := by decide +kernel
theorem dX9_exactly_285 : decode cX9_exactly 285 = .ok (.aload_n 0, 1) := by decide +kernel
theorem dX9_exactly_286 : decode cX9_exactly 286 = .ok (.lload 8, 2) := by decide +kernel
theorem dX9_exactly_288 : decode cX9_exactly 288 = .ok (.lload 8, 2) := by decide +kernel
theorem dX9_exactly_290 : decode cX9_exactly 290 = .ok (.invokevirtual 151, 3) := by decide +kernel
theorem dX9_exactly_293 : decode cX9_exactly 293 = .ok (.aload_n 0, 1) := by decide +kernel
theorem dX9_exactly_294 : decode cX9_exactly 294 = .ok (.aload_n 0, 1) := by decide +kernel
theorem dX9_exactly_295 : decode cX9_exactly 295 = .ok (.lload 10, 2) := by decide +kernel
theorem dX9_exactly_297 : decode cX9_exactly 297 = .ok (.lload 10, 2) := by decide +kernel
theorem dX9_exactly_299 : decode cX9_exactly 299 = .ok (.invokevirtual 151, 3) := by decide +kernel
theorem dX9_exactly_302 : decode cX9_exactly 302 = .ok (.lload 14, 2) := by decide +kernel
theorem dX9_exactly_304 : decode cX9_exactly 304 = .ok (.invokevirtual 151, 3) := by decide +kernel
theorem dX9_exactly_307 : decode cX9_exactly 307 = .ok (.lneg, 1) := by decide +kernel
theorem dX9_exactly_308 : decode cX9_exactly 308 = .ok (.invokevirtual 154, 3) := by decide +kernel
theorem dX9_exactly_311 : decode cX9_exactly 311 = .ok (.lload 6, 2) := by decide +kernel
theorem dX9_exactly_313 : decode cX9_exactly 313 = .ok (.invokevirtual 151, 3) := by decide +kernel
theorem dX9_exactly_316 : decode cX9_exactly 316 = .ok (.putfield 163, 3) := by decide +kernel
theorem dX9_exactly_319 : decode cX9_exactly 319 = .ok (.aload_n 0, 1) := by decide +kernel
theorem dX9_exactly_320 : decode cX9_exactly 320 = .ok (.getfield 69, 3) := by decide +kernel
theorem dX9_exactly_323 : decode cX9_exactly 323 = .ok (.ifCond .ne 7, 3) := by decide +kernel
theorem dX9_exactly_326 : decode cX9_exactly 326 = .ok (.aload_n 0, 1) := by decide +kernel
theorem dX9_exactly_327 : decode cX9_exactly 327 = .ok (.invokevirtual 166, 3) := by decide +kernel
theorem dX9_exactly_330 : decode cX9_exactly 330 = .ok (.return_, 1) := by decide +kernel
theorem dX9_checkOut_0 : decode cX9_checkOut 0 = .ok (.aload_n 0, 1) := by decide +kernel
theorem dX9_checkOut_1 : decode cX9_checkOut 1 = .ok (.getfield 160, 3) := by decide +kernel
theorem dX9_checkOut_4 : decode cX9_checkOut 4 = .ok (.lconst 0, 1) := by decide +kernel
theorem dX9_checkOut_5 : decode cX9_checkOut 5 = .ok (.lcmp, 1) := by decide +kernel
theorem dX9_checkOut_6 : decode cX9_checkOut 6 = .ok (.ifCond .ne 17, 3) := by decide +kernel
theorem dX9_checkOut_9 : decode cX9_checkOut 9 = .ok (.aload_n 0, 1) := by decide +kernel
theorem dX9_checkOut_10 : decode cX9_checkOut 10 = .ok (.getfield 157, 3) := by decide +kernel
theorem dX9_checkOut_13 : decode cX9_checkOut 13 = .ok (.aload_n 0, 1) := by decide +kernel
theorem dX9_checkOut_14 : decode cX9_checkOut 14 = .ok (.getfield 163, 3) := by decide +kernel
theorem dX9_checkOut_17 : decode cX9_checkOut 17 = .ok (.invokestatic 87, 3) := by decide +kernel
theorem dX9_checkOut_20 : decode cX9_checkOut 20 = .ok (.goto 21, 3) := by decide +kernel
theorem dX9_checkOut_23 : decode cX9_checkOut 23 = .ok (.aload_n 0, 1) := by decide +kernel
theorem dX9_checkOut_24 : decode cX9_checkOut 24 = .ok (.getfield 157, 3) := by decide +kernel
theorem dX9_checkOut_27 : decode cX9_checkOut 27 = .ok (.aload_n 0, 1) := by decide +kernel
theorem dX9_checkOut_28 : decode cX9_checkOut 28 = .ok (.getfield 160, 3) := by decide +kernel
theorem dX9_checkOut_31 : decode cX9_checkOut 31 = .ok (.invokestatic 87, 3) := by decide +kernel
theorem dX9_checkOut_34 : decode cX9_checkOut 34 = .ok (.aload_n 0, 1) := by decide +kernel
theorem dX9_checkOut_35 : decode cX9_checkOut 35 = .ok (.getfield 163, 3) := by decide +kernel
theorem dX9_checkOut_38 : decode cX9_checkOut 38 = .ok (.invokestatic 87, 3) := by decide +kernel
theorem dX9_checkOut_41 : decode cX9_checkOut 41 = .ok (.lstore_n 1, 1) := by decide +kernel
theorem dX9_checkOut_42 : decode cX9_checkOut 42 = .ok (.aload_n 0, 1) := by decide +kernel
theorem dX9_checkOut_43 : decode cX9_checkOut 43 = .ok (.dup, 1) := by decide +kernel
theorem dX9_checkOut_44 : decode cX9_checkOut 44 = .ok (.getfield 157, 3) := by decide +kernel
theorem dX9_checkOut_47 : decode cX9_checkOut 47 = .ok (.lload_n 1, 1) := by decide +kernel
theorem dX9_checkOut_48 : decode cX9_checkOut 48 = .ok (.ldiv, 1) := by decide +kernel
theorem dX9_checkOut_49 : decode cX9_checkOut 49 = .ok (.putfield 157, 3) := by decide +kernel
theorem dX9_checkOut_52 : decode cX9_checkOut 52 = .ok (.aload_n 0, 1) := by decide +kernel
theorem dX9_checkOut_53 : decode cX9_checkOut 53 = .ok (.dup, 1) := by decide +kernel
theorem dX9_checkOut_54 : decode cX9_checkOut 54 = .ok (.getfield 160, 3) := by decide +kernel
theorem dX9_checkOut_57 : decode cX9_checkOut 57 = .ok (.lload_n 1, 1) := by decide +kernel
theorem dX9_checkOut_58 : decode cX9_checkOut 58 = .ok (.ldiv, 1) := by decide +kernel
theorem dX9_checkOut_59 : decode cX9_checkOut 59 = .ok (.putfield 160, 3) := by decide +kernel
theorem dX9_checkOut_62 : decode cX9_checkOut 62 = .ok (.aload_n 0, 1) := by decide +kernel
theorem dX9_checkOut_63 : decode cX9_checkOut 63 = .ok (.dup, 1) := by decide +kernel
theorem dX9_checkOut_64 : decode cX9_checkOut 64 = .ok (.getfield 163, 3) := by decide +kernel
theorem dX9_checkOut_67 : decode cX9_checkOut 67 = .ok (.lload_n 1, 1) := by decide +kernel
theorem dX9_checkOut_68 : decode cX9_checkOut 68 = .ok (.ldiv, 1) := by decide +kernel
theorem dX9_checkOut_69 : decode cX9_checkOut 69 = .ok (.putfield 163, 3) := by decide +kernel
theorem dX9_checkOut_72 : decode cX9_checkOut 72 = .ok (.aload_n 0, 1) := by decide +kernel
theorem dX9_checkOut_73 : decode cX9_checkOut 73 = .ok (.getfield 160, 3) := by decide +kernel
theorem dX9_checkOut_76 : decode cX9_checkOut 76 = .ok (.lconst 0, 1) := by decide +kernel
theorem dX9_checkOut_77 : decode cX9_checkOut 77 = .ok (.lcmp, 1) := by decide +kernel
theorem dX9_checkOut_78 : decode cX9_checkOut 78 = .ok (.ifCond .eq 71, 3) := by decide +kernel
theorem dX9_checkOut_81 : decode cX9_checkOut 81 = .ok (.aload_n 0, 1) := by decide +kernel
theorem dX9_checkOut_82 : decode cX9_checkOut 82 = .ok (.getfield 160, 3) := by decide +kernel
theorem dX9_checkOut_85 : decode cX9_checkOut 85 = .ok (.invokestatic 63, 3) := by decide +kernel
theorem dX9_checkOut_88 : decode cX9_checkOut 88 = .ok (.lstore_n 3, 1) := by decide +kernel
theorem dX9_checkOut_89 : decode cX9_checkOut 89 = .ok (.aload_n 0, 1) := by decide +kernel
theorem dX9_checkOut_90 : decode cX9_checkOut 90 = .ok (.aload_n 0, 1) := by decide +kernel
theorem dX9_checkOut_91 : decode cX9_checkOut 91 = .ok (.getfield 163, 3) := by decide +kernel
theorem dX9_checkOut_94 : decode cX9_checkOut 94 = .ok (.invokestatic 63, 3) := by decide +kernel
theorem dX9_checkOut_97 : decode cX9_checkOut 97 = .ok (.ldc2_w 119, 3) := by decide +kernel
theorem dX9_checkOut_100 : decode cX9_checkOut 100 = .ok (.lcmp, 1) := by decide +kernel
theorem dX9_checkOut_101 : decode cX9_checkOut 101 = .ok (.ifCond .gt 40, 3) := by decide +kernel
theorem dX9_checkOut_104 : decode cX9_checkOut 104 = .ok (.aload_n 0, 1) := by decide +kernel
theorem dX9_checkOut_105 : decode cX9_checkOut 105 = .ok (.getfield 157, 3) := by decide +kernel
theorem dX9_checkOut_108 : decode cX9_checkOut 108 = .ok (.invokestatic 63, 3) := by decide +kernel
theorem dX9_checkOut_111 : decode cX9_checkOut 111 = .ok (.ldc2_w 169, 3) := by decide +kernel
theorem dX9_checkOut_114 : decode cX9_checkOut 114 = .ok (.lcmp, 1) := by decide +kernel
theorem dX9_checkOut_115 : decode cX9_checkOut 115 = .ok (.ifCond .gt 26, 3) := by decide +kernel
theorem dX9_checkOut_118 : decode cX9_checkOut 118 = .ok (.lload_n 3, 1) := by decide +kernel
theorem dX9_checkOut_119 : decode cX9_checkOut 119 = .ok (.ldc2_w 119, 3) := by decide +kernel
theorem dX9_checkOut_122 : decode cX9_checkOut 122 = .ok (.lcmp, 1) := by decide +kernel
theorem dX9_checkOut_123 : decode cX9_checkOut 123 = .ok (.ifCond .gt 18, 3) := by decide +kernel
theorem dX9_checkOut_126 : decode cX9_checkOut 126 = .ok (.lload_n 3, 1) := by decide +kernel
theorem dX9_checkOut_127 : decode cX9_checkOut 127 = .ok (.lload_n 3, 1) := by decide +kernel
theorem dX9_checkOut_128 : decode cX9_checkOut 128 = .ok (.lmul, 1) := by decide +kernel
theorem dX9_checkOut_129 : decode cX9_checkOut 129 = .ok (.aload_n 0, 1) := by decide +kernel
theorem dX9_checkOut_130 : decode cX9_checkOut 130 = .ok (.getfield 145, 3) := by decide +kernel
theorem dX9_checkOut_133 : decode cX9_checkOut 133 = .ok (.lmul, 1) := by decide +kernel
theorem dX9_checkOut_134 : decode cX9_checkOut 134 = .ok (.ldc2_w 171, 3) := by decide +kernel
theorem dX9_checkOut_137 : decode cX9_checkOut 137 = .ok (.lcmp, 1) := by decide +kernel
theorem dX9_checkOut_138 : decode cX9_checkOut 138 = .ok (.ifCond .le 7, 3) := by decide +kernel
theorem dX9_checkOut_141 : decode cX9_checkOut 141 = .ok (.iconst 1, 1) := by decide +kernel
theorem dX9_checkOut_142 : decode cX9_checkOut 142 = .ok (.goto 4, 3) := by decide +kernel
theorem dX9_checkOut_145 : decode cX9_checkOut 145 = .ok (.iconst 0, 1) := by decide +kernel
theorem dX9_checkOut_146 : decode cX9_checkOut 146 = .ok (.putfield 69, 3) := by decide +kernel
theorem dX9_checkOut_149 : decode cX9_checkOut 149 = .ok (.return_, 1) := by decide +kernel
abbrev eX8_turn (G : GG) (R : Int64 × AH) : EE := eM G 4 (some .long) false 6 150 0 0 (some (.long R.1)) R.2
theorem wX8_turn (G : GG) (hG : GT G) (R : Int64 × AH) (a0 : Nat) (x0 : Int32) (h : AH) (X : fX8_turn a0 x0 h = some R) : AW (eX8_turn G R) RX8 cX8_turn 0 [some (.ref (gB G + a0)), some (.int x0), none, none] [] h 0 0 := by
  unfold fX8_turn at X
  refine r_ald0 1 dX8_turn_0 rfl ?_
  refine r_ild1 2 dX8_turn_1 rfl ?_
  obtain ⟨hs, X⟩ := r_cv X
  obtain ⟨r102, h101, hc, X⟩ := bnd_ok X
  refine r_callV1 5 dX8_turn_2 rfl lmX8_118 hs (mtX8_find G hG hc) rfl ⟨(Nat.zero_le _), (Nat.zero_le _)⟩ ?_
  refine r_split X (fun X => ?_) (fun b103 X => ?_)
  · refine r_astN2 6 dX8_turn_5 rfl rfl ?_
    refine r_aldN2 7 dX8_turn_6 rfl ?_
    refine r_ifnonnullN 10 dX8_turn_7 rfl ?_
    refine r_ldc2 13 dX8_turn_10 rfl lkX8_122 ?_
    exact r_retL dX8_turn_13 (Nat.zero_le _) (Nat.zero_le _) X
  · refine r_ast2 6 dX8_turn_5 rfl rfl ?_
    refine r_ald2 7 dX8_turn_6 rfl ?_
    refine r_ifnonnull 14 dX8_turn_7 (by decide) ?_
    refine r_ald2 15 dX8_turn_14 rfl ?_
    obtain ⟨hs, X⟩ := r_cv X
    obtain ⟨x105, h104, hc, X⟩ := bnd_ok X
    refine r_callV0 18 dX8_turn_15 rfl lmX8_124 hs (mtX7_isZeroRatio G hG hc) rfl ⟨(Nat.zero_le _), (Nat.zero_le _)⟩ ?_
    refine r_if_eq 25 21 dX8_turn_18 (by decide) rfl X (fun _ X => ?_) (fun _ X => ?_)
    · refine r_ald0 26 dX8_turn_25 rfl ?_
      obtain ⟨hs, X⟩ := r_cv X
      obtain ⟨x107, h106, hc, X⟩ := bnd_ok X
      refine r_callV0 29 dX8_turn_26 rfl lmX8_86 hs (mtX8_leastFree G hG hc) rfl ⟨(Nat.zero_le _), (Nat.zero_le _)⟩ ?_
      refine r_ist3 30 dX8_turn_29 rfl rfl ?_
      refine r_ild3 31 dX8_turn_30 rfl ?_
      refine r_iconst 32 _ dX8_turn_31 rfl ki_m1 ?_
      refine r_icmp_ne 39 35 dX8_turn_32 (by decide) rfl X (fun _ X => ?_) (fun _ X => ?_)
      · refine r_ald0 40 dX8_turn_39 rfl ?_
        refine r_gR 43 dX8_turn_40 rfl lfX8_16 rfl X (fun b108 X => ?_)
        refine r_ald2 44 dX8_turn_43 rfl ?_
        obtain ⟨x110, h109, hc, X⟩ := bnd_ok X
        refine r_callS2 47 dX8_turn_44 rfl lmX8_128 (mtX8_isExactAct G hG hc) rfl ⟨(Nat.zero_le _), (Nat.zero_le _)⟩ ?_
        refine r_if_eq 69 50 dX8_turn_47 (by decide) rfl X (fun _ X => ?_) (fun _ X => ?_)
        · refine r_ald0 70 dX8_turn_69 rfl ?_
          refine r_gR 73 dX8_turn_70 rfl lfX8_51 rfl X (fun b111 X => ?_)
          refine r_iconst 74 _ dX8_turn_73 rfl ki_4 ?_
          obtain ⟨hs, X⟩ := r_cv X
          obtain ⟨_, h112, hc, X⟩ := bnd_ok X
          refine r_callV1v 77 dX8_turn_74 rfl lmX8_136 hs (mtX1_startWithAct G hG hc) rfl ⟨(Nat.zero_le _), (Nat.zero_le _)⟩ ?_
          refine r_ald0 78 dX8_turn_77 rfl ?_
          refine r_gR 81 dX8_turn_78 rfl lfX8_51 rfl X (fun b113 X => ?_)
          refine r_ald0 82 dX8_turn_81 rfl ?_
          refine r_gR 85 dX8_turn_82 rfl lfX8_11 rfl X (fun b114 X => ?_)
          refine r_ild3 86 dX8_turn_85 rfl ?_
          refine r_aR 87 3 dX8_turn_86 rfl rfl X (fun b115 X => ?_)
          refine r_ald2 88 dX8_turn_87 rfl ?_
          refine r_ald2 89 dX8_turn_88 rfl ?_
          obtain ⟨hs, X⟩ := r_cv X
          obtain ⟨_, h116, hc, X⟩ := bnd_ok X
          refine r_callV3v 92 dX8_turn_89 rfl lmX8_140 hs (mtX1_make G hG hc) rfl ⟨(Nat.zero_le _), (Nat.zero_le _)⟩ ?_
          refine r_ald0 93 dX8_turn_92 rfl ?_
          refine r_ild3 94 dX8_turn_93 rfl ?_
          obtain ⟨hs, X⟩ := r_cv X
          obtain ⟨x118, h117, hc, X⟩ := bnd_ok X
          refine r_callV1 97 dX8_turn_94 rfl lmX8_115 hs (mtX8_place G hG hc) rfl ⟨(Nat.zero_le _), (Nat.zero_le _)⟩ ?_
          exact r_retL dX8_turn_97 (Nat.zero_le _) (Nat.zero_le _) X
        · refine r_ald0 51 dX8_turn_50 rfl ?_
          refine r_gR 54 dX8_turn_51 rfl lfX8_37 rfl X (fun b119 X => ?_)
          refine r_iconst 55 _ dX8_turn_54 rfl ki_3 ?_
          refine r_ald0 56 dX8_turn_55 rfl ?_
          refine r_gR 59 dX8_turn_56 rfl lfX8_16 rfl X (fun b120 X => ?_)
          refine r_ald2 60 dX8_turn_59 rfl ?_
          obtain ⟨hs, X⟩ := r_cv X
          obtain ⟨_, h121, hc, X⟩ := bnd_ok X
          refine r_callV3v 63 dX8_turn_60 rfl lmX8_132 hs (mtX3_work G hG hc) rfl ⟨(Nat.zero_le _), (Nat.zero_le _)⟩ ?_
          refine r_ald0 64 dX8_turn_63 rfl ?_
          refine r_ild3 65 dX8_turn_64 rfl ?_
          obtain ⟨hs, X⟩ := r_cv X
          obtain ⟨x123, h122, hc, X⟩ := bnd_ok X
          refine r_callV1 68 dX8_turn_65 rfl lmX8_96 hs (mtX8_placeOutcome G hG hc) rfl ⟨(Nat.zero_le _), (Nat.zero_le _)⟩ ?_
          exact r_retL dX8_turn_68 (Nat.zero_le _) (Nat.zero_le _) X
      · refine r_ldc2 38 dX8_turn_35 rfl lkX8_90 ?_
        exact r_retL dX8_turn_38 (Nat.zero_le _) (Nat.zero_le _) X
    · refine r_ldc2 24 dX8_turn_21 rfl lkX8_109 ?_
      exact r_retL dX8_turn_24 (Nat.zero_le _) (Nat.zero_le _) X
theorem mtX8_turn (G : GG) (hG : GT G) {a0 : Nat} {x0 : Int32} {h h' : AH} {v : Int64} (hc : fX8_turn a0 x0 h = some (v, h')) : AMet G yX8_turn cX8_turn 4 (some .long) 6 150 0 0 [.ref (gB G + a0), .int x0] h (some (.long v)) h' :=
  amet_of false [some (.ref (gB G + a0)), some (.int x0), none, none] (by decide +kernel) (by decide) (Nat.le_of_ble_eq_true rfl) rfl (Nat.le_of_ble_eq_true rfl) (wX8_turn G hG (v, h') _ _ h hc)
abbrev eX9_size (G : GG) (R : Int64 × AH) : EE := eM G 2 (some .long) false 0 0 0 0 (some (.long R.1)) R.2
theorem wX9_size (G : GG) (hG : GT G) (R : Int64 × AH) (x0 : Int64) (h : AH) (X : fX9_size x0 h = some R) : AW (eX9_size G R) RX9 cX9_size 0 [some (.long x0), none] [] h 0 0 := by
  unfold fX9_size at X
  refine r_lld0 1 dX9_size_0 rfl ?_
  refine r_lconst 2 _ dX9_size_1 rfl kl_0 ?_
  refine r_lif_ge 11 6 dX9_size_2 dX9_size_3 (by decide) rfl X (fun _ X => ?_) (fun _ X => ?_)
  · refine r_lld0 12 dX9_size_11 rfl ?_
    exact r_retL dX9_size_12 (Nat.zero_le _) (Nat.zero_le _) X
  · refine r_lld0 7 dX9_size_6 rfl ?_
    refine r_lneg 8 dX9_size_7 rfl ?_
    refine r_goto 12 dX9_size_8 (by decide) ?_
    exact r_retL dX9_size_12 (Nat.zero_le _) (Nat.zero_le _) X
theorem mtX9_size (G : GG) (hG : GT G) {x0 : Int64} {h h' : AH} {v : Int64} (hc : fX9_size x0 h = some (v, h')) : AMet G yX9_size cX9_size 2 (some .long) 0 0 0 0 [.long x0] h (some (.long v)) h' :=
  amet_of false [some (.long x0), none] (by decide +kernel) (by decide) (Nat.le_of_ble_eq_true rfl) rfl (Nat.le_of_ble_eq_true rfl) (wX9_size G hG (v, h') _ h hc)
abbrev eX9_add (G : GG) (R : Int64 × AH) : EE := eM G 7 (some .long) false 1 21 0 0 (some (.long R.1)) R.2
theorem wX9_add (G : GG) (hG : GT G) (R : Int64 × AH) (a0 : Nat) (x0 : Int64) (x1 : Int64) (h : AH) (X : fX9_add a0 x0 x1 h = some R) : AW (eX9_add G R) RX9 cX9_add 0 [some (.ref (gB G + a0)), some (.long x0), none, some (.long x1), none, none, none] [] h 0 0 := by
  unfold fX9_add at X
  refine r_lld1 1 dX9_add_0 rfl ?_
  refine r_lld3 2 dX9_add_1 rfl ?_
  refine r_ladd 3 dX9_add_2 rfl ?_
  refine r_lst5w 5 dX9_add_3 rfl rfl X (fun x101 X => ?_)
  refine r_ald0 6 dX9_add_5 rfl ?_
  refine r_ald0 7 dX9_add_6 rfl ?_
  refine r_gI 10 dX9_add_7 rfl lfX9_69 rfl X (fun x102 X => ?_)
  refine r_if_ne 25 13 dX9_add_10 (by decide) rfl X (fun _ X => ?_) (fun _ X => ?_)
  · refine r_iconst 26 _ dX9_add_25 rfl ki_1 ?_
    refine r_goto 30 dX9_add_26 (by decide) ?_
    refine r_pZ 33 dX9_add_30 rfl lpX9_69 rfl X (fun h103 X => ?_)
    refine r_ald0 34 dX9_add_33 rfl ?_
    refine r_gI 37 dX9_add_34 rfl lfX9_69 rfl X (fun x104 X => ?_)
    refine r_if_eq 44 40 dX9_add_37 (by decide) rfl X (fun _ X => ?_) (fun _ X => ?_)
    · refine r_lld5 46 dX9_add_44 rfl ?_
      exact r_retL dX9_add_46 (Nat.zero_le _) (Nat.zero_le _) X
    · refine r_lconst 41 _ dX9_add_40 rfl kl_0 ?_
      refine r_goto 46 dX9_add_41 (by decide) ?_
      exact r_retL dX9_add_46 (Nat.zero_le _) (Nat.zero_le _) X
  · refine r_lld5 15 dX9_add_13 rfl ?_
    obtain ⟨x106, h105, hc, X⟩ := bnd_ok X
    refine r_callS1 18 dX9_add_15 rfl lmX9_63 (mtX9_size G hG hc) rfl ⟨(Nat.zero_le _), (Nat.zero_le _)⟩ ?_
    refine r_ldc2 21 dX9_add_18 rfl lkX9_67 ?_
    refine r_lif_le 29 25 dX9_add_21 dX9_add_22 (by decide) rfl X (fun _ X => ?_) (fun _ X => ?_)
    · refine r_iconst 30 _ dX9_add_29 rfl ki_0 ?_
      refine r_pZ 33 dX9_add_30 rfl lpX9_69 rfl X (fun h107 X => ?_)
      refine r_ald0 34 dX9_add_33 rfl ?_
      refine r_gI 37 dX9_add_34 rfl lfX9_69 rfl X (fun x108 X => ?_)
      refine r_if_eq 44 40 dX9_add_37 (by decide) rfl X (fun _ X => ?_) (fun _ X => ?_)
      · refine r_lld5 46 dX9_add_44 rfl ?_
        exact r_retL dX9_add_46 (Nat.zero_le _) (Nat.zero_le _) X
      · refine r_lconst 41 _ dX9_add_40 rfl kl_0 ?_
        refine r_goto 46 dX9_add_41 (by decide) ?_
        exact r_retL dX9_add_46 (Nat.zero_le _) (Nat.zero_le _) X
    · refine r_iconst 26 _ dX9_add_25 rfl ki_1 ?_
      refine r_goto 30 dX9_add_26 (by decide) ?_
      refine r_pZ 33 dX9_add_30 rfl lpX9_69 rfl X (fun h109 X => ?_)
      refine r_ald0 34 dX9_add_33 rfl ?_
      refine r_gI 37 dX9_add_34 rfl lfX9_69 rfl X (fun x110 X => ?_)
      refine r_if_eq 44 40 dX9_add_37 (by decide) rfl X (fun _ X => ?_) (fun _ X => ?_)
      · refine r_lld5 46 dX9_add_44 rfl ?_
        exact r_retL dX9_add_46 (Nat.zero_le _) (Nat.zero_le _) X
      · refine r_lconst 41 _ dX9_add_40 rfl kl_0 ?_
        refine r_goto 46 dX9_add_41 (by decide) ?_
        exact r_retL dX9_add_46 (Nat.zero_le _) (Nat.zero_le _) X
theorem mtX9_add (G : GG) (hG : GT G) {a0 : Nat} {x0 : Int64} {x1 : Int64} {h h' : AH} {v : Int64} (hc : fX9_add a0 x0 x1 h = some (v, h')) : AMet G yX9_add cX9_add 7 (some .long) 1 21 0 0 [.ref (gB G + a0), .long x0, .long x1] h (some (.long v)) h' :=
  amet_of false [some (.ref (gB G + a0)), some (.long x0), none, some (.long x1), none, none, none] (by decide +kernel) (by decide) (Nat.le_of_ble_eq_true rfl) rfl (Nat.le_of_ble_eq_true rfl) (wX9_add G hG (v, h') _ _ _ h hc)
abbrev eX9_divisor (G : GG) (R : Int64 × AH) : EE := eM G 10 (some .long) false 1 21 0 0 (some (.long R.1)) R.2
theorem wX9_divisor_12 (G : GG) (hG : GT G) (R : Int64 × AH) {K12 : Int64 → Int64 → AH → Fn Int64} (hK12 : ∀ (l4 : Int64) (l6 : Int64) (h : AH), K12 l4 l6 h = some R → AW (eX9_divisor G R) RX9 cX9_divisor 12 [none, none, none, none, some (.long l4), none, some (.long l6), none, none, none] [] h 0 0) (l4 : Int64) (l6 : Int64) (h : AH) (X : fX9_divisor_12 K12 l4 l6 h = some R) : AW (eX9_divisor G R) RX9 cX9_divisor 12 [none, none, none, none, some (.long l4), none, some (.long l6), none, none, none] [] h 0 0 := by
  unfold fX9_divisor_12 at X
  refine r_lld6 14 dX9_divisor_12 rfl ?_
  refine r_lconst 15 _ dX9_divisor_14 rfl kl_0 ?_
  refine r_lif_eq 37 19 dX9_divisor_15 dX9_divisor_16 (by decide) rfl X (fun _ X => ?_) (fun _ X => ?_)
  · refine r_lld4 39 dX9_divisor_37 rfl ?_
    exact r_retL dX9_divisor_39 (Nat.zero_le _) (Nat.zero_le _) X
  · refine r_lld4 21 dX9_divisor_19 rfl ?_
    refine r_lld6 23 dX9_divisor_21 rfl ?_
    refine r_lrem 24 dX9_divisor_23 rfl X (fun X => ?_)
    refine r_lst8w 26 dX9_divisor_24 rfl rfl X (fun x101 X => ?_)
    refine r_lld6 28 dX9_divisor_26 rfl ?_
    refine r_lst4 30 dX9_divisor_28 rfl rfl ?_
    refine r_lld8 32 dX9_divisor_30 rfl ?_
    refine r_lst6 34 dX9_divisor_32 rfl rfl ?_
    refine r_goto 12 dX9_divisor_34 (by decide) ?_
    exact r_cut (hK12 _ _ _ X) ⟨rfl, ⟨rfl, trivial⟩⟩
theorem wX9_divisor_12L (G : GG) (hG : GT G) (R : Int64 × AH) : ∀ (m : Nat) (l4 : Int64) (l6 : Int64) (h : AH), fX9_divisor_12L m l4 l6 h = some R → AW (eX9_divisor G R) RX9 cX9_divisor 12 [none, none, none, none, some (.long l4), none, some (.long l6), none, none, none] [] h 0 0 := by
  intro m
  induction m with
  | zero => intro l4 l6 h X; exact nomatch (show (none : Fn Int64) = some R from X)
  | succ m ih => intro l4 l6 h X; exact wX9_divisor_12 G hG R ih l4 l6 h X
theorem wX9_divisor (G : GG) (hG : GT G) (R : Int64 × AH) (x0 : Int64) (x1 : Int64) (h : AH) (X : fX9_divisor x0 x1 h = some R) : AW (eX9_divisor G R) RX9 cX9_divisor 0 [some (.long x0), none, some (.long x1), none, none, none, none, none, none, none] [] h 0 0 := by
  unfold fX9_divisor at X
  refine r_lld0 1 dX9_divisor_0 rfl ?_
  obtain ⟨x102, h101, hc, X⟩ := bnd_ok X
  refine r_callS1 4 dX9_divisor_1 rfl lmX9_63 (mtX9_size G hG hc) rfl ⟨(Nat.zero_le _), (Nat.zero_le _)⟩ ?_
  refine r_lst4 6 dX9_divisor_4 rfl rfl ?_
  refine r_lld2 7 dX9_divisor_6 rfl ?_
  obtain ⟨x104, h103, hc, X⟩ := bnd_ok X
  refine r_callS1 10 dX9_divisor_7 rfl lmX9_63 (mtX9_size G hG hc) rfl ⟨(Nat.zero_le _), (Nat.zero_le _)⟩ ?_
  refine r_lst6 12 dX9_divisor_10 rfl rfl ?_
  exact r_cut (wX9_divisor_12L G hG R 1000 _ _ _ X) ⟨rfl, ⟨rfl, trivial⟩⟩
theorem mtX9_divisor (G : GG) (hG : GT G) {x0 : Int64} {x1 : Int64} {h h' : AH} {v : Int64} (hc : fX9_divisor x0 x1 h = some (v, h')) : AMet G yX9_divisor cX9_divisor 10 (some .long) 1 21 0 0 [.long x0, .long x1] h (some (.long v)) h' :=
  amet_of false [some (.long x0), none, some (.long x1), none, none, none, none, none, none, none] (by decide +kernel) (by decide) (Nat.le_of_ble_eq_true rfl) rfl (Nat.le_of_ble_eq_true rfl) (wX9_divisor G hG (v, h') _ _ h hc)
abbrev eX9_checkOut (G : GG) (R : Unit × AH) : EE := eM G 5 none false 2 50 0 0 none R.2
theorem wX9_checkOut_41 (G : GG) (hG : GT G) (R : Unit × AH) (l0 : Nat) (s0 : Int64) (h : AH) (X : fX9_checkOut_41 l0 s0 h = some R) : AW (eX9_checkOut G R) RX9 cX9_checkOut 41 [some (.ref (gB G + l0)), none, none, none, none] [.long s0] h 0 0 := by
  unfold fX9_checkOut_41 at X
  refine r_lst1 42 dX9_checkOut_41 rfl rfl ?_
  refine r_ald0 43 dX9_checkOut_42 rfl ?_
  refine r_dup 44 dX9_checkOut_43 rfl rfl ?_
  refine r_gL 47 dX9_checkOut_44 rfl lfX9_157 rfl X (fun x101 X => ?_)
  refine r_lld1 48 dX9_checkOut_47 rfl ?_
  refine r_ldiv 49 dX9_checkOut_48 rfl X (fun X => ?_)
  refine r_pL 52 dX9_checkOut_49 rfl lpX9_157 rfl X (fun h102 X => ?_)
  refine r_ald0 53 dX9_checkOut_52 rfl ?_
  refine r_dup 54 dX9_checkOut_53 rfl rfl ?_
  refine r_gL 57 dX9_checkOut_54 rfl lfX9_160 rfl X (fun x103 X => ?_)
  refine r_lld1 58 dX9_checkOut_57 rfl ?_
  refine r_ldiv 59 dX9_checkOut_58 rfl X (fun X => ?_)
  refine r_pL 62 dX9_checkOut_59 rfl lpX9_160 rfl X (fun h104 X => ?_)
  refine r_ald0 63 dX9_checkOut_62 rfl ?_
  refine r_dup 64 dX9_checkOut_63 rfl rfl ?_
  refine r_gL 67 dX9_checkOut_64 rfl lfX9_163 rfl X (fun x105 X => ?_)
  refine r_lld1 68 dX9_checkOut_67 rfl ?_
  refine r_ldiv 69 dX9_checkOut_68 rfl X (fun X => ?_)
  refine r_pL 72 dX9_checkOut_69 rfl lpX9_163 rfl X (fun h106 X => ?_)
  refine r_ald0 73 dX9_checkOut_72 rfl ?_
  refine r_gL 76 dX9_checkOut_73 rfl lfX9_160 rfl X (fun x107 X => ?_)
  refine r_lconst 77 _ dX9_checkOut_76 rfl kl_0 ?_
  refine r_lif_eq 149 81 dX9_checkOut_77 dX9_checkOut_78 (by decide) rfl X (fun _ X => ?_) (fun _ X => ?_)
  · exact r_retV dX9_checkOut_149 (Nat.zero_le _) (Nat.zero_le _) X
  · refine r_ald0 82 dX9_checkOut_81 rfl ?_
    refine r_gL 85 dX9_checkOut_82 rfl lfX9_160 rfl X (fun x108 X => ?_)
    obtain ⟨x110, h109, hc, X⟩ := bnd_ok X
    refine r_callS1 88 dX9_checkOut_85 rfl lmX9_63 (mtX9_size G hG hc) rfl ⟨(Nat.zero_le _), (Nat.zero_le _)⟩ ?_
    refine r_lst3 89 dX9_checkOut_88 rfl rfl ?_
    refine r_ald0 90 dX9_checkOut_89 rfl ?_
    refine r_ald0 91 dX9_checkOut_90 rfl ?_
    refine r_gL 94 dX9_checkOut_91 rfl lfX9_163 rfl X (fun x111 X => ?_)
    obtain ⟨x113, h112, hc, X⟩ := bnd_ok X
    refine r_callS1 97 dX9_checkOut_94 rfl lmX9_63 (mtX9_size G hG hc) rfl ⟨(Nat.zero_le _), (Nat.zero_le _)⟩ ?_
    refine r_ldc2 100 dX9_checkOut_97 rfl lkX9_119 ?_
    refine r_lif_gt 141 104 dX9_checkOut_100 dX9_checkOut_101 (by decide) rfl X (fun _ X => ?_) (fun _ X => ?_)
    · refine r_iconst 142 _ dX9_checkOut_141 rfl ki_1 ?_
      refine r_goto 146 dX9_checkOut_142 (by decide) ?_
      refine r_pZ 149 dX9_checkOut_146 rfl lpX9_69 rfl X (fun h114 X => ?_)
      exact r_retV dX9_checkOut_149 (Nat.zero_le _) (Nat.zero_le _) X
    · refine r_ald0 105 dX9_checkOut_104 rfl ?_
      refine r_gL 108 dX9_checkOut_105 rfl lfX9_157 rfl X (fun x115 X => ?_)
      obtain ⟨x117, h116, hc, X⟩ := bnd_ok X
      refine r_callS1 111 dX9_checkOut_108 rfl lmX9_63 (mtX9_size G hG hc) rfl ⟨(Nat.zero_le _), (Nat.zero_le _)⟩ ?_
      refine r_ldc2 114 dX9_checkOut_111 rfl lkX9_169 ?_
      refine r_lif_gt 141 118 dX9_checkOut_114 dX9_checkOut_115 (by decide) rfl X (fun _ X => ?_) (fun _ X => ?_)
      · refine r_iconst 142 _ dX9_checkOut_141 rfl ki_1 ?_
        refine r_goto 146 dX9_checkOut_142 (by decide) ?_
        refine r_pZ 149 dX9_checkOut_146 rfl lpX9_69 rfl X (fun h118 X => ?_)
        exact r_retV dX9_checkOut_149 (Nat.zero_le _) (Nat.zero_le _) X
      · refine r_lld3 119 dX9_checkOut_118 rfl ?_
        refine r_ldc2 122 dX9_checkOut_119 rfl lkX9_119 ?_
        refine r_lif_gt 141 126 dX9_checkOut_122 dX9_checkOut_123 (by decide) rfl X (fun _ X => ?_) (fun _ X => ?_)
        · refine r_iconst 142 _ dX9_checkOut_141 rfl ki_1 ?_
          refine r_goto 146 dX9_checkOut_142 (by decide) ?_
          refine r_pZ 149 dX9_checkOut_146 rfl lpX9_69 rfl X (fun h119 X => ?_)
          exact r_retV dX9_checkOut_149 (Nat.zero_le _) (Nat.zero_le _) X
        · refine r_lld3 127 dX9_checkOut_126 rfl ?_
          refine r_lld3 128 dX9_checkOut_127 rfl ?_
          refine r_lmul 129 dX9_checkOut_128 rfl ?_
          refine r_ald0 130 dX9_checkOut_129 rfl ?_
          refine r_gL 133 dX9_checkOut_130 rfl lfX9_145 rfl X (fun x120 X => ?_)
          refine r_lmul 134 dX9_checkOut_133 rfl ?_
          refine r_ldc2 137 dX9_checkOut_134 rfl lkX9_171 ?_
          refine r_lif_le 145 141 dX9_checkOut_137 dX9_checkOut_138 (by decide) rfl X (fun _ X => ?_) (fun _ X => ?_)
          · refine r_iconst 146 _ dX9_checkOut_145 rfl ki_0 ?_
            refine r_pZ 149 dX9_checkOut_146 rfl lpX9_69 rfl X (fun h121 X => ?_)
            exact r_retV dX9_checkOut_149 (Nat.zero_le _) (Nat.zero_le _) X
          · refine r_iconst 142 _ dX9_checkOut_141 rfl ki_1 ?_
            refine r_goto 146 dX9_checkOut_142 (by decide) ?_
            refine r_pZ 149 dX9_checkOut_146 rfl lpX9_69 rfl X (fun h122 X => ?_)
            exact r_retV dX9_checkOut_149 (Nat.zero_le _) (Nat.zero_le _) X
theorem wX9_checkOut (G : GG) (hG : GT G) (R : Unit × AH) (a0 : Nat) (h : AH) (X : fX9_checkOut a0 h = some R) : AW (eX9_checkOut G R) RX9 cX9_checkOut 0 [some (.ref (gB G + a0)), none, none, none, none] [] h 0 0 := by
  unfold fX9_checkOut at X
  refine r_ald0 1 dX9_checkOut_0 rfl ?_
  refine r_gL 4 dX9_checkOut_1 rfl lfX9_160 rfl X (fun x101 X => ?_)
  refine r_lconst 5 _ dX9_checkOut_4 rfl kl_0 ?_
  refine r_lif_ne 23 9 dX9_checkOut_5 dX9_checkOut_6 (by decide) rfl X (fun _ X => ?_) (fun _ X => ?_)
  · refine r_ald0 24 dX9_checkOut_23 rfl ?_
    refine r_gL 27 dX9_checkOut_24 rfl lfX9_157 rfl X (fun x102 X => ?_)
    refine r_ald0 28 dX9_checkOut_27 rfl ?_
    refine r_gL 31 dX9_checkOut_28 rfl lfX9_160 rfl X (fun x103 X => ?_)
    obtain ⟨x105, h104, hc, X⟩ := bnd_ok X
    refine r_callS2 34 dX9_checkOut_31 rfl lmX9_87 (mtX9_divisor G hG hc) rfl ⟨(Nat.zero_le _), (Nat.zero_le _)⟩ ?_
    refine r_ald0 35 dX9_checkOut_34 rfl ?_
    refine r_gL 38 dX9_checkOut_35 rfl lfX9_163 rfl X (fun x106 X => ?_)
    obtain ⟨x108, h107, hc, X⟩ := bnd_ok X
    refine r_callS2 41 dX9_checkOut_38 rfl lmX9_87 (mtX9_divisor G hG hc) rfl ⟨(Nat.zero_le _), (Nat.zero_le _)⟩ ?_
    exact r_cut (wX9_checkOut_41 G hG R _ _ _ X) ⟨rfl, trivial⟩
  · refine r_ald0 10 dX9_checkOut_9 rfl ?_
    refine r_gL 13 dX9_checkOut_10 rfl lfX9_157 rfl X (fun x109 X => ?_)
    refine r_ald0 14 dX9_checkOut_13 rfl ?_
    refine r_gL 17 dX9_checkOut_14 rfl lfX9_163 rfl X (fun x110 X => ?_)
    obtain ⟨x112, h111, hc, X⟩ := bnd_ok X
    refine r_callS2 20 dX9_checkOut_17 rfl lmX9_87 (mtX9_divisor G hG hc) rfl ⟨(Nat.zero_le _), (Nat.zero_le _)⟩ ?_
    refine r_goto 41 dX9_checkOut_20 (by decide) ?_
    exact r_cut (wX9_checkOut_41 G hG R _ _ _ X) ⟨rfl, trivial⟩
theorem mtX9_checkOut (G : GG) (hG : GT G) {a0 : Nat} {h h' : AH} {v : Unit} (hc : fX9_checkOut a0 h = some (v, h')) : AMet G yX9_checkOut cX9_checkOut 5 none 2 50 0 0 [.ref (gB G + a0)] h none h' :=
  amet_of false [some (.ref (gB G + a0)), none, none, none, none] (by decide +kernel) (by decide) (Nat.le_of_ble_eq_true rfl) rfl (Nat.le_of_ble_eq_true rfl) (wX9_checkOut G hG (v, h') _ h hc)
abbrev eX9_mul (G : GG) (R : Int64 × AH) : EE := eM G 5 (some .long) false 1 21 0 0 (some (.long R.1)) R.2
theorem wX9_mul (G : GG) (hG : GT G) (R : Int64 × AH) (a0 : Nat) (x0 : Int64) (x1 : Int64) (h : AH) (X : fX9_mul a0 x0 x1 h = some R) : AW (eX9_mul G R) RX9 cX9_mul 0 [some (.ref (gB G + a0)), some (.long x0), none, some (.long x1), none] [] h 0 0 := by
  unfold fX9_mul at X
  refine r_lld1 1 dX9_mul_0 rfl ?_
  refine r_lconst 2 _ dX9_mul_1 rfl kl_0 ?_
  refine r_lif_eq 12 6 dX9_mul_2 dX9_mul_3 (by decide) rfl X (fun _ X => ?_) (fun _ X => ?_)
  · refine r_lconst 13 _ dX9_mul_12 rfl kl_0 ?_
    exact r_retL dX9_mul_13 (Nat.zero_le _) (Nat.zero_le _) X
  · refine r_lld3 7 dX9_mul_6 rfl ?_
    refine r_lconst 8 _ dX9_mul_7 rfl kl_0 ?_
    refine r_lif_ne 14 12 dX9_mul_8 dX9_mul_9 (by decide) rfl X (fun _ X => ?_) (fun _ X => ?_)
    · refine r_lld1 15 dX9_mul_14 rfl ?_
      obtain ⟨x102, h101, hc, X⟩ := bnd_ok X
      refine r_callS1 18 dX9_mul_15 rfl lmX9_63 (mtX9_size G hG hc) rfl ⟨(Nat.zero_le _), (Nat.zero_le _)⟩ ?_
      refine r_ldc2 21 dX9_mul_18 rfl lkX9_67 ?_
      refine r_lif_gt 52 25 dX9_mul_21 dX9_mul_22 (by decide) rfl X (fun _ X => ?_) (fun _ X => ?_)
      · refine r_ald0 53 dX9_mul_52 rfl ?_
        refine r_iconst 54 _ dX9_mul_53 rfl ki_1 ?_
        refine r_pZ 57 dX9_mul_54 rfl lpX9_69 rfl X (fun h103 X => ?_)
        refine r_lconst 58 _ dX9_mul_57 rfl kl_0 ?_
        exact r_retL dX9_mul_58 (Nat.zero_le _) (Nat.zero_le _) X
      · refine r_lld3 26 dX9_mul_25 rfl ?_
        obtain ⟨x105, h104, hc, X⟩ := bnd_ok X
        refine r_callS1 29 dX9_mul_26 rfl lmX9_63 (mtX9_size G hG hc) rfl ⟨(Nat.zero_le _), (Nat.zero_le _)⟩ ?_
        refine r_ldc2 32 dX9_mul_29 rfl lkX9_67 ?_
        refine r_lif_gt 52 36 dX9_mul_32 dX9_mul_33 (by decide) rfl X (fun _ X => ?_) (fun _ X => ?_)
        · refine r_ald0 53 dX9_mul_52 rfl ?_
          refine r_iconst 54 _ dX9_mul_53 rfl ki_1 ?_
          refine r_pZ 57 dX9_mul_54 rfl lpX9_69 rfl X (fun h106 X => ?_)
          refine r_lconst 58 _ dX9_mul_57 rfl kl_0 ?_
          exact r_retL dX9_mul_58 (Nat.zero_le _) (Nat.zero_le _) X
        · refine r_lld1 37 dX9_mul_36 rfl ?_
          obtain ⟨x108, h107, hc, X⟩ := bnd_ok X
          refine r_callS1 40 dX9_mul_37 rfl lmX9_63 (mtX9_size G hG hc) rfl ⟨(Nat.zero_le _), (Nat.zero_le _)⟩ ?_
          refine r_ldc2 43 dX9_mul_40 rfl lkX9_67 ?_
          refine r_lld3 44 dX9_mul_43 rfl ?_
          obtain ⟨x110, h109, hc, X⟩ := bnd_ok X
          refine r_callS1 47 dX9_mul_44 rfl lmX9_63 (mtX9_size G hG hc) rfl ⟨(Nat.zero_le _), (Nat.zero_le _)⟩ ?_
          refine r_ldiv 48 dX9_mul_47 rfl X (fun X => ?_)
          refine r_lif_le 59 52 dX9_mul_48 dX9_mul_49 (by decide) rfl X (fun _ X => ?_) (fun _ X => ?_)
          · refine r_lld1 60 dX9_mul_59 rfl ?_
            refine r_lld3 61 dX9_mul_60 rfl ?_
            refine r_lmul 62 dX9_mul_61 rfl ?_
            exact r_retL dX9_mul_62 (Nat.zero_le _) (Nat.zero_le _) X
          · refine r_ald0 53 dX9_mul_52 rfl ?_
            refine r_iconst 54 _ dX9_mul_53 rfl ki_1 ?_
            refine r_pZ 57 dX9_mul_54 rfl lpX9_69 rfl X (fun h111 X => ?_)
            refine r_lconst 58 _ dX9_mul_57 rfl kl_0 ?_
            exact r_retL dX9_mul_58 (Nat.zero_le _) (Nat.zero_le _) X
    · refine r_lconst 13 _ dX9_mul_12 rfl kl_0 ?_
      exact r_retL dX9_mul_13 (Nat.zero_le _) (Nat.zero_le _) X
theorem mtX9_mul (G : GG) (hG : GT G) {a0 : Nat} {x0 : Int64} {x1 : Int64} {h h' : AH} {v : Int64} (hc : fX9_mul a0 x0 x1 h = some (v, h')) : AMet G yX9_mul cX9_mul 5 (some .long) 1 21 0 0 [.ref (gB G + a0), .long x0, .long x1] h (some (.long v)) h' :=
  amet_of false [some (.ref (gB G + a0)), some (.long x0), none, some (.long x1), none] (by decide +kernel) (by decide) (Nat.le_of_ble_eq_true rfl) rfl (Nat.le_of_ble_eq_true rfl) (wX9_mul G hG (v, h') _ _ _ h hc)
abbrev eX9_exactly (G : GG) (R : Unit × AH) : EE := eM G 19 none false 3 74 0 0 none R.2
theorem wX9_exactly_31 (G : GG) (hG : GT G) (R : Unit × AH) (l0 : Nat) (l2 : Int64) (l4 : Int64) (l6 : Int64) (l8 : Int64) (l10 : Int64) (l12 : Int64) (s0 : Int64) (h : AH) (X : fX9_exactly_31 l0 l2 l4 l6 l8 l10 l12 s0 h = some R) : AW (eX9_exactly G R) RX9 cX9_exactly 31 [some (.ref (gB G + l0)), none, some (.long l2), none, some (.long l4), none, some (.long l6), none, some (.long l8), none, some (.long l10), none, some (.long l12), none, none, none, none, none, none] [.long s0] h 0 0 := by
  unfold fX9_exactly_31 at X
  refine r_lst17 33 dX9_exactly_31 rfl rfl ?_
  refine r_ald0 34 dX9_exactly_33 rfl ?_
  refine r_ald0 35 dX9_exactly_34 rfl ?_
  refine r_ald0 36 dX9_exactly_35 rfl ?_
  refine r_lld2 37 dX9_exactly_36 rfl ?_
  refine r_lld12 39 dX9_exactly_37 rfl ?_
  obtain ⟨hs, X⟩ := r_cv X
  obtain ⟨x102, h101, hc, X⟩ := bnd_ok X
  refine r_callV2 42 dX9_exactly_39 rfl lmX9_151 hs (mtX9_mul G hG hc) rfl ⟨(Nat.zero_le _), (Nat.zero_le _)⟩ ?_
  refine r_lld17 44 dX9_exactly_42 rfl ?_
  refine r_ald0 45 dX9_exactly_44 rfl ?_
  refine r_lld8 47 dX9_exactly_45 rfl ?_
  refine r_lld6 49 dX9_exactly_47 rfl ?_
  obtain ⟨hs, X⟩ := r_cv X
  obtain ⟨x104, h103, hc, X⟩ := bnd_ok X
  refine r_callV2 52 dX9_exactly_49 rfl lmX9_151 hs (mtX9_mul G hG hc) rfl ⟨(Nat.zero_le _), (Nat.zero_le _)⟩ ?_
  refine r_lmul 53 dX9_exactly_52 rfl ?_
  obtain ⟨hs, X⟩ := r_cv X
  obtain ⟨x106, h105, hc, X⟩ := bnd_ok X
  refine r_callV2 56 dX9_exactly_53 rfl lmX9_154 hs (mtX9_add G hG hc) rfl ⟨(Nat.zero_le _), (Nat.zero_le _)⟩ ?_
  refine r_pL 59 dX9_exactly_56 rfl lpX9_157 rfl X (fun h107 X => ?_)
  refine r_ald0 60 dX9_exactly_59 rfl ?_
  refine r_ald0 61 dX9_exactly_60 rfl ?_
  refine r_ald0 62 dX9_exactly_61 rfl ?_
  refine r_lld4 64 dX9_exactly_62 rfl ?_
  refine r_lld12 66 dX9_exactly_64 rfl ?_
  obtain ⟨hs, X⟩ := r_cv X
  obtain ⟨x109, h108, hc, X⟩ := bnd_ok X
  refine r_callV2 69 dX9_exactly_66 rfl lmX9_151 hs (mtX9_mul G hG hc) rfl ⟨(Nat.zero_le _), (Nat.zero_le _)⟩ ?_
  refine r_lld17 71 dX9_exactly_69 rfl ?_
  refine r_ald0 72 dX9_exactly_71 rfl ?_
  refine r_lld10 74 dX9_exactly_72 rfl ?_
  refine r_lld6 76 dX9_exactly_74 rfl ?_
  obtain ⟨hs, X⟩ := r_cv X
  obtain ⟨x111, h110, hc, X⟩ := bnd_ok X
  refine r_callV2 79 dX9_exactly_76 rfl lmX9_151 hs (mtX9_mul G hG hc) rfl ⟨(Nat.zero_le _), (Nat.zero_le _)⟩ ?_
  refine r_lmul 80 dX9_exactly_79 rfl ?_
  obtain ⟨hs, X⟩ := r_cv X
  obtain ⟨x113, h112, hc, X⟩ := bnd_ok X
  refine r_callV2 83 dX9_exactly_80 rfl lmX9_154 hs (mtX9_add G hG hc) rfl ⟨(Nat.zero_le _), (Nat.zero_le _)⟩ ?_
  refine r_pL 86 dX9_exactly_83 rfl lpX9_160 rfl X (fun h114 X => ?_)
  refine r_ald0 87 dX9_exactly_86 rfl ?_
  refine r_ald0 88 dX9_exactly_87 rfl ?_
  refine r_lld6 90 dX9_exactly_88 rfl ?_
  refine r_lld12 92 dX9_exactly_90 rfl ?_
  obtain ⟨hs, X⟩ := r_cv X
  obtain ⟨x116, h115, hc, X⟩ := bnd_ok X
  refine r_callV2 95 dX9_exactly_92 rfl lmX9_151 hs (mtX9_mul G hG hc) rfl ⟨(Nat.zero_le _), (Nat.zero_le _)⟩ ?_
  refine r_pL 98 dX9_exactly_95 rfl lpX9_163 rfl X (fun h117 X => ?_)
  refine r_goto 319 dX9_exactly_98 (by decide) ?_
  refine r_ald0 320 dX9_exactly_319 rfl ?_
  refine r_gI 323 dX9_exactly_320 rfl lfX9_69 rfl X (fun x118 X => ?_)
  refine r_if_ne 330 326 dX9_exactly_323 (by decide) rfl X (fun _ X => ?_) (fun _ X => ?_)
  · exact r_retV dX9_exactly_330 (Nat.zero_le _) (Nat.zero_le _) X
  · refine r_ald0 327 dX9_exactly_326 rfl ?_
    obtain ⟨hs, X⟩ := r_cv X
    obtain ⟨_, h119, hc, X⟩ := bnd_ok X
    refine r_callV0v 330 dX9_exactly_327 rfl lmX9_166 hs (mtX9_checkOut G hG hc) rfl ⟨(Nat.zero_le _), (Nat.zero_le _)⟩ ?_
    exact r_retV dX9_exactly_330 (Nat.zero_le _) (Nat.zero_le _) X
theorem wX9_exactly (G : GG) (hG : GT G) (R : Unit × AH) (a0 : Nat) (x0 : Int32) (x1 : Int64) (x2 : Int64) (x3 : Int64) (x4 : Int64) (x5 : Int64) (x6 : Int64) (x7 : Int64) (x8 : Int32) (h : AH) (X : fX9_exactly a0 x0 x1 x2 x3 x4 x5 x6 x7 x8 h = some R) : AW (eX9_exactly G R) RX9 cX9_exactly 0 [some (.ref (gB G + a0)), some (.int x0), some (.long x1), none, some (.long x2), none, some (.long x3), none, some (.long x4), none, some (.long x5), none, some (.long x6), none, some (.long x7), none, some (.int x8), none, none] [] h 0 0 := by
  unfold fX9_exactly at X
  refine r_ald0 1 dX9_exactly_0 rfl ?_
  refine r_iconst 2 _ dX9_exactly_1 rfl ki_0 ?_
  refine r_pZ 5 dX9_exactly_2 rfl lpX9_69 rfl X (fun h101 X => ?_)
  refine r_ald0 6 dX9_exactly_5 rfl ?_
  refine r_lld14 8 dX9_exactly_6 rfl ?_
  refine r_pL 11 dX9_exactly_8 rfl lpX9_145 rfl X (fun h102 X => ?_)
  refine r_ild1 12 dX9_exactly_11 rfl ?_
  refine r_if_eq 20 15 dX9_exactly_12 (by decide) rfl X (fun _ X => ?_) (fun _ X => ?_)
  · refine r_ild1 21 dX9_exactly_20 rfl ?_
    refine r_if_ne 28 24 dX9_exactly_21 (by decide) rfl X (fun _ X => ?_) (fun _ X => ?_)
    · refine r_ldc2 31 dX9_exactly_28 rfl lkX9_149 ?_
      exact r_cut (wX9_exactly_31 G hG R _ _ _ _ _ _ _ _ _ X) ⟨rfl, ⟨rfl, ⟨rfl, ⟨rfl, ⟨rfl, ⟨rfl, ⟨rfl, trivial⟩⟩⟩⟩⟩⟩⟩
    · refine r_lconst 25 _ dX9_exactly_24 rfl kl_1 ?_
      refine r_goto 31 dX9_exactly_25 (by decide) ?_
      exact r_cut (wX9_exactly_31 G hG R _ _ _ _ _ _ _ _ _ X) ⟨rfl, ⟨rfl, ⟨rfl, ⟨rfl, ⟨rfl, ⟨rfl, ⟨rfl, trivial⟩⟩⟩⟩⟩⟩⟩
  · refine r_ild1 16 dX9_exactly_15 rfl ?_
    refine r_iconst 17 _ dX9_exactly_16 rfl ki_1 ?_
    refine r_icmp_ne 101 20 dX9_exactly_17 (by decide) rfl X (fun _ X => ?_) (fun _ X => ?_)
    · refine r_ild1 102 dX9_exactly_101 rfl ?_
      refine r_iconst 103 _ dX9_exactly_102 rfl ki_2 ?_
      refine r_icmp_ne 173 106 dX9_exactly_103 (by decide) rfl X (fun _ X => ?_) (fun _ X => ?_)
      · refine r_ild16 175 dX9_exactly_173 rfl ?_
        refine r_if_ne 216 178 dX9_exactly_175 (by decide) rfl X (fun _ X => ?_) (fun _ X => ?_)
        · refine r_ald0 217 dX9_exactly_216 rfl ?_
          refine r_ald0 218 dX9_exactly_217 rfl ?_
          refine r_ald0 219 dX9_exactly_218 rfl ?_
          refine r_ald0 220 dX9_exactly_219 rfl ?_
          refine r_lld2 221 dX9_exactly_220 rfl ?_
          refine r_lld8 223 dX9_exactly_221 rfl ?_
          obtain ⟨hs, X⟩ := r_cv X
          obtain ⟨x104, h103, hc, X⟩ := bnd_ok X
          refine r_callV2 226 dX9_exactly_223 rfl lmX9_151 hs (mtX9_mul G hG hc) rfl ⟨(Nat.zero_le _), (Nat.zero_le _)⟩ ?_
          refine r_ald0 227 dX9_exactly_226 rfl ?_
          refine r_ald0 228 dX9_exactly_227 rfl ?_
          refine r_lld4 230 dX9_exactly_228 rfl ?_
          refine r_lld10 232 dX9_exactly_230 rfl ?_
          obtain ⟨hs, X⟩ := r_cv X
          obtain ⟨x106, h105, hc, X⟩ := bnd_ok X
          refine r_callV2 235 dX9_exactly_232 rfl lmX9_151 hs (mtX9_mul G hG hc) rfl ⟨(Nat.zero_le _), (Nat.zero_le _)⟩ ?_
          refine r_lld14 237 dX9_exactly_235 rfl ?_
          obtain ⟨hs, X⟩ := r_cv X
          obtain ⟨x108, h107, hc, X⟩ := bnd_ok X
          refine r_callV2 240 dX9_exactly_237 rfl lmX9_151 hs (mtX9_mul G hG hc) rfl ⟨(Nat.zero_le _), (Nat.zero_le _)⟩ ?_
          refine r_lneg 241 dX9_exactly_240 rfl ?_
          obtain ⟨hs, X⟩ := r_cv X
          obtain ⟨x110, h109, hc, X⟩ := bnd_ok X
          refine r_callV2 244 dX9_exactly_241 rfl lmX9_154 hs (mtX9_add G hG hc) rfl ⟨(Nat.zero_le _), (Nat.zero_le _)⟩ ?_
          refine r_lld12 246 dX9_exactly_244 rfl ?_
          obtain ⟨hs, X⟩ := r_cv X
          obtain ⟨x112, h111, hc, X⟩ := bnd_ok X
          refine r_callV2 249 dX9_exactly_246 rfl lmX9_151 hs (mtX9_mul G hG hc) rfl ⟨(Nat.zero_le _), (Nat.zero_le _)⟩ ?_
          refine r_pL 252 dX9_exactly_249 rfl lpX9_157 rfl X (fun h113 X => ?_)
          refine r_ald0 253 dX9_exactly_252 rfl ?_
          refine r_ald0 254 dX9_exactly_253 rfl ?_
          refine r_ald0 255 dX9_exactly_254 rfl ?_
          refine r_ald0 256 dX9_exactly_255 rfl ?_
          refine r_lld4 258 dX9_exactly_256 rfl ?_
          refine r_lld8 260 dX9_exactly_258 rfl ?_
          obtain ⟨hs, X⟩ := r_cv X
          obtain ⟨x115, h114, hc, X⟩ := bnd_ok X
          refine r_callV2 263 dX9_exactly_260 rfl lmX9_151 hs (mtX9_mul G hG hc) rfl ⟨(Nat.zero_le _), (Nat.zero_le _)⟩ ?_
          refine r_ald0 264 dX9_exactly_263 rfl ?_
          refine r_lld2 265 dX9_exactly_264 rfl ?_
          refine r_lld10 267 dX9_exactly_265 rfl ?_
          obtain ⟨hs, X⟩ := r_cv X
          obtain ⟨x117, h116, hc, X⟩ := bnd_ok X
          refine r_callV2 270 dX9_exactly_267 rfl lmX9_151 hs (mtX9_mul G hG hc) rfl ⟨(Nat.zero_le _), (Nat.zero_le _)⟩ ?_
          refine r_lneg 271 dX9_exactly_270 rfl ?_
          obtain ⟨hs, X⟩ := r_cv X
          obtain ⟨x119, h118, hc, X⟩ := bnd_ok X
          refine r_callV2 274 dX9_exactly_271 rfl lmX9_154 hs (mtX9_add G hG hc) rfl ⟨(Nat.zero_le _), (Nat.zero_le _)⟩ ?_
          refine r_lld12 276 dX9_exactly_274 rfl ?_
          obtain ⟨hs, X⟩ := r_cv X
          obtain ⟨x121, h120, hc, X⟩ := bnd_ok X
          refine r_callV2 279 dX9_exactly_276 rfl lmX9_151 hs (mtX9_mul G hG hc) rfl ⟨(Nat.zero_le _), (Nat.zero_le _)⟩ ?_
          refine r_pL 282 dX9_exactly_279 rfl lpX9_160 rfl X (fun h122 X => ?_)
          refine r_ald0 283 dX9_exactly_282 rfl ?_
          refine r_ald0 284 dX9_exactly_283 rfl ?_
          refine r_ald0 285 dX9_exactly_284 rfl ?_
          refine r_ald0 286 dX9_exactly_285 rfl ?_
          refine r_lld8 288 dX9_exactly_286 rfl ?_
          refine r_lld8 290 dX9_exactly_288 rfl ?_
          obtain ⟨hs, X⟩ := r_cv X
          obtain ⟨x124, h123, hc, X⟩ := bnd_ok X
          refine r_callV2 293 dX9_exactly_290 rfl lmX9_151 hs (mtX9_mul G hG hc) rfl ⟨(Nat.zero_le _), (Nat.zero_le _)⟩ ?_
          refine r_ald0 294 dX9_exactly_293 rfl ?_
          refine r_ald0 295 dX9_exactly_294 rfl ?_
          refine r_lld10 297 dX9_exactly_295 rfl ?_
          refine r_lld10 299 dX9_exactly_297 rfl ?_
          obtain ⟨hs, X⟩ := r_cv X
          obtain ⟨x126, h125, hc, X⟩ := bnd_ok X
          refine r_callV2 302 dX9_exactly_299 rfl lmX9_151 hs (mtX9_mul G hG hc) rfl ⟨(Nat.zero_le _), (Nat.zero_le _)⟩ ?_
          refine r_lld14 304 dX9_exactly_302 rfl ?_
          obtain ⟨hs, X⟩ := r_cv X
          obtain ⟨x128, h127, hc, X⟩ := bnd_ok X
          refine r_callV2 307 dX9_exactly_304 rfl lmX9_151 hs (mtX9_mul G hG hc) rfl ⟨(Nat.zero_le _), (Nat.zero_le _)⟩ ?_
          refine r_lneg 308 dX9_exactly_307 rfl ?_
          obtain ⟨hs, X⟩ := r_cv X
          obtain ⟨x130, h129, hc, X⟩ := bnd_ok X
          refine r_callV2 311 dX9_exactly_308 rfl lmX9_154 hs (mtX9_add G hG hc) rfl ⟨(Nat.zero_le _), (Nat.zero_le _)⟩ ?_
          refine r_lld6 313 dX9_exactly_311 rfl ?_
          obtain ⟨hs, X⟩ := r_cv X
          obtain ⟨x132, h131, hc, X⟩ := bnd_ok X
          refine r_callV2 316 dX9_exactly_313 rfl lmX9_151 hs (mtX9_mul G hG hc) rfl ⟨(Nat.zero_le _), (Nat.zero_le _)⟩ ?_
          refine r_pL 319 dX9_exactly_316 rfl lpX9_163 rfl X (fun h133 X => ?_)
          refine r_ald0 320 dX9_exactly_319 rfl ?_
          refine r_gI 323 dX9_exactly_320 rfl lfX9_69 rfl X (fun x134 X => ?_)
          refine r_if_ne 330 326 dX9_exactly_323 (by decide) rfl X (fun _ X => ?_) (fun _ X => ?_)
          · exact r_retV dX9_exactly_330 (Nat.zero_le _) (Nat.zero_le _) X
          · refine r_ald0 327 dX9_exactly_326 rfl ?_
            obtain ⟨hs, X⟩ := r_cv X
            obtain ⟨_, h135, hc, X⟩ := bnd_ok X
            refine r_callV0v 330 dX9_exactly_327 rfl lmX9_166 hs (mtX9_checkOut G hG hc) rfl ⟨(Nat.zero_le _), (Nat.zero_le _)⟩ ?_
            exact r_retV dX9_exactly_330 (Nat.zero_le _) (Nat.zero_le _) X
        · refine r_ald0 179 dX9_exactly_178 rfl ?_
          refine r_ald0 180 dX9_exactly_179 rfl ?_
          refine r_lld2 181 dX9_exactly_180 rfl ?_
          refine r_lld12 183 dX9_exactly_181 rfl ?_
          obtain ⟨hs, X⟩ := r_cv X
          obtain ⟨x137, h136, hc, X⟩ := bnd_ok X
          refine r_callV2 186 dX9_exactly_183 rfl lmX9_151 hs (mtX9_mul G hG hc) rfl ⟨(Nat.zero_le _), (Nat.zero_le _)⟩ ?_
          refine r_pL 189 dX9_exactly_186 rfl lpX9_157 rfl X (fun h138 X => ?_)
          refine r_ald0 190 dX9_exactly_189 rfl ?_
          refine r_ald0 191 dX9_exactly_190 rfl ?_
          refine r_lld4 193 dX9_exactly_191 rfl ?_
          refine r_lld12 195 dX9_exactly_193 rfl ?_
          obtain ⟨hs, X⟩ := r_cv X
          obtain ⟨x140, h139, hc, X⟩ := bnd_ok X
          refine r_callV2 198 dX9_exactly_195 rfl lmX9_151 hs (mtX9_mul G hG hc) rfl ⟨(Nat.zero_le _), (Nat.zero_le _)⟩ ?_
          refine r_pL 201 dX9_exactly_198 rfl lpX9_160 rfl X (fun h141 X => ?_)
          refine r_ald0 202 dX9_exactly_201 rfl ?_
          refine r_ald0 203 dX9_exactly_202 rfl ?_
          refine r_lld6 205 dX9_exactly_203 rfl ?_
          refine r_lld8 207 dX9_exactly_205 rfl ?_
          obtain ⟨hs, X⟩ := r_cv X
          obtain ⟨x143, h142, hc, X⟩ := bnd_ok X
          refine r_callV2 210 dX9_exactly_207 rfl lmX9_151 hs (mtX9_mul G hG hc) rfl ⟨(Nat.zero_le _), (Nat.zero_le _)⟩ ?_
          refine r_pL 213 dX9_exactly_210 rfl lpX9_163 rfl X (fun h144 X => ?_)
          refine r_goto 319 dX9_exactly_213 (by decide) ?_
          refine r_ald0 320 dX9_exactly_319 rfl ?_
          refine r_gI 323 dX9_exactly_320 rfl lfX9_69 rfl X (fun x145 X => ?_)
          refine r_if_ne 330 326 dX9_exactly_323 (by decide) rfl X (fun _ X => ?_) (fun _ X => ?_)
          · exact r_retV dX9_exactly_330 (Nat.zero_le _) (Nat.zero_le _) X
          · refine r_ald0 327 dX9_exactly_326 rfl ?_
            obtain ⟨hs, X⟩ := r_cv X
            obtain ⟨_, h146, hc, X⟩ := bnd_ok X
            refine r_callV0v 330 dX9_exactly_327 rfl lmX9_166 hs (mtX9_checkOut G hG hc) rfl ⟨(Nat.zero_le _), (Nat.zero_le _)⟩ ?_
            exact r_retV dX9_exactly_330 (Nat.zero_le _) (Nat.zero_le _) X
      · refine r_ald0 107 dX9_exactly_106 rfl ?_
        refine r_ald0 108 dX9_exactly_107 rfl ?_
        refine r_ald0 109 dX9_exactly_108 rfl ?_
        refine r_lld2 110 dX9_exactly_109 rfl ?_
        refine r_lld8 112 dX9_exactly_110 rfl ?_
        obtain ⟨hs, X⟩ := r_cv X
        obtain ⟨x148, h147, hc, X⟩ := bnd_ok X
        refine r_callV2 115 dX9_exactly_112 rfl lmX9_151 hs (mtX9_mul G hG hc) rfl ⟨(Nat.zero_le _), (Nat.zero_le _)⟩ ?_
        refine r_ald0 116 dX9_exactly_115 rfl ?_
        refine r_ald0 117 dX9_exactly_116 rfl ?_
        refine r_lld4 119 dX9_exactly_117 rfl ?_
        refine r_lld10 121 dX9_exactly_119 rfl ?_
        obtain ⟨hs, X⟩ := r_cv X
        obtain ⟨x150, h149, hc, X⟩ := bnd_ok X
        refine r_callV2 124 dX9_exactly_121 rfl lmX9_151 hs (mtX9_mul G hG hc) rfl ⟨(Nat.zero_le _), (Nat.zero_le _)⟩ ?_
        refine r_lld14 126 dX9_exactly_124 rfl ?_
        obtain ⟨hs, X⟩ := r_cv X
        obtain ⟨x152, h151, hc, X⟩ := bnd_ok X
        refine r_callV2 129 dX9_exactly_126 rfl lmX9_151 hs (mtX9_mul G hG hc) rfl ⟨(Nat.zero_le _), (Nat.zero_le _)⟩ ?_
        obtain ⟨hs, X⟩ := r_cv X
        obtain ⟨x154, h153, hc, X⟩ := bnd_ok X
        refine r_callV2 132 dX9_exactly_129 rfl lmX9_154 hs (mtX9_add G hG hc) rfl ⟨(Nat.zero_le _), (Nat.zero_le _)⟩ ?_
        refine r_pL 135 dX9_exactly_132 rfl lpX9_157 rfl X (fun h155 X => ?_)
        refine r_ald0 136 dX9_exactly_135 rfl ?_
        refine r_ald0 137 dX9_exactly_136 rfl ?_
        refine r_ald0 138 dX9_exactly_137 rfl ?_
        refine r_lld2 139 dX9_exactly_138 rfl ?_
        refine r_lld10 141 dX9_exactly_139 rfl ?_
        obtain ⟨hs, X⟩ := r_cv X
        obtain ⟨x157, h156, hc, X⟩ := bnd_ok X
        refine r_callV2 144 dX9_exactly_141 rfl lmX9_151 hs (mtX9_mul G hG hc) rfl ⟨(Nat.zero_le _), (Nat.zero_le _)⟩ ?_
        refine r_ald0 145 dX9_exactly_144 rfl ?_
        refine r_lld4 147 dX9_exactly_145 rfl ?_
        refine r_lld8 149 dX9_exactly_147 rfl ?_
        obtain ⟨hs, X⟩ := r_cv X
        obtain ⟨x159, h158, hc, X⟩ := bnd_ok X
        refine r_callV2 152 dX9_exactly_149 rfl lmX9_151 hs (mtX9_mul G hG hc) rfl ⟨(Nat.zero_le _), (Nat.zero_le _)⟩ ?_
        obtain ⟨hs, X⟩ := r_cv X
        obtain ⟨x161, h160, hc, X⟩ := bnd_ok X
        refine r_callV2 155 dX9_exactly_152 rfl lmX9_154 hs (mtX9_add G hG hc) rfl ⟨(Nat.zero_le _), (Nat.zero_le _)⟩ ?_
        refine r_pL 158 dX9_exactly_155 rfl lpX9_160 rfl X (fun h162 X => ?_)
        refine r_ald0 159 dX9_exactly_158 rfl ?_
        refine r_ald0 160 dX9_exactly_159 rfl ?_
        refine r_lld6 162 dX9_exactly_160 rfl ?_
        refine r_lld12 164 dX9_exactly_162 rfl ?_
        obtain ⟨hs, X⟩ := r_cv X
        obtain ⟨x164, h163, hc, X⟩ := bnd_ok X
        refine r_callV2 167 dX9_exactly_164 rfl lmX9_151 hs (mtX9_mul G hG hc) rfl ⟨(Nat.zero_le _), (Nat.zero_le _)⟩ ?_
        refine r_pL 170 dX9_exactly_167 rfl lpX9_163 rfl X (fun h165 X => ?_)
        refine r_goto 319 dX9_exactly_170 (by decide) ?_
        refine r_ald0 320 dX9_exactly_319 rfl ?_
        refine r_gI 323 dX9_exactly_320 rfl lfX9_69 rfl X (fun x166 X => ?_)
        refine r_if_ne 330 326 dX9_exactly_323 (by decide) rfl X (fun _ X => ?_) (fun _ X => ?_)
        · exact r_retV dX9_exactly_330 (Nat.zero_le _) (Nat.zero_le _) X
        · refine r_ald0 327 dX9_exactly_326 rfl ?_
          obtain ⟨hs, X⟩ := r_cv X
          obtain ⟨_, h167, hc, X⟩ := bnd_ok X
          refine r_callV0v 330 dX9_exactly_327 rfl lmX9_166 hs (mtX9_checkOut G hG hc) rfl ⟨(Nat.zero_le _), (Nat.zero_le _)⟩ ?_
          exact r_retV dX9_exactly_330 (Nat.zero_le _) (Nat.zero_le _) X
    · refine r_ild1 21 dX9_exactly_20 rfl ?_
      refine r_if_ne 28 24 dX9_exactly_21 (by decide) rfl X (fun _ X => ?_) (fun _ X => ?_)
      · refine r_ldc2 31 dX9_exactly_28 rfl lkX9_149 ?_
        exact r_cut (wX9_exactly_31 G hG R _ _ _ _ _ _ _ _ _ X) ⟨rfl, ⟨rfl, ⟨rfl, ⟨rfl, ⟨rfl, ⟨rfl, ⟨rfl, trivial⟩⟩⟩⟩⟩⟩⟩
      · refine r_lconst 25 _ dX9_exactly_24 rfl kl_1 ?_
        refine r_goto 31 dX9_exactly_25 (by decide) ?_
        exact r_cut (wX9_exactly_31 G hG R _ _ _ _ _ _ _ _ _ X) ⟨rfl, ⟨rfl, ⟨rfl, ⟨rfl, ⟨rfl, ⟨rfl, ⟨rfl, trivial⟩⟩⟩⟩⟩⟩⟩
theorem mtX9_exactly (G : GG) (hG : GT G) {a0 : Nat} {x0 : Int32} {x1 : Int64} {x2 : Int64} {x3 : Int64} {x4 : Int64} {x5 : Int64} {x6 : Int64} {x7 : Int64} {x8 : Int32} {h h' : AH} {v : Unit} (hc : fX9_exactly a0 x0 x1 x2 x3 x4 x5 x6 x7 x8 h = some (v, h')) : AMet G yX9_exactly cX9_exactly 19 none 3 74 0 0 [.ref (gB G + a0), .int x0, .long x1, .long x2, .long x3, .long x4, .long x5, .long x6, .long x7, .int x8] h none h' :=
  amet_of false [some (.ref (gB G + a0)), some (.int x0), some (.long x1), none, some (.long x2), none, some (.long x3), none, some (.long x4), none, some (.long x5), none, some (.long x6), none, some (.long x7), none, some (.int x8), none, none] (by decide +kernel) (by decide) (Nat.le_of_ble_eq_true rfl) rfl (Nat.le_of_ble_eq_true rfl) (wX9_exactly G hG (v, h') _ _ _ _ _ _ _ _ _ _ h hc)
abbrev eX9_floor (G : GG) (R : Int64 × AH) : EE := eM G 6 (some .long) false 0 0 0 0 (some (.long R.1)) R.2
theorem wX9_floor_24 (G : GG) (hG : GT G) (R : Int64 × AH) (l2 : Int64) (l4 : Int64) (s0 : Int32) (h : AH) (X : fX9_floor_24 l2 l4 s0 h = some R) : AW (eX9_floor G R) RX9 cX9_floor 24 [none, none, some (.long l2), none, some (.long l4), none] [.int s0] h 0 0 := by
  unfold fX9_floor_24 at X
  refine r_lld2 25 dX9_floor_24 rfl ?_
  refine r_lconst 26 _ dX9_floor_25 rfl kl_0 ?_
  refine r_lif_ge 34 30 dX9_floor_26 dX9_floor_27 (by decide) rfl X (fun _ X => ?_) (fun _ X => ?_)
  · refine r_iconst 35 _ dX9_floor_34 rfl ki_0 ?_
    refine r_icmp_eq 45 38 dX9_floor_35 (by decide) rfl X (fun _ X => ?_) (fun _ X => ?_)
    · refine r_lld4 47 dX9_floor_45 rfl ?_
      exact r_retL dX9_floor_47 (Nat.zero_le _) (Nat.zero_le _) X
    · refine r_lld4 40 dX9_floor_38 rfl ?_
      refine r_lconst 41 _ dX9_floor_40 rfl kl_1 ?_
      refine r_lsub 42 dX9_floor_41 rfl ?_
      refine r_goto 47 dX9_floor_42 (by decide) ?_
      exact r_retL dX9_floor_47 (Nat.zero_le _) (Nat.zero_le _) X
  · refine r_iconst 31 _ dX9_floor_30 rfl ki_1 ?_
    refine r_goto 35 dX9_floor_31 (by decide) ?_
    refine r_icmp_eq 45 38 dX9_floor_35 (by decide) rfl X (fun _ X => ?_) (fun _ X => ?_)
    · refine r_lld4 47 dX9_floor_45 rfl ?_
      exact r_retL dX9_floor_47 (Nat.zero_le _) (Nat.zero_le _) X
    · refine r_lld4 40 dX9_floor_38 rfl ?_
      refine r_lconst 41 _ dX9_floor_40 rfl kl_1 ?_
      refine r_lsub 42 dX9_floor_41 rfl ?_
      refine r_goto 47 dX9_floor_42 (by decide) ?_
      exact r_retL dX9_floor_47 (Nat.zero_le _) (Nat.zero_le _) X
theorem wX9_floor (G : GG) (hG : GT G) (R : Int64 × AH) (x0 : Int64) (x1 : Int64) (h : AH) (X : fX9_floor x0 x1 h = some R) : AW (eX9_floor G R) RX9 cX9_floor 0 [some (.long x0), none, some (.long x1), none, none, none] [] h 0 0 := by
  unfold fX9_floor at X
  refine r_lld0 1 dX9_floor_0 rfl ?_
  refine r_lld2 2 dX9_floor_1 rfl ?_
  refine r_ldiv 3 dX9_floor_2 rfl X (fun X => ?_)
  refine r_lst4w 5 dX9_floor_3 rfl rfl X (fun x101 X => ?_)
  refine r_lld0 6 dX9_floor_5 rfl ?_
  refine r_lld2 7 dX9_floor_6 rfl ?_
  refine r_lrem 8 dX9_floor_7 rfl X (fun X => ?_)
  refine r_lconst 9 _ dX9_floor_8 rfl kl_0 ?_
  refine r_lif_eq 45 13 dX9_floor_9 dX9_floor_10 (by decide) rfl X (fun _ X => ?_) (fun _ X => ?_)
  · refine r_lld4 47 dX9_floor_45 rfl ?_
    exact r_retL dX9_floor_47 (Nat.zero_le _) (Nat.zero_le _) X
  · refine r_lld0 14 dX9_floor_13 rfl ?_
    refine r_lconst 15 _ dX9_floor_14 rfl kl_0 ?_
    refine r_lif_ge 23 19 dX9_floor_15 dX9_floor_16 (by decide) rfl X (fun _ X => ?_) (fun _ X => ?_)
    · refine r_iconst 24 _ dX9_floor_23 rfl ki_0 ?_
      exact r_cut (wX9_floor_24 G hG R _ _ _ _ X) ⟨rfl, ⟨rfl, trivial⟩⟩
    · refine r_iconst 20 _ dX9_floor_19 rfl ki_1 ?_
      refine r_goto 24 dX9_floor_20 (by decide) ?_
      exact r_cut (wX9_floor_24 G hG R _ _ _ _ X) ⟨rfl, ⟨rfl, trivial⟩⟩
theorem mtX9_floor (G : GG) (hG : GT G) {x0 : Int64} {x1 : Int64} {h h' : AH} {v : Int64} (hc : fX9_floor x0 x1 h = some (v, h')) : AMet G yX9_floor cX9_floor 6 (some .long) 0 0 0 0 [.long x0, .long x1] h (some (.long v)) h' :=
  amet_of false [some (.long x0), none, some (.long x1), none, none, none] (by decide +kernel) (by decide) (Nat.le_of_ble_eq_true rfl) rfl (Nat.le_of_ble_eq_true rfl) (wX9_floor G hG (v, h') _ _ h hc)
abbrev eX9_give (G : GG) (R : Unit × AH) : EE := eM G 4 none false 0 0 0 0 none R.2
theorem wX9_give (G : GG) (hG : GT G) (R : Unit × AH) (a0 : Nat) (x0 : Int32) (x1 : Int64) (h : AH) (X : fX9_give a0 x0 x1 h = some R) : AW (eX9_give G R) RX9 cX9_give 0 [some (.ref (gB G + a0)), some (.int x0), some (.long x1), none] [] h 0 0 := by
  unfold fX9_give at X
  refine r_ald0 1 dX9_give_0 rfl ?_
  refine r_gR 4 dX9_give_1 rfl lfX9_23 rfl X (fun b101 X => ?_)
  refine r_bipush 6 _ dX9_give_4 rfl kb_60 ?_
  refine r_ild1 7 dX9_give_6 rfl ?_
  refine r_imul 8 dX9_give_7 rfl ?_
  refine r_ald0 9 dX9_give_8 rfl ?_
  refine r_gR 12 dX9_give_9 rfl lfX9_17 rfl X (fun b102 X => ?_)
  refine r_ild1 13 dX9_give_12 rfl ?_
  refine r_aI 14 0 dX9_give_13 rfl rfl X (fun x103 X => ?_)
  refine r_iadd 15 dX9_give_14 rfl ?_
  refine r_lld2 16 dX9_give_15 rfl ?_
  refine r_zL 17 1 dX9_give_16 rfl rfl X (fun h104 X => ?_)
  refine r_ald0 18 dX9_give_17 rfl ?_
  refine r_gR 21 dX9_give_18 rfl lfX9_17 rfl X (fun b105 X => ?_)
  refine r_ild1 22 dX9_give_21 rfl ?_
  refine r_dup2_11 23 dX9_give_22 rfl rfl rfl ?_
  refine r_aI 24 0 dX9_give_23 rfl rfl X (fun x106 X => ?_)
  refine r_iconst 25 _ dX9_give_24 rfl ki_1 ?_
  refine r_iadd 26 dX9_give_25 rfl ?_
  refine r_zI 27 0 dX9_give_26 rfl rfl X (fun h107 X => ?_)
  exact r_retV dX9_give_27 (Nat.zero_le _) (Nat.zero_le _) X
theorem mtX9_give (G : GG) (hG : GT G) {a0 : Nat} {x0 : Int32} {x1 : Int64} {h h' : AH} {v : Unit} (hc : fX9_give a0 x0 x1 h = some (v, h')) : AMet G yX9_give cX9_give 4 none 0 0 0 0 [.ref (gB G + a0), .int x0, .long x1] h none h' :=
  amet_of false [some (.ref (gB G + a0)), some (.int x0), some (.long x1), none] (by decide +kernel) (by decide) (Nat.le_of_ble_eq_true rfl) rfl (Nat.le_of_ble_eq_true rfl) (wX9_give G hG (v, h') _ _ _ h hc)
abbrev eX9_newStream (G : GG) (R : Int32 × AH) : EE := eM G 3 (some .int) false 0 0 0 0 (some (.int R.1)) R.2
theorem wX9_newStream_17 (G : GG) (hG : GT G) (R : Int32 × AH) (l0 : Nat) (l1 : Int32) (l2 : Int32) (h : AH) (X : fX9_newStream_17 l0 l1 l2 h = some R) : AW (eX9_newStream G R) RX9 cX9_newStream 17 [some (.ref (gB G + l0)), some (.int l1), some (.int l2)] [] h 0 0 := by
  unfold fX9_newStream_17 at X
  refine r_ald0 18 dX9_newStream_17 rfl ?_
  refine r_gR 21 dX9_newStream_18 rfl lfX9_7 rfl X (fun b101 X => ?_)
  refine r_ild2 22 dX9_newStream_21 rfl ?_
  refine r_iconst 23 _ dX9_newStream_22 rfl ki_1 ?_
  refine r_zZ 24 2 dX9_newStream_23 rfl rfl X (fun h102 X => ?_)
  refine r_ald0 25 dX9_newStream_24 rfl ?_
  refine r_gR 28 dX9_newStream_25 rfl lfX9_13 rfl X (fun b103 X => ?_)
  refine r_ild2 29 dX9_newStream_28 rfl ?_
  refine r_ild1 30 dX9_newStream_29 rfl ?_
  refine r_zI 31 0 dX9_newStream_30 rfl rfl X (fun h104 X => ?_)
  refine r_ald0 32 dX9_newStream_31 rfl ?_
  refine r_gR 35 dX9_newStream_32 rfl lfX9_17 rfl X (fun b105 X => ?_)
  refine r_ild2 36 dX9_newStream_35 rfl ?_
  refine r_iconst 37 _ dX9_newStream_36 rfl ki_0 ?_
  refine r_zI 38 0 dX9_newStream_37 rfl rfl X (fun h106 X => ?_)
  refine r_ald0 39 dX9_newStream_38 rfl ?_
  refine r_gR 42 dX9_newStream_39 rfl lfX9_20 rfl X (fun b107 X => ?_)
  refine r_ild2 43 dX9_newStream_42 rfl ?_
  refine r_iconst 44 _ dX9_newStream_43 rfl ki_0 ?_
  refine r_zZ 45 2 dX9_newStream_44 rfl rfl X (fun h108 X => ?_)
  refine r_ald0 46 dX9_newStream_45 rfl ?_
  refine r_gR 49 dX9_newStream_46 rfl lfX9_27 rfl X (fun b109 X => ?_)
  refine r_ild2 50 dX9_newStream_49 rfl ?_
  refine r_iconst 51 _ dX9_newStream_50 rfl ki_0 ?_
  refine r_zI 52 0 dX9_newStream_51 rfl rfl X (fun h110 X => ?_)
  refine r_ald0 53 dX9_newStream_52 rfl ?_
  refine r_dup 54 dX9_newStream_53 rfl rfl ?_
  refine r_gI 57 dX9_newStream_54 rfl lfX9_79 rfl X (fun x111 X => ?_)
  refine r_iconst 58 _ dX9_newStream_57 rfl ki_1 ?_
  refine r_iadd 59 dX9_newStream_58 rfl ?_
  refine r_pI 62 dX9_newStream_59 rfl lpX9_79 rfl X (fun h112 X => ?_)
  refine r_ild2 63 dX9_newStream_62 rfl ?_
  exact r_retI dX9_newStream_63 (Nat.zero_le _) (Nat.zero_le _) X
theorem wX9_newStream_2 (G : GG) (hG : GT G) (R : Int32 × AH) {K2 : Nat → Int32 → Int32 → AH → Fn Int32} (hK2 : ∀ (l0 : Nat) (l1 : Int32) (l2 : Int32) (h : AH), K2 l0 l1 l2 h = some R → AW (eX9_newStream G R) RX9 cX9_newStream 2 [some (.ref (gB G + l0)), some (.int l1), some (.int l2)] [] h 0 0) (l0 : Nat) (l1 : Int32) (l2 : Int32) (h : AH) (X : fX9_newStream_2 K2 l0 l1 l2 h = some R) : AW (eX9_newStream G R) RX9 cX9_newStream 2 [some (.ref (gB G + l0)), some (.int l1), some (.int l2)] [] h 0 0 := by
  unfold fX9_newStream_2 at X
  refine r_ald0 3 dX9_newStream_2 rfl ?_
  refine r_gR 6 dX9_newStream_3 rfl lfX9_7 rfl X (fun b101 X => ?_)
  refine r_ild2 7 dX9_newStream_6 rfl ?_
  refine r_aZ 8 2 dX9_newStream_7 rfl rfl X (fun x102 X => ?_)
  refine r_if_eq 17 11 dX9_newStream_8 (by decide) rfl X (fun _ X => ?_) (fun _ X => ?_)
  · exact r_cut (wX9_newStream_17 G hG R _ _ _ _ X) ⟨rfl, ⟨rfl, ⟨rfl, trivial⟩⟩⟩
  · refine r_iinc2w 14 dX9_newStream_11 rfl rfl ki_1 X (fun x103 X => ?_)
    refine r_goto 2 dX9_newStream_14 (by decide) ?_
    exact r_cut (hK2 _ _ _ _ X) ⟨rfl, ⟨rfl, ⟨rfl, trivial⟩⟩⟩
theorem wX9_newStream_2L (G : GG) (hG : GT G) (R : Int32 × AH) : ∀ (m : Nat) (l0 : Nat) (l1 : Int32) (l2 : Int32) (h : AH), fX9_newStream_2L m l0 l1 l2 h = some R → AW (eX9_newStream G R) RX9 cX9_newStream 2 [some (.ref (gB G + l0)), some (.int l1), some (.int l2)] [] h 0 0 := by
  intro m
  induction m with
  | zero => intro l0 l1 l2 h X; exact nomatch (show (none : Fn Int32) = some R from X)
  | succ m ih => intro l0 l1 l2 h X; exact wX9_newStream_2 G hG R ih l0 l1 l2 h X
theorem wX9_newStream (G : GG) (hG : GT G) (R : Int32 × AH) (a0 : Nat) (x0 : Int32) (h : AH) (X : fX9_newStream a0 x0 h = some R) : AW (eX9_newStream G R) RX9 cX9_newStream 0 [some (.ref (gB G + a0)), some (.int x0), none] [] h 0 0 := by
  unfold fX9_newStream at X
  refine r_iconst 1 _ dX9_newStream_0 rfl ki_0 ?_
  refine r_ist2 2 dX9_newStream_1 rfl rfl ?_
  exact r_cut (wX9_newStream_2L G hG R 1000 _ _ _ _ X) ⟨rfl, ⟨rfl, ⟨rfl, trivial⟩⟩⟩
theorem mtX9_newStream (G : GG) (hG : GT G) {a0 : Nat} {x0 : Int32} {h h' : AH} {v : Int32} (hc : fX9_newStream a0 x0 h = some (v, h')) : AMet G yX9_newStream cX9_newStream 3 (some .int) 0 0 0 0 [.ref (gB G + a0), .int x0] h (some (.int v)) h' :=
  amet_of false [some (.ref (gB G + a0)), some (.int x0), none] (by decide +kernel) (by decide) (Nat.le_of_ble_eq_true rfl) rfl (Nat.le_of_ble_eq_true rfl) (wX9_newStream G hG (v, h') _ _ h hc)
abbrev eX9_newRatio (G : GG) (R : Int32 × AH) : EE := eM G 16 (some .int) false 2 50 0 0 (some (.int R.1)) R.2
theorem wX9_newRatio_127 (G : GG) (hG : GT G) (R : Int32 × AH) (l0 : Nat) (l5 : Int32) (l10 : Int64) (h : AH) (X : fX9_newRatio_127 l0 l5 l10 h = some R) : AW (eX9_newRatio G R) RX9 cX9_newRatio 127 [some (.ref (gB G + l0)), none, none, none, none, some (.int l5), none, none, none, none, some (.long l10), none, none, none, none, none] [] h 0 0 := by
  unfold fX9_newRatio_127 at X
  refine r_ald0 128 dX9_newRatio_127 rfl ?_
  refine r_gR 131 dX9_newRatio_128 rfl lfX9_20 rfl X (fun b101 X => ?_)
  refine r_ild5 133 dX9_newRatio_131 rfl ?_
  refine r_lld10 135 dX9_newRatio_133 rfl ?_
  refine r_lconst 136 _ dX9_newRatio_135 rfl kl_0 ?_
  refine r_lif_ne 144 140 dX9_newRatio_136 dX9_newRatio_137 (by decide) rfl X (fun _ X => ?_) (fun _ X => ?_)
  · refine r_iconst 145 _ dX9_newRatio_144 rfl ki_0 ?_
    refine r_zZ 146 2 dX9_newRatio_145 rfl rfl X (fun h102 X => ?_)
    refine r_ild5 148 dX9_newRatio_146 rfl ?_
    exact r_retI dX9_newRatio_148 (Nat.zero_le _) (Nat.zero_le _) X
  · refine r_iconst 141 _ dX9_newRatio_140 rfl ki_1 ?_
    refine r_goto 145 dX9_newRatio_141 (by decide) ?_
    refine r_zZ 146 2 dX9_newRatio_145 rfl rfl X (fun h103 X => ?_)
    refine r_ild5 148 dX9_newRatio_146 rfl ?_
    exact r_retI dX9_newRatio_148 (Nat.zero_le _) (Nat.zero_le _) X
theorem wX9_newRatio_70 (G : GG) (hG : GT G) (R : Int32 × AH) {K70 : Nat → Int32 → Int64 → Int64 → AH → Fn Int32} (hK70 : ∀ (l0 : Nat) (l5 : Int32) (l8 : Int64) (l10 : Int64) (h : AH), K70 l0 l5 l8 l10 h = some R → AW (eX9_newRatio G R) RX9 cX9_newRatio 70 [some (.ref (gB G + l0)), none, none, none, none, some (.int l5), none, none, some (.long l8), none, some (.long l10), none, none, none, none, none] [] h 0 0) (l0 : Nat) (l5 : Int32) (l8 : Int64) (l10 : Int64) (h : AH) (X : fX9_newRatio_70 K70 l0 l5 l8 l10 h = some R) : AW (eX9_newRatio G R) RX9 cX9_newRatio 70 [some (.ref (gB G + l0)), none, none, none, none, some (.int l5), none, none, some (.long l8), none, some (.long l10), none, none, none, none, none] [] h 0 0 := by
  unfold fX9_newRatio_70 at X
  refine r_lld10 72 dX9_newRatio_70 rfl ?_
  refine r_lconst 73 _ dX9_newRatio_72 rfl kl_0 ?_
  refine r_lif_eq 127 77 dX9_newRatio_73 dX9_newRatio_74 (by decide) rfl X (fun _ X => ?_) (fun _ X => ?_)
  · exact r_cut (wX9_newRatio_127 G hG R _ _ _ _ X) ⟨rfl, ⟨rfl, ⟨rfl, trivial⟩⟩⟩
  · refine r_ald0 78 dX9_newRatio_77 rfl ?_
    refine r_gR 81 dX9_newRatio_78 rfl lfX9_17 rfl X (fun b101 X => ?_)
    refine r_ild5 83 dX9_newRatio_81 rfl ?_
    refine r_aI 84 0 dX9_newRatio_83 rfl rfl X (fun x102 X => ?_)
    refine r_bipush 86 _ dX9_newRatio_84 rfl kb_60 ?_
    refine r_icmp_ge 127 89 dX9_newRatio_86 (by decide) rfl X (fun _ X => ?_) (fun _ X => ?_)
    · exact r_cut (wX9_newRatio_127 G hG R _ _ _ _ X) ⟨rfl, ⟨rfl, ⟨rfl, trivial⟩⟩⟩
    · refine r_lld8 91 dX9_newRatio_89 rfl ?_
      refine r_lld10 93 dX9_newRatio_91 rfl ?_
      obtain ⟨x104, h103, hc, X⟩ := bnd_ok X
      refine r_callS2 96 dX9_newRatio_93 rfl lmX9_91 (mtX9_floor G hG hc) rfl ⟨(Nat.zero_le _), (Nat.zero_le _)⟩ ?_
      refine r_lst12 98 dX9_newRatio_96 rfl rfl ?_
      refine r_ald0 99 dX9_newRatio_98 rfl ?_
      refine r_ild5 101 dX9_newRatio_99 rfl ?_
      refine r_lld12 103 dX9_newRatio_101 rfl ?_
      obtain ⟨hs, X⟩ := r_cv X
      obtain ⟨_, h105, hc, X⟩ := bnd_ok X
      refine r_callV2v 106 dX9_newRatio_103 rfl lmX9_94 hs (mtX9_give G hG hc) rfl ⟨(Nat.zero_le _), (Nat.zero_le _)⟩ ?_
      refine r_lld8 108 dX9_newRatio_106 rfl ?_
      refine r_lld12 110 dX9_newRatio_108 rfl ?_
      refine r_lld10 112 dX9_newRatio_110 rfl ?_
      refine r_lmul 113 dX9_newRatio_112 rfl ?_
      refine r_lsub 114 dX9_newRatio_113 rfl ?_
      refine r_lst14w 116 dX9_newRatio_114 rfl rfl X (fun x106 X => ?_)
      refine r_lld10 118 dX9_newRatio_116 rfl ?_
      refine r_lst8 120 dX9_newRatio_118 rfl rfl ?_
      refine r_lld14 122 dX9_newRatio_120 rfl ?_
      refine r_lst10 124 dX9_newRatio_122 rfl rfl ?_
      refine r_goto 70 dX9_newRatio_124 (by decide) ?_
      exact r_cut (hK70 _ _ _ _ _ X) ⟨rfl, ⟨rfl, ⟨rfl, ⟨rfl, trivial⟩⟩⟩⟩
theorem wX9_newRatio_70L (G : GG) (hG : GT G) (R : Int32 × AH) : ∀ (m : Nat) (l0 : Nat) (l5 : Int32) (l8 : Int64) (l10 : Int64) (h : AH), fX9_newRatio_70L m l0 l5 l8 l10 h = some R → AW (eX9_newRatio G R) RX9 cX9_newRatio 70 [some (.ref (gB G + l0)), none, none, none, none, some (.int l5), none, none, some (.long l8), none, some (.long l10), none, none, none, none, none] [] h 0 0 := by
  intro m
  induction m with
  | zero => intro l0 l5 l8 l10 h X; exact nomatch (show (none : Fn Int32) = some R from X)
  | succ m ih => intro l0 l5 l8 l10 h X; exact wX9_newRatio_70 G hG R ih l0 l5 l8 l10 h X
theorem wX9_newRatio_28 (G : GG) (hG : GT G) (R : Int32 × AH) (l0 : Nat) (l1 : Int64) (l3 : Int64) (l5 : Int32) (s0 : Int64) (h : AH) (X : fX9_newRatio_28 l0 l1 l3 l5 s0 h = some R) : AW (eX9_newRatio G R) RX9 cX9_newRatio 28 [some (.ref (gB G + l0)), some (.long l1), none, some (.long l3), none, some (.int l5), none, none, none, none, none, none, none, none, none, none] [.long s0] h 0 0 := by
  unfold fX9_newRatio_28 at X
  refine r_lst6 30 dX9_newRatio_28 rfl rfl ?_
  refine r_ald0 31 dX9_newRatio_30 rfl ?_
  refine r_gR 34 dX9_newRatio_31 rfl lfX9_30 rfl X (fun b101 X => ?_)
  refine r_iconst 35 _ dX9_newRatio_34 rfl ki_4 ?_
  refine r_ild5 37 dX9_newRatio_35 rfl ?_
  refine r_imul 38 dX9_newRatio_37 rfl ?_
  refine r_lld1 39 dX9_newRatio_38 rfl ?_
  refine r_lld6 41 dX9_newRatio_39 rfl ?_
  refine r_ldiv 42 dX9_newRatio_41 rfl X (fun X => ?_)
  refine r_zL 43 1 dX9_newRatio_42 rfl rfl X (fun h102 X => ?_)
  refine r_ald0 44 dX9_newRatio_43 rfl ?_
  refine r_gR 47 dX9_newRatio_44 rfl lfX9_30 rfl X (fun b103 X => ?_)
  refine r_iconst 48 _ dX9_newRatio_47 rfl ki_4 ?_
  refine r_ild5 50 dX9_newRatio_48 rfl ?_
  refine r_imul 51 dX9_newRatio_50 rfl ?_
  refine r_iconst 52 _ dX9_newRatio_51 rfl ki_1 ?_
  refine r_iadd 53 dX9_newRatio_52 rfl ?_
  refine r_lld3 54 dX9_newRatio_53 rfl ?_
  refine r_lld6 56 dX9_newRatio_54 rfl ?_
  refine r_ldiv 57 dX9_newRatio_56 rfl X (fun X => ?_)
  refine r_zL 58 1 dX9_newRatio_57 rfl rfl X (fun h104 X => ?_)
  refine r_lld1 59 dX9_newRatio_58 rfl ?_
  refine r_lld6 61 dX9_newRatio_59 rfl ?_
  refine r_ldiv 62 dX9_newRatio_61 rfl X (fun X => ?_)
  refine r_lst8w 64 dX9_newRatio_62 rfl rfl X (fun x105 X => ?_)
  refine r_lld3 65 dX9_newRatio_64 rfl ?_
  refine r_lld6 67 dX9_newRatio_65 rfl ?_
  refine r_ldiv 68 dX9_newRatio_67 rfl X (fun X => ?_)
  refine r_lst10w 70 dX9_newRatio_68 rfl rfl X (fun x106 X => ?_)
  exact r_cut (wX9_newRatio_70L G hG R 1000 _ _ _ _ _ X) ⟨rfl, ⟨rfl, ⟨rfl, ⟨rfl, trivial⟩⟩⟩⟩
theorem wX9_newRatio (G : GG) (hG : GT G) (R : Int32 × AH) (a0 : Nat) (x0 : Int64) (x1 : Int64) (h : AH) (X : fX9_newRatio a0 x0 x1 h = some R) : AW (eX9_newRatio G R) RX9 cX9_newRatio 0 [some (.ref (gB G + a0)), some (.long x0), none, some (.long x1), none, none, none, none, none, none, none, none, none, none, none, none] [] h 0 0 := by
  unfold fX9_newRatio at X
  refine r_ald0 1 dX9_newRatio_0 rfl ?_
  refine r_iconst 2 _ dX9_newRatio_1 rfl ki_0 ?_
  obtain ⟨hs, X⟩ := r_cv X
  obtain ⟨x102, h101, hc, X⟩ := bnd_ok X
  refine r_callV1 5 dX9_newRatio_2 rfl lmX9_83 hs (mtX9_newStream G hG hc) rfl ⟨(Nat.zero_le _), (Nat.zero_le _)⟩ ?_
  refine r_ist5 7 dX9_newRatio_5 rfl rfl ?_
  refine r_lld1 8 dX9_newRatio_7 rfl ?_
  refine r_lld3 9 dX9_newRatio_8 rfl ?_
  obtain ⟨x104, h103, hc, X⟩ := bnd_ok X
  refine r_callS2 12 dX9_newRatio_9 rfl lmX9_87 (mtX9_divisor G hG hc) rfl ⟨(Nat.zero_le _), (Nat.zero_le _)⟩ ?_
  refine r_lst6 14 dX9_newRatio_12 rfl rfl ?_
  refine r_lld3 15 dX9_newRatio_14 rfl ?_
  refine r_lconst 16 _ dX9_newRatio_15 rfl kl_0 ?_
  refine r_lif_ge 26 20 dX9_newRatio_16 dX9_newRatio_17 (by decide) rfl X (fun _ X => ?_) (fun _ X => ?_)
  · refine r_lld6 28 dX9_newRatio_26 rfl ?_
    exact r_cut (wX9_newRatio_28 G hG R _ _ _ _ _ _ X) ⟨rfl, ⟨rfl, ⟨rfl, ⟨rfl, trivial⟩⟩⟩⟩
  · refine r_lld6 22 dX9_newRatio_20 rfl ?_
    refine r_lneg 23 dX9_newRatio_22 rfl ?_
    refine r_goto 28 dX9_newRatio_23 (by decide) ?_
    exact r_cut (wX9_newRatio_28 G hG R _ _ _ _ _ _ X) ⟨rfl, ⟨rfl, ⟨rfl, ⟨rfl, trivial⟩⟩⟩⟩
theorem mtX9_newRatio (G : GG) (hG : GT G) {a0 : Nat} {x0 : Int64} {x1 : Int64} {h h' : AH} {v : Int32} (hc : fX9_newRatio a0 x0 x1 h = some (v, h')) : AMet G yX9_newRatio cX9_newRatio 16 (some .int) 2 50 0 0 [.ref (gB G + a0), .long x0, .long x1] h (some (.int v)) h' :=
  amet_of false [some (.ref (gB G + a0)), some (.long x0), none, some (.long x1), none, none, none, none, none, none, none, none, none, none, none, none] (by decide +kernel) (by decide) (Nat.le_of_ble_eq_true rfl) rfl (Nat.le_of_ble_eq_true rfl) (wX9_newRatio G hG (v, h') _ _ _ h hc)
abbrev eX9_rootOf (G : GG) (R : Int64 × AH) : EE := eM G 8 (some .long) false 0 0 0 0 (some (.long R.1)) R.2
theorem wX9_rootOf_7 (G : GG) (hG : GT G) (R : Int64 × AH) {K7 : Int64 → Int64 → Int64 → AH → Fn Int64} (hK7 : ∀ (l0 : Int64) (l2 : Int64) (l4 : Int64) (h : AH), K7 l0 l2 l4 h = some R → AW (eX9_rootOf G R) RX9 cX9_rootOf 7 [some (.long l0), none, some (.long l2), none, some (.long l4), none, none, none] [] h 0 0) (l0 : Int64) (l2 : Int64) (l4 : Int64) (h : AH) (X : fX9_rootOf_7 K7 l0 l2 l4 h = some R) : AW (eX9_rootOf G R) RX9 cX9_rootOf 7 [some (.long l0), none, some (.long l2), none, some (.long l4), none, none, none] [] h 0 0 := by
  unfold fX9_rootOf_7 at X
  refine r_lld4 9 dX9_rootOf_7 rfl ?_
  refine r_lconst 10 _ dX9_rootOf_9 rfl kl_0 ?_
  refine r_lif_le 57 14 dX9_rootOf_10 dX9_rootOf_11 (by decide) rfl X (fun _ X => ?_) (fun _ X => ?_)
  · refine r_lld2 58 dX9_rootOf_57 rfl ?_
    exact r_retL dX9_rootOf_58 (Nat.zero_le _) (Nat.zero_le _) X
  · refine r_lld2 15 dX9_rootOf_14 rfl ?_
    refine r_lld4 17 dX9_rootOf_15 rfl ?_
    refine r_ladd 18 dX9_rootOf_17 rfl ?_
    refine r_lst6w 20 dX9_rootOf_18 rfl rfl X (fun x101 X => ?_)
    refine r_lld6 22 dX9_rootOf_20 rfl ?_
    refine r_ldc2 25 dX9_rootOf_22 rfl lkX9_100 ?_
    refine r_lif_gt 44 29 dX9_rootOf_25 dX9_rootOf_26 (by decide) rfl X (fun _ X => ?_) (fun _ X => ?_)
    · refine r_lld2 45 dX9_rootOf_44 rfl ?_
      refine r_lst2 46 dX9_rootOf_45 rfl rfl ?_
      refine r_lld4 48 dX9_rootOf_46 rfl ?_
      refine r_ldc2 51 dX9_rootOf_48 rfl lkX9_102 ?_
      refine r_ldiv 52 dX9_rootOf_51 rfl X (fun X => ?_)
      refine r_lst4w 54 dX9_rootOf_52 rfl rfl X (fun x102 X => ?_)
      refine r_goto 7 dX9_rootOf_54 (by decide) ?_
      exact r_cut (hK7 _ _ _ _ X) ⟨rfl, ⟨rfl, ⟨rfl, trivial⟩⟩⟩
    · refine r_lld6 31 dX9_rootOf_29 rfl ?_
      refine r_lld6 33 dX9_rootOf_31 rfl ?_
      refine r_lmul 34 dX9_rootOf_33 rfl ?_
      refine r_lld0 35 dX9_rootOf_34 rfl ?_
      refine r_lif_gt 44 39 dX9_rootOf_35 dX9_rootOf_36 (by decide) rfl X (fun _ X => ?_) (fun _ X => ?_)
      · refine r_lld2 45 dX9_rootOf_44 rfl ?_
        refine r_lst2 46 dX9_rootOf_45 rfl rfl ?_
        refine r_lld4 48 dX9_rootOf_46 rfl ?_
        refine r_ldc2 51 dX9_rootOf_48 rfl lkX9_102 ?_
        refine r_ldiv 52 dX9_rootOf_51 rfl X (fun X => ?_)
        refine r_lst4w 54 dX9_rootOf_52 rfl rfl X (fun x103 X => ?_)
        refine r_goto 7 dX9_rootOf_54 (by decide) ?_
        exact r_cut (hK7 _ _ _ _ X) ⟨rfl, ⟨rfl, ⟨rfl, trivial⟩⟩⟩
      · refine r_lld6 41 dX9_rootOf_39 rfl ?_
        refine r_goto 45 dX9_rootOf_41 (by decide) ?_
        refine r_lst2 46 dX9_rootOf_45 rfl rfl ?_
        refine r_lld4 48 dX9_rootOf_46 rfl ?_
        refine r_ldc2 51 dX9_rootOf_48 rfl lkX9_102 ?_
        refine r_ldiv 52 dX9_rootOf_51 rfl X (fun X => ?_)
        refine r_lst4w 54 dX9_rootOf_52 rfl rfl X (fun x104 X => ?_)
        refine r_goto 7 dX9_rootOf_54 (by decide) ?_
        exact r_cut (hK7 _ _ _ _ X) ⟨rfl, ⟨rfl, ⟨rfl, trivial⟩⟩⟩
theorem wX9_rootOf_7L (G : GG) (hG : GT G) (R : Int64 × AH) : ∀ (m : Nat) (l0 : Int64) (l2 : Int64) (l4 : Int64) (h : AH), fX9_rootOf_7L m l0 l2 l4 h = some R → AW (eX9_rootOf G R) RX9 cX9_rootOf 7 [some (.long l0), none, some (.long l2), none, some (.long l4), none, none, none] [] h 0 0 := by
  intro m
  induction m with
  | zero => intro l0 l2 l4 h X; exact nomatch (show (none : Fn Int64) = some R from X)
  | succ m ih => intro l0 l2 l4 h X; exact wX9_rootOf_7 G hG R ih l0 l2 l4 h X
theorem wX9_rootOf (G : GG) (hG : GT G) (R : Int64 × AH) (x0 : Int64) (h : AH) (X : fX9_rootOf x0 h = some R) : AW (eX9_rootOf G R) RX9 cX9_rootOf 0 [some (.long x0), none, none, none, none, none, none, none] [] h 0 0 := by
  unfold fX9_rootOf at X
  refine r_lconst 1 _ dX9_rootOf_0 rfl kl_0 ?_
  refine r_lst2 2 dX9_rootOf_1 rfl rfl ?_
  refine r_ldc2 5 dX9_rootOf_2 rfl lkX9_98 ?_
  refine r_lst4 7 dX9_rootOf_5 rfl rfl ?_
  exact r_cut (wX9_rootOf_7L G hG R 1000 _ _ _ _ X) ⟨rfl, ⟨rfl, ⟨rfl, trivial⟩⟩⟩
theorem mtX9_rootOf (G : GG) (hG : GT G) {x0 : Int64} {h h' : AH} {v : Int64} (hc : fX9_rootOf x0 h = some (v, h')) : AMet G yX9_rootOf cX9_rootOf 8 (some .long) 0 0 0 0 [.long x0] h (some (.long v)) h' :=
  amet_of false [some (.long x0), none, none, none, none, none, none, none] (by decide +kernel) (by decide) (Nat.le_of_ble_eq_true rfl) rfl (Nat.le_of_ble_eq_true rfl) (wX9_rootOf G hG (v, h') _ h hc)
abbrev eX9_newRoot (G : GG) (R : Int32 × AH) : EE := eM G 21 (some .int) false 1 27 0 0 (some (.int R.1)) R.2
theorem wX9_newRoot_199 (G : GG) (hG : GT G) (R : Int32 × AH) {K121 : Nat → Int32 → Int64 → Int64 → Int64 → Int64 → Int32 → AH → Fn Int32} (hK121 : ∀ (l0 : Nat) (l9 : Int32) (l10 : Int64) (l12 : Int64) (l14 : Int64) (l16 : Int64) (l18 : Int32) (h : AH), K121 l0 l9 l10 l12 l14 l16 l18 h = some R → AW (eX9_newRoot G R) RX9 cX9_newRoot 121 [some (.ref (gB G + l0)), none, none, none, none, none, none, none, none, some (.int l9), some (.long l10), none, some (.long l12), none, some (.long l14), none, some (.long l16), none, some (.int l18), none, none] [] h 0 0) (l0 : Nat) (l9 : Int32) (l10 : Int64) (l12 : Int64) (l14 : Int64) (l16 : Int64) (l18 : Int32) (s0 : Int64) (h : AH) (X : fX9_newRoot_199 K121 l0 l9 l10 l12 l14 l16 l18 s0 h = some R) : AW (eX9_newRoot G R) RX9 cX9_newRoot 199 [some (.ref (gB G + l0)), none, none, none, none, none, none, none, none, some (.int l9), some (.long l10), none, some (.long l12), none, some (.long l14), none, some (.long l16), none, some (.int l18), none, none] [.long s0] h 0 0 := by
  unfold fX9_newRoot_199 at X
  refine r_lst19 201 dX9_newRoot_199 rfl rfl ?_
  refine r_ald0 202 dX9_newRoot_201 rfl ?_
  refine r_ild9 204 dX9_newRoot_202 rfl ?_
  refine r_lld19 206 dX9_newRoot_204 rfl ?_
  obtain ⟨hs, X⟩ := r_cv X
  obtain ⟨_, h101, hc, X⟩ := bnd_ok X
  refine r_callV2v 209 dX9_newRoot_206 rfl lmX9_94 hs (mtX9_give G hG hc) rfl ⟨(Nat.zero_le _), (Nat.zero_le _)⟩ ?_
  refine r_lld19 211 dX9_newRoot_209 rfl ?_
  refine r_lld16 213 dX9_newRoot_211 rfl ?_
  refine r_lmul 214 dX9_newRoot_213 rfl ?_
  refine r_lld14 216 dX9_newRoot_214 rfl ?_
  refine r_lsub 217 dX9_newRoot_216 rfl ?_
  refine r_lst14w 219 dX9_newRoot_217 rfl rfl X (fun x102 X => ?_)
  refine r_lld10 221 dX9_newRoot_219 rfl ?_
  refine r_lld14 223 dX9_newRoot_221 rfl ?_
  refine r_lld14 225 dX9_newRoot_223 rfl ?_
  refine r_lmul 226 dX9_newRoot_225 rfl ?_
  refine r_lsub 227 dX9_newRoot_226 rfl ?_
  refine r_lld16 229 dX9_newRoot_227 rfl ?_
  refine r_ldiv 230 dX9_newRoot_229 rfl X (fun X => ?_)
  refine r_lst16w 232 dX9_newRoot_230 rfl rfl X (fun x103 X => ?_)
  refine r_iinc18w 235 dX9_newRoot_232 rfl rfl ki_1 X (fun x104 X => ?_)
  refine r_goto 121 dX9_newRoot_235 (by decide) ?_
  exact r_cut (hK121 _ _ _ _ _ _ _ _ X) ⟨rfl, ⟨rfl, ⟨rfl, ⟨rfl, ⟨rfl, ⟨rfl, ⟨rfl, trivial⟩⟩⟩⟩⟩⟩⟩
theorem wX9_newRoot_121 (G : GG) (hG : GT G) (R : Int32 × AH) {K121 : Nat → Int32 → Int64 → Int64 → Int64 → Int64 → Int32 → AH → Fn Int32} (hK121 : ∀ (l0 : Nat) (l9 : Int32) (l10 : Int64) (l12 : Int64) (l14 : Int64) (l16 : Int64) (l18 : Int32) (h : AH), K121 l0 l9 l10 l12 l14 l16 l18 h = some R → AW (eX9_newRoot G R) RX9 cX9_newRoot 121 [some (.ref (gB G + l0)), none, none, none, none, none, none, none, none, some (.int l9), some (.long l10), none, some (.long l12), none, some (.long l14), none, some (.long l16), none, some (.int l18), none, none] [] h 0 0) (l0 : Nat) (l9 : Int32) (l10 : Int64) (l12 : Int64) (l14 : Int64) (l16 : Int64) (l18 : Int32) (h : AH) (X : fX9_newRoot_121 K121 l0 l9 l10 l12 l14 l16 l18 h = some R) : AW (eX9_newRoot G R) RX9 cX9_newRoot 121 [some (.ref (gB G + l0)), none, none, none, none, none, none, none, none, some (.int l9), some (.long l10), none, some (.long l12), none, some (.long l14), none, some (.long l16), none, some (.int l18), none, none] [] h 0 0 := by
  unfold fX9_newRoot_121 at X
  refine r_ild18 123 dX9_newRoot_121 rfl ?_
  refine r_bipush 125 _ dX9_newRoot_123 rfl kb_60 ?_
  refine r_icmp_gt 238 128 dX9_newRoot_125 (by decide) rfl X (fun _ X => ?_) (fun _ X => ?_)
  · refine r_ild9 240 dX9_newRoot_238 rfl ?_
    exact r_retI dX9_newRoot_240 (Nat.zero_le _) (Nat.zero_le _) X
  · refine r_ald0 129 dX9_newRoot_128 rfl ?_
    refine r_gR 132 dX9_newRoot_129 rfl lfX9_33 rfl X (fun b101 X => ?_)
    refine r_bipush 134 _ dX9_newRoot_132 rfl kb_61 ?_
    refine r_ild9 136 dX9_newRoot_134 rfl ?_
    refine r_imul 137 dX9_newRoot_136 rfl ?_
    refine r_ild18 139 dX9_newRoot_137 rfl ?_
    refine r_iadd 140 dX9_newRoot_139 rfl ?_
    refine r_lld14 142 dX9_newRoot_140 rfl ?_
    refine r_zL 143 1 dX9_newRoot_142 rfl rfl X (fun h102 X => ?_)
    refine r_ald0 144 dX9_newRoot_143 rfl ?_
    refine r_gR 147 dX9_newRoot_144 rfl lfX9_36 rfl X (fun b103 X => ?_)
    refine r_bipush 149 _ dX9_newRoot_147 rfl kb_61 ?_
    refine r_ild9 151 dX9_newRoot_149 rfl ?_
    refine r_imul 152 dX9_newRoot_151 rfl ?_
    refine r_ild18 154 dX9_newRoot_152 rfl ?_
    refine r_iadd 155 dX9_newRoot_154 rfl ?_
    refine r_lld16 157 dX9_newRoot_155 rfl ?_
    refine r_zL 158 1 dX9_newRoot_157 rfl rfl X (fun h104 X => ?_)
    refine r_ild18 160 dX9_newRoot_158 rfl ?_
    refine r_bipush 162 _ dX9_newRoot_160 rfl kb_60 ?_
    refine r_icmp_ge 232 165 dX9_newRoot_162 (by decide) rfl X (fun _ X => ?_) (fun _ X => ?_)
    · refine r_iinc18w 235 dX9_newRoot_232 rfl rfl ki_1 X (fun x105 X => ?_)
      refine r_goto 121 dX9_newRoot_235 (by decide) ?_
      exact r_cut (hK121 _ _ _ _ _ _ _ _ X) ⟨rfl, ⟨rfl, ⟨rfl, ⟨rfl, ⟨rfl, ⟨rfl, ⟨rfl, trivial⟩⟩⟩⟩⟩⟩⟩
    · refine r_lld16 167 dX9_newRoot_165 rfl ?_
      refine r_lconst 168 _ dX9_newRoot_167 rfl kl_0 ?_
      refine r_lif_le 185 172 dX9_newRoot_168 dX9_newRoot_169 (by decide) rfl X (fun _ X => ?_) (fun _ X => ?_)
      · refine r_lld14 187 dX9_newRoot_185 rfl ?_
        refine r_lneg 188 dX9_newRoot_187 rfl ?_
        refine r_lld12 190 dX9_newRoot_188 rfl ?_
        refine r_lsub 191 dX9_newRoot_190 rfl ?_
        refine r_lconst 192 _ dX9_newRoot_191 rfl kl_1 ?_
        refine r_lsub 193 dX9_newRoot_192 rfl ?_
        refine r_lld16 195 dX9_newRoot_193 rfl ?_
        refine r_lneg 196 dX9_newRoot_195 rfl ?_
        obtain ⟨x107, h106, hc, X⟩ := bnd_ok X
        refine r_callS2 199 dX9_newRoot_196 rfl lmX9_91 (mtX9_floor G hG hc) rfl ⟨(Nat.zero_le _), (Nat.zero_le _)⟩ ?_
        exact r_cut (wX9_newRoot_199 G hG R hK121 _ _ _ _ _ _ _ _ _ X) ⟨rfl, ⟨rfl, ⟨rfl, ⟨rfl, ⟨rfl, ⟨rfl, ⟨rfl, trivial⟩⟩⟩⟩⟩⟩⟩
      · refine r_lld14 174 dX9_newRoot_172 rfl ?_
        refine r_lld12 176 dX9_newRoot_174 rfl ?_
        refine r_ladd 177 dX9_newRoot_176 rfl ?_
        refine r_lld16 179 dX9_newRoot_177 rfl ?_
        obtain ⟨x109, h108, hc, X⟩ := bnd_ok X
        refine r_callS2 182 dX9_newRoot_179 rfl lmX9_91 (mtX9_floor G hG hc) rfl ⟨(Nat.zero_le _), (Nat.zero_le _)⟩ ?_
        refine r_goto 199 dX9_newRoot_182 (by decide) ?_
        exact r_cut (wX9_newRoot_199 G hG R hK121 _ _ _ _ _ _ _ _ _ X) ⟨rfl, ⟨rfl, ⟨rfl, ⟨rfl, ⟨rfl, ⟨rfl, ⟨rfl, trivial⟩⟩⟩⟩⟩⟩⟩
theorem wX9_newRoot_121L (G : GG) (hG : GT G) (R : Int32 × AH) : ∀ (m : Nat) (l0 : Nat) (l9 : Int32) (l10 : Int64) (l12 : Int64) (l14 : Int64) (l16 : Int64) (l18 : Int32) (h : AH), fX9_newRoot_121L m l0 l9 l10 l12 l14 l16 l18 h = some R → AW (eX9_newRoot G R) RX9 cX9_newRoot 121 [some (.ref (gB G + l0)), none, none, none, none, none, none, none, none, some (.int l9), some (.long l10), none, some (.long l12), none, some (.long l14), none, some (.long l16), none, some (.int l18), none, none] [] h 0 0 := by
  intro m
  induction m with
  | zero => intro l0 l9 l10 l12 l14 l16 l18 h X; exact nomatch (show (none : Fn Int32) = some R from X)
  | succ m ih => intro l0 l9 l10 l12 l14 l16 l18 h X; exact wX9_newRoot_121 G hG R ih l0 l9 l10 l12 l14 l16 l18 h X
theorem wX9_newRoot_94 (G : GG) (hG : GT G) (R : Int32 × AH) (l0 : Nat) (l3 : Int64) (l7 : Int64) (l9 : Int32) (l10 : Int64) (l12 : Int64) (s0 : Int64) (h : AH) (X : fX9_newRoot_94 l0 l3 l7 l9 l10 l12 s0 h = some R) : AW (eX9_newRoot G R) RX9 cX9_newRoot 94 [some (.ref (gB G + l0)), none, none, some (.long l3), none, none, none, some (.long l7), none, some (.int l9), some (.long l10), none, some (.long l12), none, none, none, none, none, none, none, none] [.long s0] h 0 0 := by
  unfold fX9_newRoot_94 at X
  refine r_lst14 96 dX9_newRoot_94 rfl rfl ?_
  refine r_lld3 97 dX9_newRoot_96 rfl ?_
  refine r_lconst 98 _ dX9_newRoot_97 rfl kl_0 ?_
  refine r_lif_ge 111 102 dX9_newRoot_98 dX9_newRoot_99 (by decide) rfl X (fun _ X => ?_) (fun _ X => ?_)
  · refine r_lld7 113 dX9_newRoot_111 rfl ?_
    refine r_lld7 115 dX9_newRoot_113 rfl ?_
    refine r_lmul 116 dX9_newRoot_115 rfl ?_
    refine r_lst16w 118 dX9_newRoot_116 rfl rfl X (fun x101 X => ?_)
    refine r_iconst 119 _ dX9_newRoot_118 rfl ki_0 ?_
    refine r_ist18 121 dX9_newRoot_119 rfl rfl ?_
    exact r_cut (wX9_newRoot_121L G hG R 1000 _ _ _ _ _ _ _ _ X) ⟨rfl, ⟨rfl, ⟨rfl, ⟨rfl, ⟨rfl, ⟨rfl, ⟨rfl, trivial⟩⟩⟩⟩⟩⟩⟩
  · refine r_lld7 104 dX9_newRoot_102 rfl ?_
    refine r_lneg 105 dX9_newRoot_104 rfl ?_
    refine r_lld7 107 dX9_newRoot_105 rfl ?_
    refine r_lmul 108 dX9_newRoot_107 rfl ?_
    refine r_goto 116 dX9_newRoot_108 (by decide) ?_
    refine r_lst16w 118 dX9_newRoot_116 rfl rfl X (fun x102 X => ?_)
    refine r_iconst 119 _ dX9_newRoot_118 rfl ki_0 ?_
    refine r_ist18 121 dX9_newRoot_119 rfl rfl ?_
    exact r_cut (wX9_newRoot_121L G hG R 1000 _ _ _ _ _ _ _ _ X) ⟨rfl, ⟨rfl, ⟨rfl, ⟨rfl, ⟨rfl, ⟨rfl, ⟨rfl, trivial⟩⟩⟩⟩⟩⟩⟩
theorem wX9_newRoot (G : GG) (hG : GT G) (R : Int32 × AH) (a0 : Nat) (x0 : Int64) (x1 : Int64) (x2 : Int64) (x3 : Int64) (h : AH) (X : fX9_newRoot a0 x0 x1 x2 x3 h = some R) : AW (eX9_newRoot G R) RX9 cX9_newRoot 0 [some (.ref (gB G + a0)), some (.long x0), none, some (.long x1), none, some (.long x2), none, some (.long x3), none, none, none, none, none, none, none, none, none, none, none, none, none] [] h 0 0 := by
  unfold fX9_newRoot at X
  refine r_ald0 1 dX9_newRoot_0 rfl ?_
  refine r_iconst 2 _ dX9_newRoot_1 rfl ki_1 ?_
  obtain ⟨hs, X⟩ := r_cv X
  obtain ⟨x102, h101, hc, X⟩ := bnd_ok X
  refine r_callV1 5 dX9_newRoot_2 rfl lmX9_83 hs (mtX9_newStream G hG hc) rfl ⟨(Nat.zero_le _), (Nat.zero_le _)⟩ ?_
  refine r_ist9 7 dX9_newRoot_5 rfl rfl ?_
  refine r_ald0 8 dX9_newRoot_7 rfl ?_
  refine r_gR 11 dX9_newRoot_8 rfl lfX9_30 rfl X (fun b103 X => ?_)
  refine r_iconst 12 _ dX9_newRoot_11 rfl ki_4 ?_
  refine r_ild9 14 dX9_newRoot_12 rfl ?_
  refine r_imul 15 dX9_newRoot_14 rfl ?_
  refine r_lld1 16 dX9_newRoot_15 rfl ?_
  refine r_zL 17 1 dX9_newRoot_16 rfl rfl X (fun h104 X => ?_)
  refine r_ald0 18 dX9_newRoot_17 rfl ?_
  refine r_gR 21 dX9_newRoot_18 rfl lfX9_30 rfl X (fun b105 X => ?_)
  refine r_iconst 22 _ dX9_newRoot_21 rfl ki_4 ?_
  refine r_ild9 24 dX9_newRoot_22 rfl ?_
  refine r_imul 25 dX9_newRoot_24 rfl ?_
  refine r_iconst 26 _ dX9_newRoot_25 rfl ki_1 ?_
  refine r_iadd 27 dX9_newRoot_26 rfl ?_
  refine r_lld3 28 dX9_newRoot_27 rfl ?_
  refine r_zL 29 1 dX9_newRoot_28 rfl rfl X (fun h106 X => ?_)
  refine r_ald0 30 dX9_newRoot_29 rfl ?_
  refine r_gR 33 dX9_newRoot_30 rfl lfX9_30 rfl X (fun b107 X => ?_)
  refine r_iconst 34 _ dX9_newRoot_33 rfl ki_4 ?_
  refine r_ild9 36 dX9_newRoot_34 rfl ?_
  refine r_imul 37 dX9_newRoot_36 rfl ?_
  refine r_iconst 38 _ dX9_newRoot_37 rfl ki_2 ?_
  refine r_iadd 39 dX9_newRoot_38 rfl ?_
  refine r_lld5 41 dX9_newRoot_39 rfl ?_
  refine r_zL 42 1 dX9_newRoot_41 rfl rfl X (fun h108 X => ?_)
  refine r_ald0 43 dX9_newRoot_42 rfl ?_
  refine r_gR 46 dX9_newRoot_43 rfl lfX9_30 rfl X (fun b109 X => ?_)
  refine r_iconst 47 _ dX9_newRoot_46 rfl ki_4 ?_
  refine r_ild9 49 dX9_newRoot_47 rfl ?_
  refine r_imul 50 dX9_newRoot_49 rfl ?_
  refine r_iconst 51 _ dX9_newRoot_50 rfl ki_3 ?_
  refine r_iadd 52 dX9_newRoot_51 rfl ?_
  refine r_lld7 54 dX9_newRoot_52 rfl ?_
  refine r_zL 55 1 dX9_newRoot_54 rfl rfl X (fun h110 X => ?_)
  refine r_lld3 56 dX9_newRoot_55 rfl ?_
  refine r_lld3 57 dX9_newRoot_56 rfl ?_
  refine r_lmul 58 dX9_newRoot_57 rfl ?_
  refine r_lld5 60 dX9_newRoot_58 rfl ?_
  refine r_lmul 61 dX9_newRoot_60 rfl ?_
  refine r_lld7 63 dX9_newRoot_61 rfl ?_
  refine r_lmul 64 dX9_newRoot_63 rfl ?_
  refine r_lld7 66 dX9_newRoot_64 rfl ?_
  refine r_lmul 67 dX9_newRoot_66 rfl ?_
  refine r_lst10w 69 dX9_newRoot_67 rfl rfl X (fun x111 X => ?_)
  refine r_lld10 71 dX9_newRoot_69 rfl ?_
  obtain ⟨x113, h112, hc, X⟩ := bnd_ok X
  refine r_callS1 74 dX9_newRoot_71 rfl lmX9_104 (mtX9_rootOf G hG hc) rfl ⟨(Nat.zero_le _), (Nat.zero_le _)⟩ ?_
  refine r_lst12 76 dX9_newRoot_74 rfl rfl ?_
  refine r_lld3 77 dX9_newRoot_76 rfl ?_
  refine r_lconst 78 _ dX9_newRoot_77 rfl kl_0 ?_
  refine r_lif_ge 90 82 dX9_newRoot_78 dX9_newRoot_79 (by decide) rfl X (fun _ X => ?_) (fun _ X => ?_)
  · refine r_lld1 91 dX9_newRoot_90 rfl ?_
    refine r_lld7 93 dX9_newRoot_91 rfl ?_
    refine r_lmul 94 dX9_newRoot_93 rfl ?_
    exact r_cut (wX9_newRoot_94 G hG R _ _ _ _ _ _ _ _ X) ⟨rfl, ⟨rfl, ⟨rfl, ⟨rfl, ⟨rfl, ⟨rfl, trivial⟩⟩⟩⟩⟩⟩
  · refine r_lld1 83 dX9_newRoot_82 rfl ?_
    refine r_lneg 84 dX9_newRoot_83 rfl ?_
    refine r_lld7 86 dX9_newRoot_84 rfl ?_
    refine r_lmul 87 dX9_newRoot_86 rfl ?_
    refine r_goto 94 dX9_newRoot_87 (by decide) ?_
    exact r_cut (wX9_newRoot_94 G hG R _ _ _ _ _ _ _ _ X) ⟨rfl, ⟨rfl, ⟨rfl, ⟨rfl, ⟨rfl, ⟨rfl, trivial⟩⟩⟩⟩⟩⟩
theorem mtX9_newRoot (G : GG) (hG : GT G) {a0 : Nat} {x0 : Int64} {x1 : Int64} {x2 : Int64} {x3 : Int64} {h h' : AH} {v : Int32} (hc : fX9_newRoot a0 x0 x1 x2 x3 h = some (v, h')) : AMet G yX9_newRoot cX9_newRoot 21 (some .int) 1 27 0 0 [.ref (gB G + a0), .long x0, .long x1, .long x2, .long x3] h (some (.int v)) h' :=
  amet_of false [some (.ref (gB G + a0)), some (.long x0), none, some (.long x1), none, some (.long x2), none, some (.long x3), none, none, none, none, none, none, none, none, none, none, none, none, none] (by decide +kernel) (by decide) (Nat.le_of_ble_eq_true rfl) rfl (Nat.le_of_ble_eq_true rfl) (wX9_newRoot G hG (v, h') _ _ _ _ _ h hc)
