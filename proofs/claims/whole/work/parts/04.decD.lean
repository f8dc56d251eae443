theorem dX0_init_0 : decode cX0_init 0 = .ok (.aload_n 0, 1) := by decide +kernel
theorem dX0_init_1 : decode cX0_init 1 = .ok (.invokespecial 1, 3) := by decide +kernel
theorem dX0_init_4 : decode cX0_init 4 = .ok (.aload_n 0, 1) := by decide +kernel
theorem dX0_init_5 : decode cX0_init 5 = .ok (.new 7, 3) := by decide +kernel
theorem dX0_init_8 : decode cX0_init 8 = .ok (.dup, 1) := by decide +kernel
theorem dX0_init_9 : decode cX0_init 9 = .ok (.invokespecial 9, 3) := by decide +kernel
theorem dX0_init_12 : decode cX0_init 12 = .ok (.putfield 10, 3) := by decide +kernel
theorem dX0_init_15 : decode cX0_init 15 = .ok (.aload_n 0, 1) := by decide +kernel
theorem dX0_init_16 : decode cX0_init 16 = .ok (.iload_n 1, 1) := by decide +kernel
theorem dX0_init_17 : decode cX0_init 17 = .ok (.putfield 16, 3) := by decide +kernel
theorem dX0_init_20 : decode cX0_init 20 = .ok (.aload_n 0, 1) := by decide +kernel
theorem dX0_init_21 : decode cX0_init 21 = .ok (.iload_n 2, 1) := by decide +kernel
theorem dX0_init_22 : decode cX0_init 22 = .ok (.putfield 20, 3) := by decide +kernel
theorem dX0_init_25 : decode cX0_init 25 = .ok (.aload_n 0, 1) := by decide +kernel
theorem dX0_init_26 : decode cX0_init 26 = .ok (.iload_n 3, 1) := by decide +kernel
theorem dX0_init_27 : decode cX0_init 27 = .ok (.putfield 24, 3) := by decide +kernel
theorem dX0_init_30 : decode cX0_init 30 = .ok (.return_, 1) := by decide +kernel
theorem dX0_missing_0 : decode cX0_missing 0 = .ok (.aload_n 0, 1) := by decide +kernel
theorem dX0_missing_1 : decode cX0_missing 1 = .ok (.getfield 24, 3) := by decide +kernel
theorem dX0_missing_4 : decode cX0_missing 4 = .ok (.aload_n 0, 1) := by decide +kernel
theorem dX0_missing_5 : decode cX0_missing 5 = .ok (.getfield 10, 3) := by decide +kernel
theorem dX0_missing_8 : decode cX0_missing 8 = .ok (.invokevirtual 27, 3) := by decide +kernel
theorem dX0_missing_11 : decode cX0_missing 11 = .ok (.isub, 1) := by decide +kernel
theorem dX0_missing_12 : decode cX0_missing 12 = .ok (.ireturn, 1) := by decide +kernel
theorem dX1_init_0 : decode cX1_init 0 = .ok (.aload_n 0, 1) := by decide +kernel
theorem dX1_init_1 : decode cX1_init 1 = .ok (.invokespecial 3, 3) := by decide +kernel
theorem dX1_init_4 : decode cX1_init 4 = .ok (.aload_n 0, 1) := by decide +kernel
theorem dX1_init_5 : decode cX1_init 5 = .ok (.bipush 30, 2) := by decide +kernel
theorem dX1_init_7 : decode cX1_init 7 = .ok (.newarray .boolean, 2) := by decide +kernel
theorem dX1_init_9 : decode cX1_init 9 = .ok (.putfield 9, 3) := by decide +kernel
theorem dX1_init_12 : decode cX1_init 12 = .ok (.aload_n 0, 1) := by decide +kernel
theorem dX1_init_13 : decode cX1_init 13 = .ok (.iconst (-1), 1) := by decide +kernel
theorem dX1_init_14 : decode cX1_init 14 = .ok (.putfield 15, 3) := by decide +kernel
theorem dX1_init_17 : decode cX1_init 17 = .ok (.aload_n 0, 1) := by decide +kernel
theorem dX1_init_18 : decode cX1_init 18 = .ok (.iload_n 1, 1) := by decide +kernel
theorem dX1_init_19 : decode cX1_init 19 = .ok (.putfield 19, 3) := by decide +kernel
theorem dX1_init_22 : decode cX1_init 22 = .ok (.aload_n 0, 1) := by decide +kernel
theorem dX1_init_23 : decode cX1_init 23 = .ok (.aload_n 2, 1) := by decide +kernel
theorem dX1_init_24 : decode cX1_init 24 = .ok (.putfield 22, 3) := by decide +kernel
theorem dX1_init_27 : decode cX1_init 27 = .ok (.aload_n 0, 1) := by decide +kernel
theorem dX1_init_28 : decode cX1_init 28 = .ok (.iload_n 3, 1) := by decide +kernel
theorem dX1_init_29 : decode cX1_init 29 = .ok (.putfield 26, 3) := by decide +kernel
theorem dX1_init_32 : decode cX1_init 32 = .ok (.aload_n 0, 1) := by decide +kernel
theorem dX1_init_33 : decode cX1_init 33 = .ok (.iload_n 3, 1) := by decide +kernel
theorem dX1_init_34 : decode cX1_init 34 = .ok (.putfield 29, 3) := by decide +kernel
theorem dX1_init_37 : decode cX1_init 37 = .ok (.aload_n 0, 1) := by decide +kernel
theorem dX1_init_38 : decode cX1_init 38 = .ok (.iload_n 1, 1) := by decide +kernel
theorem dX1_init_39 : decode cX1_init 39 = .ok (.putfield 32, 3) := by decide +kernel
theorem dX1_init_42 : decode cX1_init 42 = .ok (.return_, 1) := by decide +kernel
theorem dX1_kindNow_0 : decode cX1_kindNow 0 = .ok (.aload_n 0, 1) := by decide +kernel
theorem dX1_kindNow_1 : decode cX1_kindNow 1 = .ok (.getfield 29, 3) := by decide +kernel
theorem dX1_kindNow_4 : decode cX1_kindNow 4 = .ok (.bipush 34, 2) := by decide +kernel
theorem dX1_kindNow_6 : decode cX1_kindNow 6 = .ok (.if_icmp .ge 6, 3) := by decide +kernel
theorem dX1_kindNow_9 : decode cX1_kindNow 9 = .ok (.bipush 101, 2) := by decide +kernel
theorem dX1_kindNow_11 : decode cX1_kindNow 11 = .ok (.ireturn, 1) := by decide +kernel
theorem dX1_kindNow_12 : decode cX1_kindNow 12 = .ok (.aload_n 0, 1) := by decide +kernel
theorem dX1_kindNow_13 : decode cX1_kindNow 13 = .ok (.getfield 29, 3) := by decide +kernel
theorem dX1_kindNow_16 : decode cX1_kindNow 16 = .ok (.bipush 67, 2) := by decide +kernel
theorem dX1_kindNow_18 : decode cX1_kindNow 18 = .ok (.if_icmp .ge 8, 3) := by decide +kernel
theorem dX1_kindNow_21 : decode cX1_kindNow 21 = .ok (.bipush 109, 2) := by decide +kernel
theorem dX1_kindNow_23 : decode cX1_kindNow 23 = .ok (.goto 5, 3) := by decide +kernel
theorem dX1_kindNow_26 : decode cX1_kindNow 26 = .ok (.bipush 104, 2) := by decide +kernel
theorem dX1_kindNow_28 : decode cX1_kindNow 28 = .ok (.ireturn, 1) := by decide +kernel
theorem dX1_rankFor_0 : decode cX1_rankFor 0 = .ok (.iconst 0, 1) := by decide +kernel
theorem dX1_rankFor_1 : decode cX1_rankFor 1 = .ok (.istore_n 2, 1) := by decide +kernel
theorem dX1_rankFor_2 : decode cX1_rankFor 2 = .ok (.iconst 0, 1) := by decide +kernel
theorem dX1_rankFor_3 : decode cX1_rankFor 3 = .ok (.istore_n 3, 1) := by decide +kernel
theorem dX1_rankFor_4 : decode cX1_rankFor 4 = .ok (.aload_n 0, 1) := by decide +kernel
theorem dX1_rankFor_5 : decode cX1_rankFor 5 = .ok (.getfield 22, 3) := by decide +kernel
theorem dX1_rankFor_8 : decode cX1_rankFor 8 = .ok (.astore 4, 2) := by decide +kernel
theorem dX1_rankFor_10 : decode cX1_rankFor 10 = .ok (.aload 4, 2) := by decide +kernel
theorem dX1_rankFor_12 : decode cX1_rankFor 12 = .ok (.arraylength, 1) := by decide +kernel
theorem dX1_rankFor_13 : decode cX1_rankFor 13 = .ok (.istore 5, 2) := by decide +kernel
theorem dX1_rankFor_15 : decode cX1_rankFor 15 = .ok (.iconst 0, 1) := by decide +kernel
theorem dX1_rankFor_16 : decode cX1_rankFor 16 = .ok (.istore 6, 2) := by decide +kernel
theorem dX1_rankFor_18 : decode cX1_rankFor 18 = .ok (.iload 6, 2) := by decide +kernel
theorem dX1_rankFor_20 : decode cX1_rankFor 20 = .ok (.iload 5, 2) := by decide +kernel
theorem dX1_rankFor_22 : decode cX1_rankFor 22 = .ok (.if_icmp .ge 50, 3) := by decide +kernel
theorem dX1_rankFor_25 : decode cX1_rankFor 25 = .ok (.aload 4, 2) := by decide +kernel
theorem dX1_rankFor_27 : decode cX1_rankFor 27 = .ok (.iload 6, 2) := by decide +kernel
theorem dX1_rankFor_29 : decode cX1_rankFor 29 = .ok (.iaload, 1) := by decide +kernel
theorem dX1_rankFor_30 : decode cX1_rankFor 30 = .ok (.istore 7, 2) := by decide +kernel
theorem dX1_rankFor_32 : decode cX1_rankFor 32 = .ok (.iconst 1, 1) := by decide +kernel
theorem dX1_rankFor_33 : decode cX1_rankFor 33 = .ok (.iload 7, 2) := by decide +kernel
theorem dX1_rankFor_35 : decode cX1_rankFor 35 = .ok (.ishl, 1) := by decide +kernel
theorem dX1_rankFor_36 : decode cX1_rankFor 36 = .ok (.istore 8, 2) := by decide +kernel
theorem dX1_rankFor_38 : decode cX1_rankFor 38 = .ok (.iload_n 1, 1) := by decide +kernel
theorem dX1_rankFor_39 : decode cX1_rankFor 39 = .ok (.iload 8, 2) := by decide +kernel
theorem dX1_rankFor_41 : decode cX1_rankFor 41 = .ok (.iand, 1) := by decide +kernel
theorem dX1_rankFor_42 : decode cX1_rankFor 42 = .ok (.ifCond .eq 24, 3) := by decide +kernel
theorem dX1_rankFor_45 : decode cX1_rankFor 45 = .ok (.iload_n 3, 1) := by decide +kernel
theorem dX1_rankFor_46 : decode cX1_rankFor 46 = .ok (.iload_n 2, 1) := by decide +kernel
theorem dX1_rankFor_47 : decode cX1_rankFor 47 = .ok (.iload 8, 2) := by decide +kernel
theorem dX1_rankFor_49 : decode cX1_rankFor 49 = .ok (.iand, 1) := by decide +kernel
theorem dX1_rankFor_50 : decode cX1_rankFor 50 = .ok (.ifCond .ne 8, 3) := by decide +kernel
theorem dX1_rankFor_53 : decode cX1_rankFor 53 = .ok (.bipush 11, 2) := by decide +kernel
theorem dX1_rankFor_55 : decode cX1_rankFor 55 = .ok (.goto 4, 3) := by decide +kernel
theorem dX1_rankFor_58 : decode cX1_rankFor 58 = .ok (.iconst 1, 1) := by decide +kernel
theorem dX1_rankFor_59 : decode cX1_rankFor 59 = .ok (.iadd, 1) := by decide +kernel
theorem dX1_rankFor_60 : decode cX1_rankFor 60 = .ok (.istore_n 3, 1) := by decide +kernel
theorem dX1_rankFor_61 : decode cX1_rankFor 61 = .ok (.iload_n 2, 1) := by decide +kernel
theorem dX1_rankFor_62 : decode cX1_rankFor 62 = .ok (.iload 8, 2) := by decide +kernel
theorem dX1_rankFor_64 : decode cX1_rankFor 64 = .ok (.ior, 1) := by decide +kernel
theorem dX1_rankFor_65 : decode cX1_rankFor 65 = .ok (.istore_n 2, 1) := by decide +kernel
theorem dX1_rankFor_66 : decode cX1_rankFor 66 = .ok (.iinc 6 1, 3) := by decide +kernel
theorem dX1_rankFor_69 : decode cX1_rankFor 69 = .ok (.goto (-51), 3) := by decide +kernel
theorem dX1_rankFor_72 : decode cX1_rankFor 72 = .ok (.iload_n 3, 1) := by decide +kernel
theorem dX1_rankFor_73 : decode cX1_rankFor 73 = .ok (.ireturn, 1) := by decide +kernel
theorem dX1_takeAnswer_0 : decode cX1_takeAnswer 0 = .ok (.aload_n 0, 1) := by decide +kernel
theorem dX1_takeAnswer_1 : decode cX1_takeAnswer 1 = .ok (.getfield 35, 3) := by decide +kernel
theorem dX1_takeAnswer_4 : decode cX1_takeAnswer 4 = .ok (.aload_n 0, 1) := by decide +kernel
theorem dX1_takeAnswer_5 : decode cX1_takeAnswer 5 = .ok (.getfield 9, 3) := by decide +kernel
theorem dX1_takeAnswer_8 : decode cX1_takeAnswer 8 = .ok (.arraylength, 1) := by decide +kernel
theorem dX1_takeAnswer_9 : decode cX1_takeAnswer 9 = .ok (.if_icmp .ge 35, 3) := by decide +kernel
theorem dX1_takeAnswer_12 : decode cX1_takeAnswer 12 = .ok (.aload_n 0, 1) := by decide +kernel
theorem dX1_takeAnswer_13 : decode cX1_takeAnswer 13 = .ok (.getfield 9, 3) := by decide +kernel
theorem dX1_takeAnswer_16 : decode cX1_takeAnswer 16 = .ok (.aload_n 0, 1) := by decide +kernel
theorem dX1_takeAnswer_17 : decode cX1_takeAnswer 17 = .ok (.getfield 35, 3) := by decide +kernel
theorem dX1_takeAnswer_20 : decode cX1_takeAnswer 20 = .ok (.iload_n 1, 1) := by decide +kernel
theorem dX1_takeAnswer_21 : decode cX1_takeAnswer 21 = .ok (.bastore, 1) := by decide +kernel
theorem dX1_takeAnswer_22 : decode cX1_takeAnswer 22 = .ok (.aload_n 0, 1) := by decide +kernel
theorem dX1_takeAnswer_23 : decode cX1_takeAnswer 23 = .ok (.dup, 1) := by decide +kernel
theorem dX1_takeAnswer_24 : decode cX1_takeAnswer 24 = .ok (.getfield 35, 3) := by decide +kernel
theorem dX1_takeAnswer_27 : decode cX1_takeAnswer 27 = .ok (.iconst 1, 1) := by decide +kernel
theorem dX1_takeAnswer_28 : decode cX1_takeAnswer 28 = .ok (.iadd, 1) := by decide +kernel
theorem dX1_takeAnswer_29 : decode cX1_takeAnswer 29 = .ok (.putfield 35, 3) := by decide +kernel
theorem dX1_takeAnswer_32 : decode cX1_takeAnswer 32 = .ok (.aload_n 0, 1) := by decide +kernel
theorem dX1_takeAnswer_33 : decode cX1_takeAnswer 33 = .ok (.aload_n 0, 1) := by decide +kernel
theorem dX1_takeAnswer_34 : decode cX1_takeAnswer 34 = .ok (.getfield 29, 3) := by decide +kernel
theorem dX1_takeAnswer_37 : decode cX1_takeAnswer 37 = .ok (.iload_n 1, 1) := by decide +kernel
theorem dX1_takeAnswer_38 : decode cX1_takeAnswer 38 = .ok (.invokestatic 38, 3) := by decide +kernel
theorem dX1_takeAnswer_41 : decode cX1_takeAnswer 41 = .ok (.putfield 29, 3) := by decide +kernel
theorem dX1_takeAnswer_44 : decode cX1_takeAnswer 44 = .ok (.return_, 1) := by decide +kernel
theorem dX1_levelByAnswers_0 : decode cX1_levelByAnswers 0 = .ok (.aload_n 0, 1) := by decide +kernel
theorem dX1_levelByAnswers_1 : decode cX1_levelByAnswers 1 = .ok (.getfield 26, 3) := by decide +kernel
theorem dX1_levelByAnswers_4 : decode cX1_levelByAnswers 4 = .ok (.istore_n 1, 1) := by decide +kernel
theorem dX1_levelByAnswers_5 : decode cX1_levelByAnswers 5 = .ok (.iconst 0, 1) := by decide +kernel
theorem dX1_levelByAnswers_6 : decode cX1_levelByAnswers 6 = .ok (.istore_n 2, 1) := by decide +kernel
theorem dX1_levelByAnswers_7 : decode cX1_levelByAnswers 7 = .ok (.iload_n 2, 1) := by decide +kernel
theorem dX1_levelByAnswers_8 : decode cX1_levelByAnswers 8 = .ok (.aload_n 0, 1) := by decide +kernel
theorem dX1_levelByAnswers_9 : decode cX1_levelByAnswers 9 = .ok (.getfield 35, 3) := by decide +kernel
theorem dX1_levelByAnswers_12 : decode cX1_levelByAnswers 12 = .ok (.if_icmp .ge 29, 3) := by decide +kernel
theorem dX1_levelByAnswers_15 : decode cX1_levelByAnswers 15 = .ok (.iload_n 2, 1) := by decide +kernel
theorem dX1_levelByAnswers_16 : decode cX1_levelByAnswers 16 = .ok (.aload_n 0, 1) := by decide +kernel
theorem dX1_levelByAnswers_17 : decode cX1_levelByAnswers 17 = .ok (.getfield 9, 3) := by decide +kernel
theorem dX1_levelByAnswers_20 : decode cX1_levelByAnswers 20 = .ok (.arraylength, 1) := by decide +kernel
theorem dX1_levelByAnswers_21 : decode cX1_levelByAnswers 21 = .ok (.if_icmp .ge 20, 3) := by decide +kernel
theorem dX1_levelByAnswers_24 : decode cX1_levelByAnswers 24 = .ok (.iload_n 1, 1) := by decide +kernel
theorem dX1_levelByAnswers_25 : decode cX1_levelByAnswers 25 = .ok (.aload_n 0, 1) := by decide +kernel
theorem dX1_levelByAnswers_26 : decode cX1_levelByAnswers 26 = .ok (.getfield 9, 3) := by decide +kernel
theorem dX1_levelByAnswers_29 : decode cX1_levelByAnswers 29 = .ok (.iload_n 2, 1) := by decide +kernel
theorem dX1_levelByAnswers_30 : decode cX1_levelByAnswers 30 = .ok (.baload, 1) := by decide +kernel
theorem dX1_levelByAnswers_31 : decode cX1_levelByAnswers 31 = .ok (.invokestatic 38, 3) := by decide +kernel
theorem dX1_levelByAnswers_34 : decode cX1_levelByAnswers 34 = .ok (.istore_n 1, 1) := by decide +kernel
theorem dX1_levelByAnswers_35 : decode cX1_levelByAnswers 35 = .ok (.iinc 2 1, 3) := by decide +kernel
theorem dX1_levelByAnswers_38 : decode cX1_levelByAnswers 38 = .ok (.goto (-31), 3) := by decide +kernel
theorem dX1_levelByAnswers_41 : decode cX1_levelByAnswers 41 = .ok (.iload_n 1, 1) := by decide +kernel
theorem dX1_levelByAnswers_42 : decode cX1_levelByAnswers 42 = .ok (.ireturn, 1) := by decide +kernel
theorem dX1_shifted_0 : decode cX1_shifted 0 = .ok (.iload_n 1, 1) := by decide +kernel
theorem dX1_shifted_1 : decode cX1_shifted 1 = .ok (.ifCond .eq 16, 3) := by decide +kernel
theorem dX1_shifted_4 : decode cX1_shifted 4 = .ok (.iconst 0, 1) := by decide +kernel
theorem dX1_shifted_5 : decode cX1_shifted 5 = .ok (.iload_n 0, 1) := by decide +kernel
theorem dX1_shifted_6 : decode cX1_shifted 6 = .ok (.iconst 1, 1) := by decide +kernel
theorem dX1_shifted_7 : decode cX1_shifted 7 = .ok (.isub, 1) := by decide +kernel
theorem dX1_shifted_8 : decode cX1_shifted 8 = .ok (.iload_n 0, 1) := by decide +kernel
theorem dX1_shifted_9 : decode cX1_shifted 9 = .ok (.bipush 10, 2) := by decide +kernel
theorem dX1_shifted_11 : decode cX1_shifted 11 = .ok (.idiv, 1) := by decide +kernel
theorem dX1_shifted_12 : decode cX1_shifted 12 = .ok (.isub, 1) := by decide +kernel
theorem dX1_shifted_13 : decode cX1_shifted 13 = .ok (.invokestatic 42, 3) := by decide +kernel
theorem dX1_shifted_16 : decode cX1_shifted 16 = .ok (.ireturn, 1) := by decide +kernel
theorem dX1_shifted_17 : decode cX1_shifted 17 = .ok (.bipush 100, 2) := by decide +kernel
theorem dX1_shifted_19 : decode cX1_shifted 19 = .ok (.iload_n 0, 1) := by decide +kernel
theorem dX1_shifted_20 : decode cX1_shifted 20 = .ok (.iconst 1, 1) := by decide +kernel
theorem dX1_shifted_21 : decode cX1_shifted 21 = .ok (.iadd, 1) := by decide +kernel
theorem dX1_shifted_22 : decode cX1_shifted 22 = .ok (.bipush 100, 2) := by decide +kernel
theorem dX1_shifted_24 : decode cX1_shifted 24 = .ok (.iload_n 0, 1) := by decide +kernel
theorem dX1_shifted_25 : decode cX1_shifted 25 = .ok (.isub, 1) := by decide +kernel
theorem dX1_shifted_26 : decode cX1_shifted 26 = .ok (.bipush 10, 2) := by decide +kernel
theorem dX1_shifted_28 : decode cX1_shifted 28 = .ok (.idiv, 1) := by decide +kernel
theorem dX1_shifted_29 : decode cX1_shifted 29 = .ok (.iadd, 1) := by decide +kernel
theorem dX1_shifted_30 : decode cX1_shifted 30 = .ok (.invokestatic 48, 3) := by decide +kernel
theorem dX1_shifted_33 : decode cX1_shifted 33 = .ok (.ireturn, 1) := by decide +kernel
theorem dX2_init_0 : decode cX2_init 0 = .ok (.aload_n 0, 1) := by decide +kernel
theorem dX2_init_1 : decode cX2_init 1 = .ok (.invokespecial 3, 3) := by decide +kernel
theorem dX2_init_4 : decode cX2_init 4 = .ok (.aload_n 0, 1) := by decide +kernel
theorem dX2_init_5 : decode cX2_init 5 = .ok (.new 9, 3) := by decide +kernel
theorem dX2_init_8 : decode cX2_init 8 = .ok (.dup, 1) := by decide +kernel
theorem dX2_init_9 : decode cX2_init 9 = .ok (.invokespecial 11, 3) := by decide +kernel
theorem dX2_init_12 : decode cX2_init 12 = .ok (.putfield 12, 3) := by decide +kernel
theorem dX2_init_15 : decode cX2_init 15 = .ok (.aload_n 0, 1) := by decide +kernel
theorem dX2_init_16 : decode cX2_init 16 = .ok (.bipush 115, 2) := by decide +kernel
theorem dX2_init_18 : decode cX2_init 18 = .ok (.putfield 18, 3) := by decide +kernel
theorem dX2_init_21 : decode cX2_init 21 = .ok (.iconst 0, 1) := by decide +kernel
theorem dX2_init_22 : decode cX2_init 22 = .ok (.istore_n 2, 1) := by decide +kernel
theorem dX2_init_23 : decode cX2_init 23 = .ok (.iload_n 2, 1) := by decide +kernel
theorem dX2_init_24 : decode cX2_init 24 = .ok (.aload_n 1, 1) := by decide +kernel
theorem dX2_init_25 : decode cX2_init 25 = .ok (.invokevirtual 22, 3) := by decide +kernel
theorem dX2_init_28 : decode cX2_init 28 = .ok (.if_icmp .ge 25, 3) := by decide +kernel
theorem dX2_init_31 : decode cX2_init 31 = .ok (.aload_n 0, 1) := by decide +kernel
theorem dX2_init_32 : decode cX2_init 32 = .ok (.getfield 12, 3) := by decide +kernel
theorem dX2_init_35 : decode cX2_init 35 = .ok (.aload_n 1, 1) := by decide +kernel
theorem dX2_init_36 : decode cX2_init 36 = .ok (.iload_n 2, 1) := by decide +kernel
theorem dX2_init_37 : decode cX2_init 37 = .ok (.invokevirtual 26, 3) := by decide +kernel
theorem dX2_init_40 : decode cX2_init 40 = .ok (.checkcast 30, 3) := by decide +kernel
theorem dX2_init_43 : decode cX2_init 43 = .ok (.invokevirtual 32, 3) := by decide +kernel
theorem dX2_init_46 : decode cX2_init 46 = .ok (.pop, 1) := by decide +kernel
theorem dX2_init_47 : decode cX2_init 47 = .ok (.iinc 2 1, 3) := by decide +kernel
theorem dX2_init_50 : decode cX2_init 50 = .ok (.goto (-27), 3) := by decide +kernel
theorem dX2_init_53 : decode cX2_init 53 = .ok (.aload_n 0, 1) := by decide +kernel
theorem dX2_init_54 : decode cX2_init 54 = .ok (.aload_n 0, 1) := by decide +kernel
theorem dX2_init_55 : decode cX2_init 55 = .ok (.getfield 12, 3) := by decide +kernel
theorem dX2_init_58 : decode cX2_init 58 = .ok (.invokevirtual 22, 3) := by decide +kernel
theorem dX2_init_61 : decode cX2_init 61 = .ok (.newarray .boolean, 2) := by decide +kernel
theorem dX2_init_63 : decode cX2_init 63 = .ok (.putfield 36, 3) := by decide +kernel
theorem dX2_init_66 : decode cX2_init 66 = .ok (.return_, 1) := by decide +kernel
theorem dX2_markAnswered_0 : decode cX2_markAnswered 0 = .ok (.iload_n 1, 1) := by decide +kernel
theorem dX2_markAnswered_1 : decode cX2_markAnswered 1 = .ok (.ifCond .lt 21, 3) := by decide +kernel
theorem dX2_markAnswered_4 : decode cX2_markAnswered 4 = .ok (.iload_n 1, 1) := by decide +kernel
theorem dX2_markAnswered_5 : decode cX2_markAnswered 5 = .ok (.aload_n 0, 1) := by decide +kernel
theorem dX2_markAnswered_6 : decode cX2_markAnswered 6 = .ok (.getfield 36, 3) := by decide +kernel
theorem dX2_markAnswered_9 : decode cX2_markAnswered 9 = .ok (.arraylength, 1) := by decide +kernel
theorem dX2_markAnswered_10 : decode cX2_markAnswered 10 = .ok (.if_icmp .ge 12, 3) := by decide +kernel
theorem dX2_markAnswered_13 : decode cX2_markAnswered 13 = .ok (.aload_n 0, 1) := by decide +kernel
theorem dX2_markAnswered_14 : decode cX2_markAnswered 14 = .ok (.getfield 36, 3) := by decide +kernel
theorem dX2_markAnswered_17 : decode cX2_markAnswered 17 = .ok (.iload_n 1, 1) := by decide +kernel
theorem dX2_markAnswered_18 : decode cX2_markAnswered 18 = .ok (.baload, 1) := by decide +kernel
theorem dX2_markAnswered_19 : decode cX2_markAnswered 19 = .ok (.ifCond .eq 5, 3) := by decide +kernel
theorem dX2_markAnswered_22 : decode cX2_markAnswered 22 = .ok (.iconst 0, 1) := by decide +kernel
theorem dX2_markAnswered_23 : decode cX2_markAnswered 23 = .ok (.ireturn, 1) := by decide +kernel
theorem dX2_markAnswered_24 : decode cX2_markAnswered 24 = .ok (.aload_n 0, 1) := by decide +kernel
theorem dX2_markAnswered_25 : decode cX2_markAnswered 25 = .ok (.getfield 36, 3) := by decide +kernel
theorem dX2_markAnswered_28 : decode cX2_markAnswered 28 = .ok (.iload_n 1, 1) := by decide +kernel
theorem dX2_markAnswered_29 : decode cX2_markAnswered 29 = .ok (.iconst 1, 1) := by decide +kernel
theorem dX2_markAnswered_30 : decode cX2_markAnswered 30 = .ok (.bastore, 1) := by decide +kernel
theorem dX2_markAnswered_31 : decode cX2_markAnswered 31 = .ok (.iconst 1, 1) := by decide +kernel
theorem dX2_markAnswered_32 : decode cX2_markAnswered 32 = .ok (.ireturn, 1) := by decide +kernel
theorem dX3_init_0 : decode cX3_init 0 = .ok (.aload_n 0, 1) := by decide +kernel
theorem dX3_init_1 : decode cX3_init 1 = .ok (.invokespecial 1, 3) := by decide +kernel
theorem dX3_init_4 : decode cX3_init 4 = .ok (.aload_n 0, 1) := by decide +kernel
theorem dX3_init_5 : decode cX3_init 5 = .ok (.bipush 6, 2) := by decide +kernel
theorem dX3_init_7 : decode cX3_init 7 = .ok (.newarray .int, 2) := by decide +kernel
theorem dX3_init_9 : decode cX3_init 9 = .ok (.putfield 9, 3) := by decide +kernel
theorem dX3_init_12 : decode cX3_init 12 = .ok (.aload_n 0, 1) := by decide +kernel
theorem dX3_init_13 : decode cX3_init 13 = .ok (.new 13, 3) := by decide +kernel
theorem dX3_init_16 : decode cX3_init 16 = .ok (.dup, 1) := by decide +kernel
theorem dX3_init_17 : decode cX3_init 17 = .ok (.invokespecial 15, 3) := by decide +kernel
theorem dX3_init_20 : decode cX3_init 20 = .ok (.putfield 16, 3) := by decide +kernel
theorem dX3_init_23 : decode cX3_init 23 = .ok (.aload_n 0, 1) := by decide +kernel
theorem dX3_init_24 : decode cX3_init 24 = .ok (.new 13, 3) := by decide +kernel
theorem dX3_init_27 : decode cX3_init 27 = .ok (.dup, 1) := by decide +kernel
theorem dX3_init_28 : decode cX3_init 28 = .ok (.invokespecial 15, 3) := by decide +kernel
theorem dX3_init_31 : decode cX3_init 31 = .ok (.putfield 20, 3) := by decide +kernel
theorem dX3_init_34 : decode cX3_init 34 = .ok (.aload_n 0, 1) := by decide +kernel
theorem dX3_init_35 : decode cX3_init 35 = .ok (.new 13, 3) := by decide +kernel
theorem dX3_init_38 : decode cX3_init 38 = .ok (.dup, 1) := by decide +kernel
theorem dX3_init_39 : decode cX3_init 39 = .ok (.invokespecial 15, 3) := by decide +kernel
theorem dX3_init_42 : decode cX3_init 42 = .ok (.putfield 23, 3) := by decide +kernel
theorem dX3_init_45 : decode cX3_init 45 = .ok (.aload_n 0, 1) := by decide +kernel
theorem dX3_init_46 : decode cX3_init 46 = .ok (.new 13, 3) := by decide +kernel
theorem dX3_init_49 : decode cX3_init 49 = .ok (.dup, 1) := by decide +kernel
theorem dX3_init_50 : decode cX3_init 50 = .ok (.invokespecial 15, 3) := by decide +kernel
theorem dX3_init_53 : decode cX3_init 53 = .ok (.putfield 26, 3) := by decide +kernel
theorem dX3_init_56 : decode cX3_init 56 = .ok (.aload_n 0, 1) := by decide +kernel
theorem dX3_init_57 : decode cX3_init 57 = .ok (.new 13, 3) := by decide +kernel
theorem dX3_init_60 : decode cX3_init 60 = .ok (.dup, 1) := by decide +kernel
theorem dX3_init_61 : decode cX3_init 61 = .ok (.invokespecial 15, 3) := by decide +kernel
theorem dX3_init_64 : decode cX3_init 64 = .ok (.putfield 29, 3) := by decide +kernel
theorem dX3_init_67 : decode cX3_init 67 = .ok (.aload_n 0, 1) := by decide +kernel
theorem dX3_init_68 : decode cX3_init 68 = .ok (.new 13, 3) := by decide +kernel
theorem dX3_init_71 : decode cX3_init 71 = .ok (.dup, 1) := by decide +kernel
theorem dX3_init_72 : decode cX3_init 72 = .ok (.invokespecial 15, 3) := by decide +kernel
theorem dX3_init_75 : decode cX3_init 75 = .ok (.putfield 32, 3) := by decide +kernel
theorem dX3_init_78 : decode cX3_init 78 = .ok (.aload_n 0, 1) := by decide +kernel
theorem dX3_init_79 : decode cX3_init 79 = .ok (.new 35, 3) := by decide +kernel
theorem dX3_init_82 : decode cX3_init 82 = .ok (.dup, 1) := by decide +kernel
theorem dX3_init_83 : decode cX3_init 83 = .ok (.invokespecial 37, 3) := by decide +kernel
theorem dX3_init_86 : decode cX3_init 86 = .ok (.putfield 38, 3) := by decide +kernel
theorem dX3_init_89 : decode cX3_init 89 = .ok (.return_, 1) := by decide +kernel
theorem dX3_type_0 : decode cX3_type 0 = .ok (.iload_n 1, 1) := by decide +kernel
theorem dX3_type_1 : decode cX3_type 1 = .ok (.iconst 0, 1) := by decide +kernel
theorem dX3_type_2 : decode cX3_type 2 = .ok (.bipush 29, 2) := by decide +kernel
theorem dX3_type_4 : decode cX3_type 4 = .ok (.invokestatic 42, 3) := by decide +kernel
theorem dX3_type_7 : decode cX3_type 7 = .ok (.ifCond .eq 13, 3) := by decide +kernel
theorem dX3_type_10 : decode cX3_type 10 = .ok (.new 46, 3) := by decide +kernel
theorem dX3_type_13 : decode cX3_type 13 = .ok (.dup, 1) := by decide +kernel
theorem dX3_type_14 : decode cX3_type 14 = .ok (.ldc 48, 2) := by decide +kernel
theorem dX3_type_16 : decode cX3_type 16 = .ok (.invokespecial 50, 3) := by decide +kernel
theorem dX3_type_19 : decode cX3_type 19 = .ok (.athrow, 1) := by decide +kernel
theorem dX3_type_20 : decode cX3_type 20 = .ok (.aload_n 0, 1) := by decide +kernel
theorem dX3_type_21 : decode cX3_type 21 = .ok (.getfield 53, 3) := by decide +kernel
theorem dX3_type_24 : decode cX3_type 24 = .ok (.bipush 6, 2) := by decide +kernel
theorem dX3_type_26 : decode cX3_type 26 = .ok (.if_icmp .lt 13, 3) := by decide +kernel
theorem dX3_type_29 : decode cX3_type 29 = .ok (.new 57, 3) := by decide +kernel
theorem dX3_type_32 : decode cX3_type 32 = .ok (.dup, 1) := by decide +kernel
theorem dX3_type_33 : decode cX3_type 33 = .ok (.ldc 59, 2) := by decide +kernel
theorem dX3_type_35 : decode cX3_type 35 = .ok (.invokespecial 61, 3) := by decide +kernel
theorem dX3_type_38 : decode cX3_type 38 = .ok (.athrow, 1) := by decide +kernel
theorem dX3_type_39 : decode cX3_type 39 = .ok (.aload_n 0, 1) := by decide +kernel
theorem dX3_type_40 : decode cX3_type 40 = .ok (.getfield 9, 3) := by decide +kernel
theorem dX3_type_43 : decode cX3_type 43 = .ok (.aload_n 0, 1) := by decide +kernel
theorem dX3_type_44 : decode cX3_type 44 = .ok (.getfield 53, 3) := by decide +kernel
theorem dX3_type_47 : decode cX3_type 47 = .ok (.iload_n 1, 1) := by decide +kernel
theorem dX3_type_48 : decode cX3_type 48 = .ok (.iastore, 1) := by decide +kernel
theorem dX3_type_49 : decode cX3_type 49 = .ok (.aload_n 0, 1) := by decide +kernel
theorem dX3_type_50 : decode cX3_type 50 = .ok (.dup, 1) := by decide +kernel
theorem dX3_type_51 : decode cX3_type 51 = .ok (.getfield 53, 3) := by decide +kernel
theorem dX3_type_54 : decode cX3_type 54 = .ok (.iconst 1, 1) := by decide +kernel
theorem dX3_type_55 : decode cX3_type 55 = .ok (.iadd, 1) := by decide +kernel
theorem dX3_type_56 : decode cX3_type 56 = .ok (.putfield 53, 3) := by decide +kernel
theorem dX3_type_59 : decode cX3_type 59 = .ok (.aload_n 0, 1) := by decide +kernel
theorem dX3_type_60 : decode cX3_type 60 = .ok (.getfield 53, 3) := by decide +kernel
theorem dX3_type_63 : decode cX3_type 63 = .ok (.ireturn, 1) := by decide +kernel
theorem dX3_erase_0 : decode cX3_erase 0 = .ok (.aload_n 0, 1) := by decide +kernel
theorem dX3_erase_1 : decode cX3_erase 1 = .ok (.getfield 53, 3) := by decide +kernel
theorem dX3_erase_4 : decode cX3_erase 4 = .ok (.istore_n 1, 1) := by decide +kernel
theorem dX3_erase_5 : decode cX3_erase 5 = .ok (.aload_n 0, 1) := by decide +kernel
theorem dX3_erase_6 : decode cX3_erase 6 = .ok (.iconst 0, 1) := by decide +kernel
theorem dX3_erase_7 : decode cX3_erase 7 = .ok (.putfield 53, 3) := by decide +kernel
theorem dX3_erase_10 : decode cX3_erase 10 = .ok (.iload_n 1, 1) := by decide +kernel
theorem dX3_erase_11 : decode cX3_erase 11 = .ok (.ireturn, 1) := by decide +kernel
theorem dX3_add_0 : decode cX3_add 0 = .ok (.iload_n 1, 1) := by decide +kernel
theorem dX3_add_1 : decode cX3_add 1 = .ok (.iconst 0, 1) := by decide +kernel
theorem dX3_add_2 : decode cX3_add 2 = .ok (.bipush 100, 2) := by decide +kernel
theorem dX3_add_4 : decode cX3_add 4 = .ok (.invokestatic 42, 3) := by decide +kernel
theorem dX3_add_7 : decode cX3_add 7 = .ok (.ifCond .eq 13, 3) := by decide +kernel
theorem dX3_add_10 : decode cX3_add 10 = .ok (.new 46, 3) := by decide +kernel
theorem dX3_add_13 : decode cX3_add 13 = .ok (.dup, 1) := by decide +kernel
theorem dX3_add_14 : decode cX3_add 14 = .ok (.ldc 62, 2) := by decide +kernel
theorem dX3_add_16 : decode cX3_add 16 = .ok (.invokespecial 50, 3) := by decide +kernel
theorem dX3_add_19 : decode cX3_add 19 = .ok (.athrow, 1) := by decide +kernel
theorem dX3_add_20 : decode cX3_add 20 = .ok (.aload_n 0, 1) := by decide +kernel
theorem dX3_add_21 : decode cX3_add 21 = .ok (.getfield 53, 3) := by decide +kernel
theorem dX3_add_24 : decode cX3_add 24 = .ok (.ifCond .ne 13, 3) := by decide +kernel
theorem dX3_add_27 : decode cX3_add 27 = .ok (.new 64, 3) := by decide +kernel
theorem dX3_add_30 : decode cX3_add 30 = .ok (.dup, 1) := by decide +kernel
theorem dX3_add_31 : decode cX3_add 31 = .ok (.ldc 66, 2) := by decide +kernel
theorem dX3_add_33 : decode cX3_add 33 = .ok (.invokespecial 68, 3) := by decide +kernel
theorem dX3_add_36 : decode cX3_add 36 = .ok (.athrow, 1) := by decide +kernel
theorem dX3_add_37 : decode cX3_add 37 = .ok (.aload_n 0, 1) := by decide +kernel
theorem dX3_add_38 : decode cX3_add 38 = .ok (.getfield 16, 3) := by decide +kernel
theorem dX3_add_41 : decode cX3_add 41 = .ok (.invokevirtual 69, 3) := by decide +kernel
theorem dX3_add_44 : decode cX3_add 44 = .ok (.bipush 40, 2) := by decide +kernel
theorem dX3_add_46 : decode cX3_add 46 = .ok (.if_icmp .lt 13, 3) := by decide +kernel
theorem dX3_add_49 : decode cX3_add 49 = .ok (.new 57, 3) := by decide +kernel
theorem dX3_add_52 : decode cX3_add 52 = .ok (.dup, 1) := by decide +kernel
theorem dX3_add_53 : decode cX3_add 53 = .ok (.ldc 73, 2) := by decide +kernel
theorem dX3_add_55 : decode cX3_add 55 = .ok (.invokespecial 61, 3) := by decide +kernel
theorem dX3_add_58 : decode cX3_add 58 = .ok (.athrow, 1) := by decide +kernel
theorem dX3_add_59 : decode cX3_add 59 = .ok (.aload_n 0, 1) := by decide +kernel
theorem dX3_add_60 : decode cX3_add 60 = .ok (.getfield 16, 3) := by decide +kernel
theorem dX3_add_63 : decode cX3_add 63 = .ok (.invokevirtual 69, 3) := by decide +kernel
theorem dX3_add_66 : decode cX3_add 66 = .ok (.istore_n 2, 1) := by decide +kernel
theorem dX3_add_67 : decode cX3_add 67 = .ok (.aload_n 0, 1) := by decide +kernel
theorem dX3_add_68 : decode cX3_add 68 = .ok (.getfield 16, 3) := by decide +kernel
theorem dX3_add_71 : decode cX3_add 71 = .ok (.new 75, 3) := by decide +kernel
theorem dX3_add_74 : decode cX3_add 74 = .ok (.dup, 1) := by decide +kernel
theorem dX3_add_75 : decode cX3_add 75 = .ok (.iload_n 2, 1) := by decide +kernel
theorem dX3_add_76 : decode cX3_add 76 = .ok (.aload_n 0, 1) := by decide +kernel
theorem dX3_add_77 : decode cX3_add 77 = .ok (.getfield 9, 3) := by decide +kernel
theorem dX3_add_80 : decode cX3_add 80 = .ok (.aload_n 0, 1) := by decide +kernel
theorem dX3_add_81 : decode cX3_add 81 = .ok (.getfield 53, 3) := by decide +kernel
theorem dX3_add_84 : decode cX3_add 84 = .ok (.invokestatic 77, 3) := by decide +kernel
theorem dX3_add_87 : decode cX3_add 87 = .ok (.iload_n 1, 1) := by decide +kernel
theorem dX3_add_88 : decode cX3_add 88 = .ok (.invokespecial 83, 3) := by decide +kernel
theorem dX3_add_91 : decode cX3_add 91 = .ok (.invokevirtual 86, 3) := by decide +kernel
theorem dX3_add_94 : decode cX3_add 94 = .ok (.pop, 1) := by decide +kernel
theorem dX3_add_95 : decode cX3_add 95 = .ok (.aload_n 0, 1) := by decide +kernel
theorem dX3_add_96 : decode cX3_add 96 = .ok (.iconst 0, 1) := by decide +kernel
theorem dX3_add_97 : decode cX3_add 97 = .ok (.putfield 53, 3) := by decide +kernel
theorem dX3_add_100 : decode cX3_add 100 = .ok (.aload_n 0, 1) := by decide +kernel
theorem dX3_add_101 : decode cX3_add 101 = .ok (.invokevirtual 90, 3) := by decide +kernel
theorem dX3_add_104 : decode cX3_add 104 = .ok (.iload_n 2, 1) := by decide +kernel
theorem dX3_add_105 : decode cX3_add 105 = .ok (.ireturn, 1) := by decide +kernel
theorem dX3_twin_0 : decode cX3_twin 0 = .ok (.aload_n 0, 1) := by decide +kernel
theorem dX3_twin_1 : decode cX3_twin 1 = .ok (.iload_n 1, 1) := by decide +kernel
theorem dX3_twin_2 : decode cX3_twin 2 = .ok (.invokevirtual 93, 3) := by decide +kernel
theorem dX3_twin_5 : decode cX3_twin 5 = .ok (.astore_n 3, 1) := by decide +kernel
theorem dX3_twin_6 : decode cX3_twin 6 = .ok (.aload_n 0, 1) := by decide +kernel
theorem dX3_twin_7 : decode cX3_twin 7 = .ok (.iload_n 2, 1) := by decide +kernel
theorem dX3_twin_8 : decode cX3_twin 8 = .ok (.invokevirtual 93, 3) := by decide +kernel
theorem dX3_twin_11 : decode cX3_twin 11 = .ok (.astore 4, 2) := by decide +kernel
theorem dX3_twin_13 : decode cX3_twin 13 = .ok (.aload_n 3, 1) := by decide +kernel
theorem dX3_twin_14 : decode cX3_twin 14 = .ok (.aload 4, 2) := by decide +kernel
theorem dX3_twin_16 : decode cX3_twin 16 = .ok (.if_acmp .ne 13, 3) := by decide +kernel
theorem dX3_twin_19 : decode cX3_twin 19 = .ok (.new 46, 3) := by decide +kernel
theorem dX3_twin_22 : decode cX3_twin 22 = .ok (.dup, 1) := by decide +kernel
theorem dX3_twin_23 : decode cX3_twin 23 = .ok (.ldc 97, 2) := by decide +kernel
theorem dX3_twin_25 : decode cX3_twin 25 = .ok (.invokespecial 50, 3) := by decide +kernel
theorem dX3_twin_28 : decode cX3_twin 28 = .ok (.athrow, 1) := by decide +kernel
theorem dX3_twin_29 : decode cX3_twin 29 = .ok (.aload_n 0, 1) := by decide +kernel
theorem dX3_twin_30 : decode cX3_twin 30 = .ok (.aload_n 3, 1) := by decide +kernel
theorem dX3_twin_31 : decode cX3_twin 31 = .ok (.getfield 99, 3) := by decide +kernel
theorem dX3_twin_34 : decode cX3_twin 34 = .ok (.aload 4, 2) := by decide +kernel
theorem dX3_twin_36 : decode cX3_twin 36 = .ok (.getfield 99, 3) := by decide +kernel
theorem dX3_twin_39 : decode cX3_twin 39 = .ok (.invokevirtual 102, 3) := by decide +kernel
theorem dX3_twin_42 : decode cX3_twin 42 = .ok (.aload_n 0, 1) := by decide +kernel
theorem dX3_twin_43 : decode cX3_twin 43 = .ok (.invokevirtual 90, 3) := by decide +kernel
theorem dX3_twin_46 : decode cX3_twin 46 = .ok (.aload_n 0, 1) := by decide +kernel
theorem dX3_twin_47 : decode cX3_twin 47 = .ok (.aload_n 3, 1) := by decide +kernel
theorem dX3_twin_48 : decode cX3_twin 48 = .ok (.invokevirtual 106, 3) := by decide +kernel
theorem dX3_twin_51 : decode cX3_twin 51 = .ok (.ireturn, 1) := by decide +kernel
theorem dX3_areTwins_0 : decode cX3_areTwins 0 = .ok (.aload_n 0, 1) := by decide +kernel
theorem dX3_areTwins_1 : decode cX3_areTwins 1 = .ok (.iload_n 1, 1) := by decide +kernel
theorem dX3_areTwins_2 : decode cX3_areTwins 2 = .ok (.invokevirtual 93, 3) := by decide +kernel
theorem dX3_areTwins_5 : decode cX3_areTwins 5 = .ok (.astore_n 3, 1) := by decide +kernel
theorem dX3_areTwins_6 : decode cX3_areTwins 6 = .ok (.aload_n 0, 1) := by decide +kernel
theorem dX3_areTwins_7 : decode cX3_areTwins 7 = .ok (.iload_n 2, 1) := by decide +kernel
theorem dX3_areTwins_8 : decode cX3_areTwins 8 = .ok (.invokevirtual 93, 3) := by decide +kernel
theorem dX3_areTwins_11 : decode cX3_areTwins 11 = .ok (.astore 4, 2) := by decide +kernel
theorem dX3_areTwins_13 : decode cX3_areTwins 13 = .ok (.aload_n 3, 1) := by decide +kernel
theorem dX3_areTwins_14 : decode cX3_areTwins 14 = .ok (.aload 4, 2) := by decide +kernel
theorem dX3_areTwins_16 : decode cX3_areTwins 16 = .ok (.if_acmp .eq 19, 3) := by decide +kernel
theorem dX3_areTwins_19 : decode cX3_areTwins 19 = .ok (.aload_n 3, 1) := by decide +kernel
theorem dX3_areTwins_20 : decode cX3_areTwins 20 = .ok (.getfield 99, 3) := by decide +kernel
theorem dX3_areTwins_23 : decode cX3_areTwins 23 = .ok (.aload 4, 2) := by decide +kernel
theorem dX3_areTwins_25 : decode cX3_areTwins 25 = .ok (.getfield 99, 3) := by decide +kernel
theorem dX3_areTwins_28 : decode cX3_areTwins 28 = .ok (.if_icmp .ne 7, 3) := by decide +kernel
theorem dX3_areTwins_31 : decode cX3_areTwins 31 = .ok (.iconst 1, 1) := by decide +kernel
theorem dX3_areTwins_32 : decode cX3_areTwins 32 = .ok (.goto 4, 3) := by decide +kernel
theorem dX3_areTwins_35 : decode cX3_areTwins 35 = .ok (.iconst 0, 1) := by decide +kernel
theorem dX3_areTwins_36 : decode cX3_areTwins 36 = .ok (.ireturn, 1) := by decide +kernel
theorem dX3_wordAt_0 : decode cX3_wordAt 0 = .ok (.aload_n 0, 1) := by decide +kernel
theorem dX3_wordAt_1 : decode cX3_wordAt 1 = .ok (.iload_n 1, 1) := by decide +kernel
theorem dX3_wordAt_2 : decode cX3_wordAt 2 = .ok (.invokevirtual 93, 3) := by decide +kernel
theorem dX3_wordAt_5 : decode cX3_wordAt 5 = .ok (.getfield 110, 3) := by decide +kernel
theorem dX3_wordAt_8 : decode cX3_wordAt 8 = .ok (.astore_n 3, 1) := by decide +kernel
theorem dX3_wordAt_9 : decode cX3_wordAt 9 = .ok (.iload_n 2, 1) := by decide +kernel
theorem dX3_wordAt_10 : decode cX3_wordAt 10 = .ok (.ifCond .lt 9, 3) := by decide +kernel
theorem dX3_wordAt_13 : decode cX3_wordAt 13 = .ok (.iload_n 2, 1) := by decide +kernel
theorem dX3_wordAt_14 : decode cX3_wordAt 14 = .ok (.aload_n 3, 1) := by decide +kernel
theorem dX3_wordAt_15 : decode cX3_wordAt 15 = .ok (.arraylength, 1) := by decide +kernel
theorem dX3_wordAt_16 : decode cX3_wordAt 16 = .ok (.if_icmp .lt 13, 3) := by decide +kernel
theorem dX3_wordAt_19 : decode cX3_wordAt 19 = .ok (.new 113, 3) := by decide +kernel
theorem dX3_wordAt_22 : decode cX3_wordAt 22 = .ok (.dup, 1) := by decide +kernel
theorem dX3_wordAt_23 : decode cX3_wordAt 23 = .ok (.ldc 48, 2) := by decide +kernel
theorem dX3_wordAt_25 : decode cX3_wordAt 25 = .ok (.invokespecial 115, 3) := by decide +kernel
theorem dX3_wordAt_28 : decode cX3_wordAt 28 = .ok (.athrow, 1) := by decide +kernel
theorem dX3_wordAt_29 : decode cX3_wordAt 29 = .ok (.aload_n 3, 1) := by decide +kernel
theorem dX3_wordAt_30 : decode cX3_wordAt 30 = .ok (.iload_n 2, 1) := by decide +kernel
theorem dX3_wordAt_31 : decode cX3_wordAt 31 = .ok (.iaload, 1) := by decide +kernel
theorem dX3_wordAt_32 : decode cX3_wordAt 32 = .ok (.ireturn, 1) := by decide +kernel
theorem dX3_level_0 : decode cX3_level 0 = .ok (.aload_n 0, 1) := by decide +kernel
theorem dX3_level_1 : decode cX3_level 1 = .ok (.iload_n 1, 1) := by decide +kernel
theorem dX3_level_2 : decode cX3_level 2 = .ok (.invokevirtual 93, 3) := by decide +kernel
theorem dX3_level_5 : decode cX3_level 5 = .ok (.getfield 116, 3) := by decide +kernel
theorem dX3_level_8 : decode cX3_level 8 = .ok (.ireturn, 1) := by decide +kernel
theorem dX3_levelAnew_0 : decode cX3_levelAnew 0 = .ok (.aload_n 0, 1) := by decide +kernel
theorem dX3_levelAnew_1 : decode cX3_levelAnew 1 = .ok (.iload_n 1, 1) := by decide +kernel
theorem dX3_levelAnew_2 : decode cX3_levelAnew 2 = .ok (.invokevirtual 93, 3) := by decide +kernel
theorem dX3_levelAnew_5 : decode cX3_levelAnew 5 = .ok (.invokevirtual 119, 3) := by decide +kernel
theorem dX3_levelAnew_8 : decode cX3_levelAnew 8 = .ok (.ireturn, 1) := by decide +kernel
theorem dX3_kind_0 : decode cX3_kind 0 = .ok (.aload_n 0, 1) := by decide +kernel
theorem dX3_kind_1 : decode cX3_kind 1 = .ok (.iload_n 1, 1) := by decide +kernel
theorem dX3_kind_2 : decode cX3_kind 2 = .ok (.invokevirtual 93, 3) := by decide +kernel
theorem dX3_kind_5 : decode cX3_kind 5 = .ok (.invokevirtual 122, 3) := by decide +kernel
theorem dX3_kind_8 : decode cX3_kind 8 = .ok (.ireturn, 1) := by decide +kernel
theorem dX3_search_0 : decode cX3_search 0 = .ok (.aload_n 0, 1) := by decide +kernel
theorem dX3_search_1 : decode cX3_search 1 = .ok (.getfield 53, 3) := by decide +kernel
theorem dX3_search_4 : decode cX3_search 4 = .ok (.ifCond .ne 13, 3) := by decide +kernel
theorem dX3_search_7 : decode cX3_search 7 = .ok (.new 64, 3) := by decide +kernel
theorem dX3_search_10 : decode cX3_search 10 = .ok (.dup, 1) := by decide +kernel
theorem dX3_search_11 : decode cX3_search 11 = .ok (.ldc 66, 2) := by decide +kernel
theorem dX3_search_13 : decode cX3_search 13 = .ok (.invokespecial 68, 3) := by decide +kernel
theorem dX3_search_16 : decode cX3_search 16 = .ok (.athrow, 1) := by decide +kernel
theorem dX3_search_17 : decode cX3_search 17 = .ok (.aload_n 0, 1) := by decide +kernel
theorem dX3_search_18 : decode cX3_search 18 = .ok (.invokevirtual 126, 3) := by decide +kernel
theorem dX3_search_21 : decode cX3_search 21 = .ok (.istore_n 1, 1) := by decide +kernel
theorem dX3_search_22 : decode cX3_search 22 = .ok (.aload_n 0, 1) := by decide +kernel
theorem dX3_search_23 : decode cX3_search 23 = .ok (.getfield 20, 3) := by decide +kernel
theorem dX3_search_26 : decode cX3_search 26 = .ok (.invokevirtual 129, 3) := by decide +kernel
theorem dX3_search_29 : decode cX3_search 29 = .ok (.iconst 0, 1) := by decide +kernel
theorem dX3_search_30 : decode cX3_search 30 = .ok (.istore_n 2, 1) := by decide +kernel
theorem dX3_search_31 : decode cX3_search 31 = .ok (.iload_n 2, 1) := by decide +kernel
theorem dX3_search_32 : decode cX3_search 32 = .ok (.aload_n 0, 1) := by decide +kernel
theorem dX3_search_33 : decode cX3_search 33 = .ok (.getfield 16, 3) := by decide +kernel
theorem dX3_search_36 : decode cX3_search 36 = .ok (.invokevirtual 69, 3) := by decide +kernel
theorem dX3_search_39 : decode cX3_search 39 = .ok (.if_icmp .ge 53, 3) := by decide +kernel
theorem dX3_search_42 : decode cX3_search 42 = .ok (.aload_n 0, 1) := by decide +kernel
theorem dX3_search_43 : decode cX3_search 43 = .ok (.getfield 16, 3) := by decide +kernel
theorem dX3_search_46 : decode cX3_search 46 = .ok (.iload_n 2, 1) := by decide +kernel
theorem dX3_search_47 : decode cX3_search 47 = .ok (.invokevirtual 132, 3) := by decide +kernel
theorem dX3_search_50 : decode cX3_search 50 = .ok (.checkcast 75, 3) := by decide +kernel
theorem dX3_search_53 : decode cX3_search 53 = .ok (.astore_n 3, 1) := by decide +kernel
theorem dX3_search_54 : decode cX3_search 54 = .ok (.aload_n 3, 1) := by decide +kernel
theorem dX3_search_55 : decode cX3_search 55 = .ok (.aload_n 3, 1) := by decide +kernel
theorem dX3_search_56 : decode cX3_search 56 = .ok (.iload_n 1, 1) := by decide +kernel
theorem dX3_search_57 : decode cX3_search 57 = .ok (.invokevirtual 136, 3) := by decide +kernel
theorem dX3_search_60 : decode cX3_search 60 = .ok (.putfield 140, 3) := by decide +kernel
theorem dX3_search_63 : decode cX3_search 63 = .ok (.aload_n 3, 1) := by decide +kernel
theorem dX3_search_64 : decode cX3_search 64 = .ok (.getfield 140, 3) := by decide +kernel
theorem dX3_search_67 : decode cX3_search 67 = .ok (.ifCond .le 19, 3) := by decide +kernel
theorem dX3_search_70 : decode cX3_search 70 = .ok (.aload_n 0, 1) := by decide +kernel
theorem dX3_search_71 : decode cX3_search 71 = .ok (.getfield 20, 3) := by decide +kernel
theorem dX3_search_74 : decode cX3_search 74 = .ok (.aload_n 0, 1) := by decide +kernel
theorem dX3_search_75 : decode cX3_search 75 = .ok (.aload_n 3, 1) := by decide +kernel
theorem dX3_search_76 : decode cX3_search 76 = .ok (.getfield 140, 3) := by decide +kernel
theorem dX3_search_79 : decode cX3_search 79 = .ok (.invokevirtual 143, 3) := by decide +kernel
theorem dX3_search_82 : decode cX3_search 82 = .ok (.aload_n 3, 1) := by decide +kernel
theorem dX3_search_83 : decode cX3_search 83 = .ok (.invokevirtual 146, 3) := by decide +kernel
theorem dX3_search_86 : decode cX3_search 86 = .ok (.iinc 2 1, 3) := by decide +kernel
theorem dX3_search_89 : decode cX3_search 89 = .ok (.goto (-58), 3) := by decide +kernel
theorem dX3_search_92 : decode cX3_search 92 = .ok (.aload_n 0, 1) := by decide +kernel
theorem dX3_search_93 : decode cX3_search 93 = .ok (.getfield 20, 3) := by decide +kernel
theorem dX3_search_96 : decode cX3_search 96 = .ok (.invokevirtual 69, 3) := by decide +kernel
theorem dX3_search_99 : decode cX3_search 99 = .ok (.ireturn, 1) := by decide +kernel
theorem dX3_hitAt_0 : decode cX3_hitAt 0 = .ok (.aload_n 0, 1) := by decide +kernel
theorem dX3_hitAt_1 : decode cX3_hitAt 1 = .ok (.iload_n 1, 1) := by decide +kernel
theorem dX3_hitAt_2 : decode cX3_hitAt 2 = .ok (.invokevirtual 149, 3) := by decide +kernel
theorem dX3_hitAt_5 : decode cX3_hitAt 5 = .ok (.getfield 152, 3) := by decide +kernel
theorem dX3_hitAt_8 : decode cX3_hitAt 8 = .ok (.ireturn, 1) := by decide +kernel
theorem dX3_rankAt_0 : decode cX3_rankAt 0 = .ok (.aload_n 0, 1) := by decide +kernel
theorem dX3_rankAt_1 : decode cX3_rankAt 1 = .ok (.iload_n 1, 1) := by decide +kernel
theorem dX3_rankAt_2 : decode cX3_rankAt 2 = .ok (.invokevirtual 149, 3) := by decide +kernel
theorem dX3_rankAt_5 : decode cX3_rankAt 5 = .ok (.getfield 140, 3) := by decide +kernel
theorem dX3_rankAt_8 : decode cX3_rankAt 8 = .ok (.ireturn, 1) := by decide +kernel
theorem dX3_week_0 : decode cX3_week 0 = .ok (.aload_n 0, 1) := by decide +kernel
theorem dX3_week_1 : decode cX3_week 1 = .ok (.getfield 155, 3) := by decide +kernel
theorem dX3_week_4 : decode cX3_week 4 = .ok (.ireturn, 1) := by decide +kernel
theorem dX3_nextWeek_0 : decode cX3_nextWeek 0 = .ok (.aload_n 0, 1) := by decide +kernel
theorem dX3_nextWeek_1 : decode cX3_nextWeek 1 = .ok (.getfield 155, 3) := by decide +kernel
theorem dX3_nextWeek_4 : decode cX3_nextWeek 4 = .ok (.sipush 999, 3) := by decide +kernel
theorem dX3_nextWeek_7 : decode cX3_nextWeek 7 = .ok (.if_icmp .lt 13, 3) := by decide +kernel
theorem dX3_nextWeek_10 : decode cX3_nextWeek 10 = .ok (.new 57, 3) := by decide +kernel
theorem dX3_nextWeek_13 : decode cX3_nextWeek 13 = .ok (.dup, 1) := by decide +kernel
theorem dX3_nextWeek_14 : decode cX3_nextWeek 14 = .ok (.ldc 158, 2) := by decide +kernel
theorem dX3_nextWeek_16 : decode cX3_nextWeek 16 = .ok (.invokespecial 61, 3) := by decide +kernel
theorem dX3_nextWeek_19 : decode cX3_nextWeek 19 = .ok (.athrow, 1) := by decide +kernel
theorem dX3_nextWeek_20 : decode cX3_nextWeek 20 = .ok (.aload_n 0, 1) := by decide +kernel
theorem dX3_nextWeek_21 : decode cX3_nextWeek 21 = .ok (.dup, 1) := by decide +kernel
theorem dX3_nextWeek_22 : decode cX3_nextWeek 22 = .ok (.getfield 155, 3) := by decide +kernel
theorem dX3_nextWeek_25 : decode cX3_nextWeek 25 = .ok (.iconst 1, 1) := by decide +kernel
theorem dX3_nextWeek_26 : decode cX3_nextWeek 26 = .ok (.iadd, 1) := by decide +kernel
theorem dX3_nextWeek_27 : decode cX3_nextWeek 27 = .ok (.putfield 155, 3) := by decide +kernel
theorem dX3_nextWeek_30 : decode cX3_nextWeek 30 = .ok (.aload_n 0, 1) := by decide +kernel
theorem dX3_nextWeek_31 : decode cX3_nextWeek 31 = .ok (.invokevirtual 90, 3) := by decide +kernel
theorem dX3_nextWeek_34 : decode cX3_nextWeek 34 = .ok (.aload_n 0, 1) := by decide +kernel
theorem dX3_nextWeek_35 : decode cX3_nextWeek 35 = .ok (.getfield 155, 3) := by decide +kernel
theorem dX3_nextWeek_38 : decode cX3_nextWeek 38 = .ok (.ireturn, 1) := by decide +kernel
theorem dX3_plan_0 : decode cX3_plan 0 = .ok (.iload_n 1, 1) := by decide +kernel
theorem dX3_plan_1 : decode cX3_plan 1 = .ok (.aload_n 0, 1) := by decide +kernel
theorem dX3_plan_2 : decode cX3_plan 2 = .ok (.getfield 155, 3) := by decide +kernel
theorem dX3_plan_5 : decode cX3_plan 5 = .ok (.sipush 999, 3) := by decide +kernel
theorem dX3_plan_8 : decode cX3_plan 8 = .ok (.invokestatic 42, 3) := by decide +kernel
theorem dX3_plan_11 : decode cX3_plan 11 = .ok (.ifCond .eq 13, 3) := by decide +kernel
theorem dX3_plan_14 : decode cX3_plan 14 = .ok (.new 46, 3) := by decide +kernel
theorem dX3_plan_17 : decode cX3_plan 17 = .ok (.dup, 1) := by decide +kernel
theorem dX3_plan_18 : decode cX3_plan 18 = .ok (.ldc 160, 2) := by decide +kernel
theorem dX3_plan_20 : decode cX3_plan 20 = .ok (.invokespecial 50, 3) := by decide +kernel
theorem dX3_plan_23 : decode cX3_plan 23 = .ok (.athrow, 1) := by decide +kernel
theorem dX3_plan_24 : decode cX3_plan 24 = .ok (.iload_n 2, 1) := by decide +kernel
theorem dX3_plan_25 : decode cX3_plan 25 = .ok (.bipush 101, 2) := by decide +kernel
theorem dX3_plan_27 : decode cX3_plan 27 = .ok (.if_icmp .eq 25, 3) := by decide +kernel
theorem dX3_plan_30 : decode cX3_plan 30 = .ok (.iload_n 2, 1) := by decide +kernel
theorem dX3_plan_31 : decode cX3_plan 31 = .ok (.bipush 109, 2) := by decide +kernel
theorem dX3_plan_33 : decode cX3_plan 33 = .ok (.if_icmp .eq 19, 3) := by decide +kernel
theorem dX3_plan_36 : decode cX3_plan 36 = .ok (.iload_n 2, 1) := by decide +kernel
theorem dX3_plan_37 : decode cX3_plan 37 = .ok (.bipush 104, 2) := by decide +kernel
theorem dX3_plan_39 : decode cX3_plan 39 = .ok (.if_icmp .eq 13, 3) := by decide +kernel
theorem dX3_plan_42 : decode cX3_plan 42 = .ok (.new 46, 3) := by decide +kernel
theorem dX3_plan_45 : decode cX3_plan 45 = .ok (.dup, 1) := by decide +kernel
theorem dX3_plan_46 : decode cX3_plan 46 = .ok (.ldc 162, 2) := by decide +kernel
theorem dX3_plan_48 : decode cX3_plan 48 = .ok (.invokespecial 50, 3) := by decide +kernel
theorem dX3_plan_51 : decode cX3_plan 51 = .ok (.athrow, 1) := by decide +kernel
theorem dX3_plan_52 : decode cX3_plan 52 = .ok (.iload_n 3, 1) := by decide +kernel
theorem dX3_plan_53 : decode cX3_plan 53 = .ok (.iconst 1, 1) := by decide +kernel
theorem dX3_plan_54 : decode cX3_plan 54 = .ok (.bipush 9, 2) := by decide +kernel
theorem dX3_plan_56 : decode cX3_plan 56 = .ok (.invokestatic 42, 3) := by decide +kernel
theorem dX3_plan_59 : decode cX3_plan 59 = .ok (.ifCond .eq 13, 3) := by decide +kernel
theorem dX3_plan_62 : decode cX3_plan 62 = .ok (.new 46, 3) := by decide +kernel
theorem dX3_plan_65 : decode cX3_plan 65 = .ok (.dup, 1) := by decide +kernel
theorem dX3_plan_66 : decode cX3_plan 66 = .ok (.ldc 164, 2) := by decide +kernel
theorem dX3_plan_68 : decode cX3_plan 68 = .ok (.invokespecial 50, 3) := by decide +kernel
theorem dX3_plan_71 : decode cX3_plan 71 = .ok (.athrow, 1) := by decide +kernel
theorem dX3_plan_72 : decode cX3_plan 72 = .ok (.aload_n 0, 1) := by decide +kernel
theorem dX3_plan_73 : decode cX3_plan 73 = .ok (.getfield 23, 3) := by decide +kernel
theorem dX3_plan_76 : decode cX3_plan 76 = .ok (.invokevirtual 69, 3) := by decide +kernel
theorem dX3_plan_79 : decode cX3_plan 79 = .ok (.bipush 12, 2) := by decide +kernel
theorem dX3_plan_81 : decode cX3_plan 81 = .ok (.if_icmp .lt 13, 3) := by decide +kernel
theorem dX3_plan_84 : decode cX3_plan 84 = .ok (.new 57, 3) := by decide +kernel
theorem dX3_plan_87 : decode cX3_plan 87 = .ok (.dup, 1) := by decide +kernel
theorem dX3_plan_88 : decode cX3_plan 88 = .ok (.ldc 166, 2) := by decide +kernel
theorem dX3_plan_90 : decode cX3_plan 90 = .ok (.invokespecial 61, 3) := by decide +kernel
theorem dX3_plan_93 : decode cX3_plan 93 = .ok (.athrow, 1) := by decide +kernel
theorem dX3_plan_94 : decode cX3_plan 94 = .ok (.aload_n 0, 1) := by decide +kernel
theorem dX3_plan_95 : decode cX3_plan 95 = .ok (.getfield 23, 3) := by decide +kernel
theorem dX3_plan_98 : decode cX3_plan 98 = .ok (.new 168, 3) := by decide +kernel
theorem dX3_plan_101 : decode cX3_plan 101 = .ok (.dup, 1) := by decide +kernel
theorem dX3_plan_102 : decode cX3_plan 102 = .ok (.iload_n 1, 1) := by decide +kernel
theorem dX3_plan_103 : decode cX3_plan 103 = .ok (.iload_n 2, 1) := by decide +kernel
theorem dX3_plan_104 : decode cX3_plan 104 = .ok (.iload_n 3, 1) := by decide +kernel
theorem dX3_plan_105 : decode cX3_plan 105 = .ok (.invokespecial 170, 3) := by decide +kernel
theorem dX3_plan_108 : decode cX3_plan 108 = .ok (.invokevirtual 86, 3) := by decide +kernel
theorem dX3_plan_111 : decode cX3_plan 111 = .ok (.pop, 1) := by decide +kernel
theorem dX3_plan_112 : decode cX3_plan 112 = .ok (.aload_n 0, 1) := by decide +kernel
theorem dX3_plan_113 : decode cX3_plan 113 = .ok (.invokevirtual 90, 3) := by decide +kernel
theorem dX3_plan_116 : decode cX3_plan 116 = .ok (.aload_n 0, 1) := by decide +kernel
theorem dX3_plan_117 : decode cX3_plan 117 = .ok (.getfield 23, 3) := by decide +kernel
theorem dX3_plan_120 : decode cX3_plan 120 = .ok (.invokevirtual 69, 3) := by decide +kernel
theorem dX3_plan_123 : decode cX3_plan 123 = .ok (.iconst 1, 1) := by decide +kernel
theorem dX3_plan_124 : decode cX3_plan 124 = .ok (.isub, 1) := by decide +kernel
theorem dX3_plan_125 : decode cX3_plan 125 = .ok (.ireturn, 1) := by decide +kernel
theorem dX3_drop_0 : decode cX3_drop 0 = .ok (.aload_n 0, 1) := by decide +kernel
theorem dX3_drop_1 : decode cX3_drop 1 = .ok (.iload_n 1, 1) := by decide +kernel
theorem dX3_drop_2 : decode cX3_drop 2 = .ok (.invokevirtual 173, 3) := by decide +kernel
theorem dX3_drop_5 : decode cX3_drop 5 = .ok (.astore_n 2, 1) := by decide +kernel
theorem dX3_drop_6 : decode cX3_drop 6 = .ok (.aload_n 2, 1) := by decide +kernel
theorem dX3_drop_7 : decode cX3_drop 7 = .ok (.getfield 177, 3) := by decide +kernel
theorem dX3_drop_10 : decode cX3_drop 10 = .ok (.ifCond .eq 13, 3) := by decide +kernel
theorem dX3_drop_13 : decode cX3_drop 13 = .ok (.new 64, 3) := by decide +kernel
theorem dX3_drop_16 : decode cX3_drop 16 = .ok (.dup, 1) := by decide +kernel
theorem dX3_drop_17 : decode cX3_drop 17 = .ok (.ldc 181, 2) := by decide +kernel
theorem dX3_drop_19 : decode cX3_drop 19 = .ok (.invokespecial 68, 3) := by decide +kernel
theorem dX3_drop_22 : decode cX3_drop 22 = .ok (.athrow, 1) := by decide +kernel
theorem dX3_drop_23 : decode cX3_drop 23 = .ok (.aload_n 2, 1) := by decide +kernel
theorem dX3_drop_24 : decode cX3_drop 24 = .ok (.getfield 183, 3) := by decide +kernel
theorem dX3_drop_27 : decode cX3_drop 27 = .ok (.invokevirtual 69, 3) := by decide +kernel
theorem dX3_drop_30 : decode cX3_drop 30 = .ok (.istore_n 3, 1) := by decide +kernel
theorem dX3_drop_31 : decode cX3_drop 31 = .ok (.aload_n 2, 1) := by decide +kernel
theorem dX3_drop_32 : decode cX3_drop 32 = .ok (.invokestatic 186, 3) := by decide +kernel
theorem dX3_drop_35 : decode cX3_drop 35 = .ok (.aload_n 0, 1) := by decide +kernel
theorem dX3_drop_36 : decode cX3_drop 36 = .ok (.invokevirtual 90, 3) := by decide +kernel
theorem dX3_drop_39 : decode cX3_drop 39 = .ok (.iload_n 3, 1) := by decide +kernel
theorem dX3_drop_40 : decode cX3_drop 40 = .ok (.ireturn, 1) := by decide +kernel
theorem dX3_held_0 : decode cX3_held 0 = .ok (.aload_n 0, 1) := by decide +kernel
theorem dX3_held_1 : decode cX3_held 1 = .ok (.iload_n 1, 1) := by decide +kernel
theorem dX3_held_2 : decode cX3_held 2 = .ok (.invokevirtual 173, 3) := by decide +kernel
theorem dX3_held_5 : decode cX3_held 5 = .ok (.getfield 183, 3) := by decide +kernel
theorem dX3_held_8 : decode cX3_held 8 = .ok (.invokevirtual 69, 3) := by decide +kernel
theorem dX3_held_11 : decode cX3_held 11 = .ok (.ireturn, 1) := by decide +kernel
theorem dX3_heldAt_0 : decode cX3_heldAt 0 = .ok (.aload_n 0, 1) := by decide +kernel
theorem dX3_heldAt_1 : decode cX3_heldAt 1 = .ok (.iload_n 1, 1) := by decide +kernel
theorem dX3_heldAt_2 : decode cX3_heldAt 2 = .ok (.invokevirtual 173, 3) := by decide +kernel
theorem dX3_heldAt_5 : decode cX3_heldAt 5 = .ok (.getfield 183, 3) := by decide +kernel
theorem dX3_heldAt_8 : decode cX3_heldAt 8 = .ok (.iload_n 2, 1) := by decide +kernel
theorem dX3_heldAt_9 : decode cX3_heldAt 9 = .ok (.invokestatic 190, 3) := by decide +kernel
theorem dX3_heldAt_12 : decode cX3_heldAt 12 = .ok (.getfield 152, 3) := by decide +kernel
theorem dX3_heldAt_15 : decode cX3_heldAt 15 = .ok (.ireturn, 1) := by decide +kernel
theorem dX3_lacks_0 : decode cX3_lacks 0 = .ok (.aload_n 0, 1) := by decide +kernel
theorem dX3_lacks_1 : decode cX3_lacks 1 = .ok (.iload_n 1, 1) := by decide +kernel
theorem dX3_lacks_2 : decode cX3_lacks 2 = .ok (.invokevirtual 173, 3) := by decide +kernel
theorem dX3_lacks_5 : decode cX3_lacks 5 = .ok (.astore_n 2, 1) := by decide +kernel
theorem dX3_lacks_6 : decode cX3_lacks 6 = .ok (.aload_n 0, 1) := by decide +kernel
theorem dX3_lacks_7 : decode cX3_lacks 7 = .ok (.aload_n 2, 1) := by decide +kernel
theorem dX3_lacks_8 : decode cX3_lacks 8 = .ok (.invokevirtual 194, 3) := by decide +kernel
theorem dX3_lacks_11 : decode cX3_lacks 11 = .ok (.ifCond .eq 10, 3) := by decide +kernel
theorem dX3_lacks_14 : decode cX3_lacks 14 = .ok (.aload_n 2, 1) := by decide +kernel
theorem dX3_lacks_15 : decode cX3_lacks 15 = .ok (.invokevirtual 198, 3) := by decide +kernel
theorem dX3_lacks_18 : decode cX3_lacks 18 = .ok (.goto 4, 3) := by decide +kernel
theorem dX3_lacks_21 : decode cX3_lacks 21 = .ok (.iconst 0, 1) := by decide +kernel
theorem dX3_lacks_22 : decode cX3_lacks 22 = .ok (.ireturn, 1) := by decide +kernel
theorem dX3_isFree_0 : decode cX3_isFree 0 = .ok (.aload_n 0, 1) := by decide +kernel
theorem dX3_isFree_1 : decode cX3_isFree 1 = .ok (.aload_n 0, 1) := by decide +kernel
theorem dX3_isFree_2 : decode cX3_isFree 2 = .ok (.iload_n 1, 1) := by decide +kernel
theorem dX3_isFree_3 : decode cX3_isFree 3 = .ok (.invokevirtual 93, 3) := by decide +kernel
theorem dX3_isFree_6 : decode cX3_isFree 6 = .ok (.invokevirtual 201, 3) := by decide +kernel
theorem dX3_isFree_9 : decode cX3_isFree 9 = .ok (.ireturn, 1) := by decide +kernel
theorem dX3_quiz_0 : decode cX3_quiz 0 = .ok (.iload_n 1, 1) := by decide +kernel
theorem dX3_quiz_1 : decode cX3_quiz 1 = .ok (.iconst 0, 1) := by decide +kernel
theorem dX3_quiz_2 : decode cX3_quiz 2 = .ok (.sipush 1008, 3) := by decide +kernel
theorem dX3_quiz_5 : decode cX3_quiz 5 = .ok (.invokestatic 42, 3) := by decide +kernel
theorem dX3_quiz_8 : decode cX3_quiz 8 = .ok (.ifCond .ne 34, 3) := by decide +kernel
theorem dX3_quiz_11 : decode cX3_quiz 11 = .ok (.iload_n 2, 1) := by decide +kernel
theorem dX3_quiz_12 : decode cX3_quiz 12 = .ok (.iconst 0, 1) := by decide +kernel
theorem dX3_quiz_13 : decode cX3_quiz 13 = .ok (.bipush 9, 2) := by decide +kernel
theorem dX3_quiz_15 : decode cX3_quiz 15 = .ok (.invokestatic 42, 3) := by decide +kernel
theorem dX3_quiz_18 : decode cX3_quiz 18 = .ok (.ifCond .ne 24, 3) := by decide +kernel
theorem dX3_quiz_21 : decode cX3_quiz 21 = .ok (.iload_n 3, 1) := by decide +kernel
theorem dX3_quiz_22 : decode cX3_quiz 22 = .ok (.iconst 0, 1) := by decide +kernel
theorem dX3_quiz_23 : decode cX3_quiz 23 = .ok (.bipush 9, 2) := by decide +kernel
theorem dX3_quiz_25 : decode cX3_quiz 25 = .ok (.invokestatic 42, 3) := by decide +kernel
theorem dX3_quiz_28 : decode cX3_quiz 28 = .ok (.ifCond .ne 14, 3) := by decide +kernel
theorem dX3_quiz_31 : decode cX3_quiz 31 = .ok (.iload 4, 2) := by decide +kernel
theorem dX3_quiz_33 : decode cX3_quiz 33 = .ok (.iconst 0, 1) := by decide +kernel
theorem dX3_quiz_34 : decode cX3_quiz 34 = .ok (.bipush 9, 2) := by decide +kernel
theorem dX3_quiz_36 : decode cX3_quiz 36 = .ok (.invokestatic 42, 3) := by decide +kernel
theorem dX3_quiz_39 : decode cX3_quiz 39 = .ok (.ifCond .eq 13, 3) := by decide +kernel
theorem dX3_quiz_42 : decode cX3_quiz 42 = .ok (.new 46, 3) := by decide +kernel
theorem dX3_quiz_45 : decode cX3_quiz 45 = .ok (.dup, 1) := by decide +kernel
theorem dX3_quiz_46 : decode cX3_quiz 46 = .ok (.ldc 205, 2) := by decide +kernel
theorem dX3_quiz_48 : decode cX3_quiz 48 = .ok (.invokespecial 50, 3) := by decide +kernel
theorem dX3_quiz_51 : decode cX3_quiz 51 = .ok (.athrow, 1) := by decide +kernel
theorem dX3_quiz_52 : decode cX3_quiz 52 = .ok (.iload_n 2, 1) := by decide +kernel
theorem dX3_quiz_53 : decode cX3_quiz 53 = .ok (.iload_n 3, 1) := by decide +kernel
theorem dX3_quiz_54 : decode cX3_quiz 54 = .ok (.iadd, 1) := by decide +kernel
theorem dX3_quiz_55 : decode cX3_quiz 55 = .ok (.iload 4, 2) := by decide +kernel
theorem dX3_quiz_57 : decode cX3_quiz 57 = .ok (.iadd, 1) := by decide +kernel
theorem dX3_quiz_58 : decode cX3_quiz 58 = .ok (.ifCond .ne 13, 3) := by decide +kernel
theorem dX3_quiz_61 : decode cX3_quiz 61 = .ok (.new 46, 3) := by decide +kernel
theorem dX3_quiz_64 : decode cX3_quiz 64 = .ok (.dup, 1) := by decide +kernel
theorem dX3_quiz_65 : decode cX3_quiz 65 = .ok (.ldc 207, 2) := by decide +kernel
theorem dX3_quiz_67 : decode cX3_quiz 67 = .ok (.invokespecial 50, 3) := by decide +kernel
theorem dX3_quiz_70 : decode cX3_quiz 70 = .ok (.athrow, 1) := by decide +kernel
theorem dX3_quiz_71 : decode cX3_quiz 71 = .ok (.aload_n 0, 1) := by decide +kernel
theorem dX3_quiz_72 : decode cX3_quiz 72 = .ok (.iload_n 1, 1) := by decide +kernel
theorem dX3_quiz_73 : decode cX3_quiz 73 = .ok (.iload_n 2, 1) := by decide +kernel
theorem dX3_quiz_74 : decode cX3_quiz 74 = .ok (.iload_n 3, 1) := by decide +kernel
theorem dX3_quiz_75 : decode cX3_quiz 75 = .ok (.iload 4, 2) := by decide +kernel
theorem dX3_quiz_77 : decode cX3_quiz 77 = .ok (.invokevirtual 209, 3) := by decide +kernel
theorem dX3_quiz_80 : decode cX3_quiz 80 = .ok (.ifCond .ne 13, 3) := by decide +kernel
theorem dX3_quiz_83 : decode cX3_quiz 83 = .ok (.new 113, 3) := by decide +kernel
theorem dX3_quiz_86 : decode cX3_quiz 86 = .ok (.dup, 1) := by decide +kernel
theorem dX3_quiz_87 : decode cX3_quiz 87 = .ok (.ldc 213, 2) := by decide +kernel
theorem dX3_quiz_89 : decode cX3_quiz 89 = .ok (.invokespecial 115, 3) := by decide +kernel
theorem dX3_quiz_92 : decode cX3_quiz 92 = .ok (.athrow, 1) := by decide +kernel
theorem dX3_quiz_93 : decode cX3_quiz 93 = .ok (.aload_n 0, 1) := by decide +kernel
theorem dX3_quiz_94 : decode cX3_quiz 94 = .ok (.getfield 26, 3) := by decide +kernel
theorem dX3_quiz_97 : decode cX3_quiz 97 = .ok (.invokevirtual 69, 3) := by decide +kernel
theorem dX3_quiz_100 : decode cX3_quiz 100 = .ok (.bipush 30, 2) := by decide +kernel
theorem dX3_quiz_102 : decode cX3_quiz 102 = .ok (.if_icmp .lt 13, 3) := by decide +kernel
theorem dX3_quiz_105 : decode cX3_quiz 105 = .ok (.new 57, 3) := by decide +kernel
theorem dX3_quiz_108 : decode cX3_quiz 108 = .ok (.dup, 1) := by decide +kernel
theorem dX3_quiz_109 : decode cX3_quiz 109 = .ok (.ldc 215, 2) := by decide +kernel
theorem dX3_quiz_111 : decode cX3_quiz 111 = .ok (.invokespecial 61, 3) := by decide +kernel
theorem dX3_quiz_114 : decode cX3_quiz 114 = .ok (.athrow, 1) := by decide +kernel
theorem dX3_quiz_115 : decode cX3_quiz 115 = .ok (.aload_n 0, 1) := by decide +kernel
theorem dX3_quiz_116 : decode cX3_quiz 116 = .ok (.new 217, 3) := by decide +kernel
theorem dX3_quiz_119 : decode cX3_quiz 119 = .ok (.dup, 1) := by decide +kernel
theorem dX3_quiz_120 : decode cX3_quiz 120 = .ok (.aload_n 0, 1) := by decide +kernel
theorem dX3_quiz_121 : decode cX3_quiz 121 = .ok (.getfield 29, 3) := by decide +kernel
theorem dX3_quiz_124 : decode cX3_quiz 124 = .ok (.invokespecial 219, 3) := by decide +kernel
theorem dX3_quiz_127 : decode cX3_quiz 127 = .ok (.invokevirtual 222, 3) := by decide +kernel
theorem dX3_quiz_130 : decode cX3_quiz 130 = .ok (.ireturn, 1) := by decide +kernel
theorem dX3_quizOf_0 : decode cX3_quizOf 0 = .ok (.aload_n 0, 1) := by decide +kernel
theorem dX3_quizOf_1 : decode cX3_quizOf 1 = .ok (.iload_n 1, 1) := by decide +kernel
theorem dX3_quizOf_2 : decode cX3_quizOf 2 = .ok (.invokevirtual 173, 3) := by decide +kernel
theorem dX3_quizOf_5 : decode cX3_quizOf 5 = .ok (.astore_n 2, 1) := by decide +kernel
theorem dX3_quizOf_6 : decode cX3_quizOf 6 = .ok (.aload_n 2, 1) := by decide +kernel
theorem dX3_quizOf_7 : decode cX3_quizOf 7 = .ok (.getfield 226, 3) := by decide +kernel
theorem dX3_quizOf_10 : decode cX3_quizOf 10 = .ok (.aload_n 0, 1) := by decide +kernel
theorem dX3_quizOf_11 : decode cX3_quizOf 11 = .ok (.getfield 155, 3) := by decide +kernel
theorem dX3_quizOf_14 : decode cX3_quizOf 14 = .ok (.if_icmp .ne 20, 3) := by decide +kernel
theorem dX3_quizOf_17 : decode cX3_quizOf 17 = .ok (.aload_n 2, 1) := by decide +kernel
theorem dX3_quizOf_18 : decode cX3_quizOf 18 = .ok (.getfield 177, 3) := by decide +kernel
theorem dX3_quizOf_21 : decode cX3_quizOf 21 = .ok (.ifCond .ne 13, 3) := by decide +kernel
theorem dX3_quizOf_24 : decode cX3_quizOf 24 = .ok (.aload_n 2, 1) := by decide +kernel
theorem dX3_quizOf_25 : decode cX3_quizOf 25 = .ok (.getfield 183, 3) := by decide +kernel
theorem dX3_quizOf_28 : decode cX3_quizOf 28 = .ok (.invokevirtual 229, 3) := by decide +kernel
theorem dX3_quizOf_31 : decode cX3_quizOf 31 = .ok (.ifCond .eq 13, 3) := by decide +kernel
theorem dX3_quizOf_34 : decode cX3_quizOf 34 = .ok (.new 64, 3) := by decide +kernel
theorem dX3_quizOf_37 : decode cX3_quizOf 37 = .ok (.dup, 1) := by decide +kernel
theorem dX3_quizOf_38 : decode cX3_quizOf 38 = .ok (.ldc 233, 2) := by decide +kernel
theorem dX3_quizOf_40 : decode cX3_quizOf 40 = .ok (.invokespecial 68, 3) := by decide +kernel
theorem dX3_quizOf_43 : decode cX3_quizOf 43 = .ok (.athrow, 1) := by decide +kernel
theorem dX3_quizOf_44 : decode cX3_quizOf 44 = .ok (.aload_n 0, 1) := by decide +kernel
theorem dX3_quizOf_45 : decode cX3_quizOf 45 = .ok (.getfield 26, 3) := by decide +kernel
theorem dX3_quizOf_48 : decode cX3_quizOf 48 = .ok (.invokevirtual 69, 3) := by decide +kernel
theorem dX3_quizOf_51 : decode cX3_quizOf 51 = .ok (.bipush 30, 2) := by decide +kernel
theorem dX3_quizOf_53 : decode cX3_quizOf 53 = .ok (.if_icmp .lt 13, 3) := by decide +kernel
theorem dX3_quizOf_56 : decode cX3_quizOf 56 = .ok (.new 57, 3) := by decide +kernel
theorem dX3_quizOf_59 : decode cX3_quizOf 59 = .ok (.dup, 1) := by decide +kernel
theorem dX3_quizOf_60 : decode cX3_quizOf 60 = .ok (.ldc 215, 2) := by decide +kernel
theorem dX3_quizOf_62 : decode cX3_quizOf 62 = .ok (.invokespecial 61, 3) := by decide +kernel
theorem dX3_quizOf_65 : decode cX3_quizOf 65 = .ok (.athrow, 1) := by decide +kernel
theorem dX3_quizOf_66 : decode cX3_quizOf 66 = .ok (.new 217, 3) := by decide +kernel
theorem dX3_quizOf_69 : decode cX3_quizOf 69 = .ok (.dup, 1) := by decide +kernel
theorem dX3_quizOf_70 : decode cX3_quizOf 70 = .ok (.aload_n 2, 1) := by decide +kernel
theorem dX3_quizOf_71 : decode cX3_quizOf 71 = .ok (.getfield 183, 3) := by decide +kernel
theorem dX3_quizOf_74 : decode cX3_quizOf 74 = .ok (.invokespecial 219, 3) := by decide +kernel
theorem dX3_quizOf_77 : decode cX3_quizOf 77 = .ok (.astore_n 3, 1) := by decide +kernel
theorem dX3_quizOf_78 : decode cX3_quizOf 78 = .ok (.aload_n 2, 1) := by decide +kernel
theorem dX3_quizOf_79 : decode cX3_quizOf 79 = .ok (.invokestatic 186, 3) := by decide +kernel
theorem dX3_quizOf_82 : decode cX3_quizOf 82 = .ok (.aload_n 0, 1) := by decide +kernel
theorem dX3_quizOf_83 : decode cX3_quizOf 83 = .ok (.aload_n 3, 1) := by decide +kernel
theorem dX3_quizOf_84 : decode cX3_quizOf 84 = .ok (.invokevirtual 222, 3) := by decide +kernel
theorem dX3_quizOf_87 : decode cX3_quizOf 87 = .ok (.ireturn, 1) := by decide +kernel
theorem dX3_size_0 : decode cX3_size 0 = .ok (.aload_n 0, 1) := by decide +kernel
theorem dX3_size_1 : decode cX3_size 1 = .ok (.iload_n 1, 1) := by decide +kernel
theorem dX3_size_2 : decode cX3_size 2 = .ok (.invokevirtual 235, 3) := by decide +kernel
theorem dX3_size_5 : decode cX3_size 5 = .ok (.getfield 239, 3) := by decide +kernel
theorem dX3_size_8 : decode cX3_size 8 = .ok (.invokevirtual 69, 3) := by decide +kernel
theorem dX3_size_11 : decode cX3_size 11 = .ok (.ireturn, 1) := by decide +kernel
theorem dX3_questionAt_0 : decode cX3_questionAt 0 = .ok (.aload_n 0, 1) := by decide +kernel
theorem dX3_questionAt_1 : decode cX3_questionAt 1 = .ok (.iload_n 1, 1) := by decide +kernel
theorem dX3_questionAt_2 : decode cX3_questionAt 2 = .ok (.invokevirtual 235, 3) := by decide +kernel
theorem dX3_questionAt_5 : decode cX3_questionAt 5 = .ok (.getfield 239, 3) := by decide +kernel
theorem dX3_questionAt_8 : decode cX3_questionAt 8 = .ok (.iload_n 2, 1) := by decide +kernel
theorem dX3_questionAt_9 : decode cX3_questionAt 9 = .ok (.invokestatic 190, 3) := by decide +kernel
theorem dX3_questionAt_12 : decode cX3_questionAt 12 = .ok (.getfield 152, 3) := by decide +kernel
theorem dX3_questionAt_15 : decode cX3_questionAt 15 = .ok (.ireturn, 1) := by decide +kernel
theorem dX3_stateOf_0 : decode cX3_stateOf 0 = .ok (.aload_n 0, 1) := by decide +kernel
theorem dX3_stateOf_1 : decode cX3_stateOf 1 = .ok (.iload_n 1, 1) := by decide +kernel
theorem dX3_stateOf_2 : decode cX3_stateOf 2 = .ok (.invokevirtual 235, 3) := by decide +kernel
theorem dX3_stateOf_5 : decode cX3_stateOf 5 = .ok (.getfield 240, 3) := by decide +kernel
theorem dX3_stateOf_8 : decode cX3_stateOf 8 = .ok (.ireturn, 1) := by decide +kernel
theorem dX3_waiting_0 : decode cX3_waiting 0 = .ok (.iconst 0, 1) := by decide +kernel
theorem dX3_waiting_1 : decode cX3_waiting 1 = .ok (.istore_n 1, 1) := by decide +kernel
theorem dX3_waiting_2 : decode cX3_waiting 2 = .ok (.iconst 0, 1) := by decide +kernel
theorem dX3_waiting_3 : decode cX3_waiting 3 = .ok (.istore_n 2, 1) := by decide +kernel
theorem dX3_waiting_4 : decode cX3_waiting 4 = .ok (.iload_n 2, 1) := by decide +kernel
theorem dX3_waiting_5 : decode cX3_waiting 5 = .ok (.aload_n 0, 1) := by decide +kernel
theorem dX3_waiting_6 : decode cX3_waiting 6 = .ok (.getfield 26, 3) := by decide +kernel
theorem dX3_waiting_9 : decode cX3_waiting 9 = .ok (.invokevirtual 69, 3) := by decide +kernel
theorem dX3_waiting_12 : decode cX3_waiting 12 = .ok (.if_icmp .ge 31, 3) := by decide +kernel
theorem dX3_waiting_15 : decode cX3_waiting 15 = .ok (.aload_n 0, 1) := by decide +kernel
theorem dX3_waiting_16 : decode cX3_waiting 16 = .ok (.getfield 26, 3) := by decide +kernel
theorem dX3_waiting_19 : decode cX3_waiting 19 = .ok (.iload_n 2, 1) := by decide +kernel
theorem dX3_waiting_20 : decode cX3_waiting 20 = .ok (.invokevirtual 132, 3) := by decide +kernel
theorem dX3_waiting_23 : decode cX3_waiting 23 = .ok (.checkcast 217, 3) := by decide +kernel
theorem dX3_waiting_26 : decode cX3_waiting 26 = .ok (.getfield 240, 3) := by decide +kernel
theorem dX3_waiting_29 : decode cX3_waiting 29 = .ok (.bipush 115, 2) := by decide +kernel
theorem dX3_waiting_31 : decode cX3_waiting 31 = .ok (.if_icmp .ne 6, 3) := by decide +kernel
theorem dX3_waiting_34 : decode cX3_waiting 34 = .ok (.iinc 1 1, 3) := by decide +kernel
theorem dX3_waiting_37 : decode cX3_waiting 37 = .ok (.iinc 2 1, 3) := by decide +kernel
theorem dX3_waiting_40 : decode cX3_waiting 40 = .ok (.goto (-36), 3) := by decide +kernel
theorem dX3_waiting_43 : decode cX3_waiting 43 = .ok (.iload_n 1, 1) := by decide +kernel
theorem dX3_waiting_44 : decode cX3_waiting 44 = .ok (.ireturn, 1) := by decide +kernel
theorem dX3_setJam_0 : decode cX3_setJam 0 = .ok (.aload_n 0, 1) := by decide +kernel
theorem dX3_setJam_1 : decode cX3_setJam 1 = .ok (.getfield 244, 3) := by decide +kernel
theorem dX3_setJam_4 : decode cX3_setJam 4 = .ok (.istore_n 2, 1) := by decide +kernel
theorem dX3_setJam_5 : decode cX3_setJam 5 = .ok (.aload_n 0, 1) := by decide +kernel
theorem dX3_setJam_6 : decode cX3_setJam 6 = .ok (.iload_n 1, 1) := by decide +kernel
theorem dX3_setJam_7 : decode cX3_setJam 7 = .ok (.putfield 244, 3) := by decide +kernel
theorem dX3_setJam_10 : decode cX3_setJam 10 = .ok (.iload_n 2, 1) := by decide +kernel
theorem dX3_setJam_11 : decode cX3_setJam 11 = .ok (.ireturn, 1) := by decide +kernel
theorem dX3_print_0 : decode cX3_print 0 = .ok (.aload_n 0, 1) := by decide +kernel
theorem dX3_print_1 : decode cX3_print 1 = .ok (.getfield 244, 3) := by decide +kernel
theorem dX3_print_4 : decode cX3_print 4 = .ok (.ifCond .eq 13, 3) := by decide +kernel
theorem dX3_print_7 : decode cX3_print 7 = .ok (.new 57, 3) := by decide +kernel
theorem dX3_print_10 : decode cX3_print 10 = .ok (.dup, 1) := by decide +kernel
theorem dX3_print_11 : decode cX3_print 11 = .ok (.ldc 247, 2) := by decide +kernel
theorem dX3_print_13 : decode cX3_print 13 = .ok (.invokespecial 61, 3) := by decide +kernel
theorem dX3_print_16 : decode cX3_print 16 = .ok (.athrow, 1) := by decide +kernel
theorem dX3_print_17 : decode cX3_print 17 = .ok (.aload_n 0, 1) := by decide +kernel
theorem dX3_print_18 : decode cX3_print 18 = .ok (.invokevirtual 249, 3) := by decide +kernel
theorem dX3_print_21 : decode cX3_print 21 = .ok (.istore_n 1, 1) := by decide +kernel
theorem dX3_print_22 : decode cX3_print 22 = .ok (.iload_n 1, 1) := by decide +kernel
theorem dX3_print_23 : decode cX3_print 23 = .ok (.ifCond .lt 14, 3) := by decide +kernel
theorem dX3_print_26 : decode cX3_print 26 = .ok (.iload_n 1, 1) := by decide +kernel
theorem dX3_print_27 : decode cX3_print 27 = .ok (.aload_n 0, 1) := by decide +kernel
theorem dX3_print_28 : decode cX3_print 28 = .ok (.getfield 26, 3) := by decide +kernel
theorem dX3_print_31 : decode cX3_print 31 = .ok (.invokevirtual 69, 3) := by decide +kernel
theorem dX3_print_34 : decode cX3_print 34 = .ok (.if_icmp .lt 13, 3) := by decide +kernel
theorem dX3_print_37 : decode cX3_print 37 = .ok (.new 113, 3) := by decide +kernel
theorem dX3_print_40 : decode cX3_print 40 = .ok (.dup, 1) := by decide +kernel
theorem dX3_print_41 : decode cX3_print 41 = .ok (.ldc 252, 2) := by decide +kernel
theorem dX3_print_43 : decode cX3_print 43 = .ok (.invokespecial 115, 3) := by decide +kernel
theorem dX3_print_46 : decode cX3_print 46 = .ok (.athrow, 1) := by decide +kernel
theorem dX3_print_47 : decode cX3_print 47 = .ok (.aload_n 0, 1) := by decide +kernel
theorem dX3_print_48 : decode cX3_print 48 = .ok (.getfield 26, 3) := by decide +kernel
theorem dX3_print_51 : decode cX3_print 51 = .ok (.iload_n 1, 1) := by decide +kernel
theorem dX3_print_52 : decode cX3_print 52 = .ok (.invokevirtual 132, 3) := by decide +kernel
theorem dX3_print_55 : decode cX3_print 55 = .ok (.checkcast 217, 3) := by decide +kernel
theorem dX3_print_58 : decode cX3_print 58 = .ok (.astore_n 2, 1) := by decide +kernel
theorem dX3_print_59 : decode cX3_print 59 = .ok (.aload_n 2, 1) := by decide +kernel
theorem dX3_print_60 : decode cX3_print 60 = .ok (.bipush 112, 2) := by decide +kernel
theorem dX3_print_62 : decode cX3_print 62 = .ok (.putfield 240, 3) := by decide +kernel
theorem dX3_print_65 : decode cX3_print 65 = .ok (.iconst 0, 1) := by decide +kernel
theorem dX3_print_66 : decode cX3_print 66 = .ok (.istore_n 3, 1) := by decide +kernel
theorem dX3_print_67 : decode cX3_print 67 = .ok (.iload_n 3, 1) := by decide +kernel
theorem dX3_print_68 : decode cX3_print 68 = .ok (.aload_n 2, 1) := by decide +kernel
theorem dX3_print_69 : decode cX3_print 69 = .ok (.getfield 239, 3) := by decide +kernel
theorem dX3_print_72 : decode cX3_print 72 = .ok (.invokevirtual 69, 3) := by decide +kernel
theorem dX3_print_75 : decode cX3_print 75 = .ok (.if_icmp .ge 37, 3) := by decide +kernel
theorem dX3_print_78 : decode cX3_print 78 = .ok (.aload_n 2, 1) := by decide +kernel
theorem dX3_print_79 : decode cX3_print 79 = .ok (.getfield 239, 3) := by decide +kernel
theorem dX3_print_82 : decode cX3_print 82 = .ok (.iload_n 3, 1) := by decide +kernel
theorem dX3_print_83 : decode cX3_print 83 = .ok (.invokevirtual 132, 3) := by decide +kernel
theorem dX3_print_86 : decode cX3_print 86 = .ok (.checkcast 75, 3) := by decide +kernel
theorem dX3_print_89 : decode cX3_print 89 = .ok (.astore 4, 2) := by decide +kernel
theorem dX3_print_91 : decode cX3_print 91 = .ok (.aload 4, 2) := by decide +kernel
theorem dX3_print_93 : decode cX3_print 93 = .ok (.iconst 0, 1) := by decide +kernel
theorem dX3_print_94 : decode cX3_print 94 = .ok (.putfield 254, 3) := by decide +kernel
theorem dX3_print_97 : decode cX3_print 97 = .ok (.aload 4, 2) := by decide +kernel
theorem dX3_print_99 : decode cX3_print 99 = .ok (.aload_n 0, 1) := by decide +kernel
theorem dX3_print_100 : decode cX3_print 100 = .ok (.getfield 155, 3) := by decide +kernel
theorem dX3_print_103 : decode cX3_print 103 = .ok (.putfield 257, 3) := by decide +kernel
theorem dX3_print_106 : decode cX3_print 106 = .ok (.iinc 3 1, 3) := by decide +kernel
theorem dX3_print_109 : decode cX3_print 109 = .ok (.goto (-42), 3) := by decide +kernel
theorem dX3_print_112 : decode cX3_print 112 = .ok (.aload_n 0, 1) := by decide +kernel
theorem dX3_print_113 : decode cX3_print 113 = .ok (.invokevirtual 90, 3) := by decide +kernel
theorem dX3_print_116 : decode cX3_print 116 = .ok (.iload_n 1, 1) := by decide +kernel
theorem dX3_print_117 : decode cX3_print 117 = .ok (.ireturn, 1) := by decide +kernel
theorem dX3_cancel_0 : decode cX3_cancel 0 = .ok (.aload_n 0, 1) := by decide +kernel
theorem dX3_cancel_1 : decode cX3_cancel 1 = .ok (.iload_n 1, 1) := by decide +kernel
theorem dX3_cancel_2 : decode cX3_cancel 2 = .ok (.invokevirtual 235, 3) := by decide +kernel
theorem dX3_cancel_5 : decode cX3_cancel 5 = .ok (.astore_n 2, 1) := by decide +kernel
theorem dX3_cancel_6 : decode cX3_cancel 6 = .ok (.aload_n 2, 1) := by decide +kernel
theorem dX3_cancel_7 : decode cX3_cancel 7 = .ok (.getfield 240, 3) := by decide +kernel
theorem dX3_cancel_10 : decode cX3_cancel 10 = .ok (.bipush 115, 2) := by decide +kernel
theorem dX3_cancel_12 : decode cX3_cancel 12 = .ok (.if_icmp .eq 14, 3) := by decide +kernel
theorem dX3_cancel_15 : decode cX3_cancel 15 = .ok (.new 64, 3) := by decide +kernel
theorem dX3_cancel_18 : decode cX3_cancel 18 = .ok (.dup, 1) := by decide +kernel
theorem dX3_cancel_19 : decode cX3_cancel 19 = .ok (.ldc_w 260, 3) := by decide +kernel
theorem dX3_cancel_22 : decode cX3_cancel 22 = .ok (.invokespecial 68, 3) := by decide +kernel
theorem dX3_cancel_25 : decode cX3_cancel 25 = .ok (.athrow, 1) := by decide +kernel
theorem dX3_cancel_26 : decode cX3_cancel 26 = .ok (.aload_n 2, 1) := by decide +kernel
theorem dX3_cancel_27 : decode cX3_cancel 27 = .ok (.bipush 99, 2) := by decide +kernel
theorem dX3_cancel_29 : decode cX3_cancel 29 = .ok (.putfield 240, 3) := by decide +kernel
theorem dX3_cancel_32 : decode cX3_cancel 32 = .ok (.iconst 0, 1) := by decide +kernel
theorem dX3_cancel_33 : decode cX3_cancel 33 = .ok (.istore_n 3, 1) := by decide +kernel
theorem dX3_cancel_34 : decode cX3_cancel 34 = .ok (.iload_n 3, 1) := by decide +kernel
theorem dX3_cancel_35 : decode cX3_cancel 35 = .ok (.aload_n 2, 1) := by decide +kernel
theorem dX3_cancel_36 : decode cX3_cancel 36 = .ok (.getfield 239, 3) := by decide +kernel
theorem dX3_cancel_39 : decode cX3_cancel 39 = .ok (.invokevirtual 69, 3) := by decide +kernel
theorem dX3_cancel_42 : decode cX3_cancel 42 = .ok (.if_icmp .ge 24, 3) := by decide +kernel
theorem dX3_cancel_45 : decode cX3_cancel 45 = .ok (.aload_n 2, 1) := by decide +kernel
theorem dX3_cancel_46 : decode cX3_cancel 46 = .ok (.getfield 239, 3) := by decide +kernel
theorem dX3_cancel_49 : decode cX3_cancel 49 = .ok (.iload_n 3, 1) := by decide +kernel
theorem dX3_cancel_50 : decode cX3_cancel 50 = .ok (.invokevirtual 132, 3) := by decide +kernel
theorem dX3_cancel_53 : decode cX3_cancel 53 = .ok (.checkcast 75, 3) := by decide +kernel
theorem dX3_cancel_56 : decode cX3_cancel 56 = .ok (.iconst 0, 1) := by decide +kernel
theorem dX3_cancel_57 : decode cX3_cancel 57 = .ok (.putfield 254, 3) := by decide +kernel
theorem dX3_cancel_60 : decode cX3_cancel 60 = .ok (.iinc 3 1, 3) := by decide +kernel
theorem dX3_cancel_63 : decode cX3_cancel 63 = .ok (.goto (-29), 3) := by decide +kernel
theorem dX3_cancel_66 : decode cX3_cancel 66 = .ok (.aload_n 0, 1) := by decide +kernel
theorem dX3_cancel_67 : decode cX3_cancel 67 = .ok (.invokevirtual 90, 3) := by decide +kernel
theorem dX3_cancel_70 : decode cX3_cancel 70 = .ok (.aload_n 2, 1) := by decide +kernel
theorem dX3_cancel_71 : decode cX3_cancel 71 = .ok (.getfield 239, 3) := by decide +kernel
theorem dX3_cancel_74 : decode cX3_cancel 74 = .ok (.invokevirtual 69, 3) := by decide +kernel
theorem dX3_cancel_77 : decode cX3_cancel 77 = .ok (.ireturn, 1) := by decide +kernel
theorem dX3_answer_0 : decode cX3_answer 0 = .ok (.aload_n 0, 1) := by decide +kernel
theorem dX3_answer_1 : decode cX3_answer 1 = .ok (.iload_n 1, 1) := by decide +kernel
theorem dX3_answer_2 : decode cX3_answer 2 = .ok (.invokevirtual 235, 3) := by decide +kernel
theorem dX3_answer_5 : decode cX3_answer 5 = .ok (.astore 4, 2) := by decide +kernel
theorem dX3_answer_7 : decode cX3_answer 7 = .ok (.aload 4, 2) := by decide +kernel
theorem dX3_answer_9 : decode cX3_answer 9 = .ok (.getfield 240, 3) := by decide +kernel
theorem dX3_answer_12 : decode cX3_answer 12 = .ok (.bipush 112, 2) := by decide +kernel
theorem dX3_answer_14 : decode cX3_answer 14 = .ok (.if_icmp .eq 14, 3) := by decide +kernel
theorem dX3_answer_17 : decode cX3_answer 17 = .ok (.new 64, 3) := by decide +kernel
theorem dX3_answer_20 : decode cX3_answer 20 = .ok (.dup, 1) := by decide +kernel
theorem dX3_answer_21 : decode cX3_answer 21 = .ok (.ldc_w 262, 3) := by decide +kernel
theorem dX3_answer_24 : decode cX3_answer 24 = .ok (.invokespecial 68, 3) := by decide +kernel
theorem dX3_answer_27 : decode cX3_answer 27 = .ok (.athrow, 1) := by decide +kernel
theorem dX3_answer_28 : decode cX3_answer 28 = .ok (.aload 4, 2) := by decide +kernel
theorem dX3_answer_30 : decode cX3_answer 30 = .ok (.getfield 239, 3) := by decide +kernel
theorem dX3_answer_33 : decode cX3_answer 33 = .ok (.iload_n 2, 1) := by decide +kernel
theorem dX3_answer_34 : decode cX3_answer 34 = .ok (.invokestatic 190, 3) := by decide +kernel
theorem dX3_answer_37 : decode cX3_answer 37 = .ok (.astore 5, 2) := by decide +kernel
theorem dX3_answer_39 : decode cX3_answer 39 = .ok (.aload 4, 2) := by decide +kernel
theorem dX3_answer_41 : decode cX3_answer 41 = .ok (.iload_n 2, 1) := by decide +kernel
theorem dX3_answer_42 : decode cX3_answer 42 = .ok (.invokevirtual 264, 3) := by decide +kernel
theorem dX3_answer_45 : decode cX3_answer 45 = .ok (.ifCond .ne 14, 3) := by decide +kernel
theorem dX3_answer_48 : decode cX3_answer 48 = .ok (.new 113, 3) := by decide +kernel
theorem dX3_answer_51 : decode cX3_answer 51 = .ok (.dup, 1) := by decide +kernel
theorem dX3_answer_52 : decode cX3_answer 52 = .ok (.ldc_w 268, 3) := by decide +kernel
theorem dX3_answer_55 : decode cX3_answer 55 = .ok (.invokespecial 115, 3) := by decide +kernel
theorem dX3_answer_58 : decode cX3_answer 58 = .ok (.athrow, 1) := by decide +kernel
theorem dX3_answer_59 : decode cX3_answer 59 = .ok (.aload 5, 2) := by decide +kernel
theorem dX3_answer_61 : decode cX3_answer 61 = .ok (.iload_n 3, 1) := by decide +kernel
theorem dX3_answer_62 : decode cX3_answer 62 = .ok (.invokevirtual 270, 3) := by decide +kernel
theorem dX3_answer_65 : decode cX3_answer 65 = .ok (.aload_n 0, 1) := by decide +kernel
theorem dX3_answer_66 : decode cX3_answer 66 = .ok (.dup, 1) := by decide +kernel
theorem dX3_answer_67 : decode cX3_answer 67 = .ok (.getfield 274, 3) := by decide +kernel
theorem dX3_answer_70 : decode cX3_answer 70 = .ok (.iconst 1, 1) := by decide +kernel
theorem dX3_answer_71 : decode cX3_answer 71 = .ok (.iadd, 1) := by decide +kernel
theorem dX3_answer_72 : decode cX3_answer 72 = .ok (.putfield 274, 3) := by decide +kernel
theorem dX3_answer_75 : decode cX3_answer 75 = .ok (.iload_n 3, 1) := by decide +kernel
theorem dX3_answer_76 : decode cX3_answer 76 = .ok (.ifCond .eq 13, 3) := by decide +kernel
theorem dX3_answer_79 : decode cX3_answer 79 = .ok (.aload_n 0, 1) := by decide +kernel
theorem dX3_answer_80 : decode cX3_answer 80 = .ok (.dup, 1) := by decide +kernel
theorem dX3_answer_81 : decode cX3_answer 81 = .ok (.getfield 277, 3) := by decide +kernel
theorem dX3_answer_84 : decode cX3_answer 84 = .ok (.iconst 1, 1) := by decide +kernel
theorem dX3_answer_85 : decode cX3_answer 85 = .ok (.iadd, 1) := by decide +kernel
theorem dX3_answer_86 : decode cX3_answer 86 = .ok (.putfield 277, 3) := by decide +kernel
theorem dX3_answer_89 : decode cX3_answer 89 = .ok (.aload_n 0, 1) := by decide +kernel
theorem dX3_answer_90 : decode cX3_answer 90 = .ok (.invokevirtual 90, 3) := by decide +kernel
theorem dX3_answer_93 : decode cX3_answer 93 = .ok (.aload 5, 2) := by decide +kernel
theorem dX3_answer_95 : decode cX3_answer 95 = .ok (.getfield 116, 3) := by decide +kernel
theorem dX3_answer_98 : decode cX3_answer 98 = .ok (.ireturn, 1) := by decide +kernel
theorem dX3_textOf_0 : decode cX3_textOf 0 = .ok (.aload_n 0, 1) := by decide +kernel
theorem dX3_textOf_1 : decode cX3_textOf 1 = .ok (.iload_n 1, 1) := by decide +kernel
theorem dX3_textOf_2 : decode cX3_textOf 2 = .ok (.aload_n 0, 1) := by decide +kernel
theorem dX3_textOf_3 : decode cX3_textOf 3 = .ok (.iload_n 1, 1) := by decide +kernel
theorem dX3_textOf_4 : decode cX3_textOf 4 = .ok (.invokevirtual 235, 3) := by decide +kernel
theorem dX3_textOf_7 : decode cX3_textOf 7 = .ok (.invokevirtual 280, 3) := by decide +kernel
theorem dX3_textOf_10 : decode cX3_textOf 10 = .ok (.iload_n 2, 1) := by decide +kernel
theorem dX3_textOf_11 : decode cX3_textOf 11 = .ok (.ifCond .lt 14, 3) := by decide +kernel
theorem dX3_textOf_14 : decode cX3_textOf 14 = .ok (.iload_n 2, 1) := by decide +kernel
theorem dX3_textOf_15 : decode cX3_textOf 15 = .ok (.aload_n 0, 1) := by decide +kernel
theorem dX3_textOf_16 : decode cX3_textOf 16 = .ok (.getfield 38, 3) := by decide +kernel
theorem dX3_textOf_19 : decode cX3_textOf 19 = .ok (.invokevirtual 284, 3) := by decide +kernel
theorem dX3_textOf_22 : decode cX3_textOf 22 = .ok (.if_icmp .lt 14, 3) := by decide +kernel
theorem dX3_textOf_25 : decode cX3_textOf 25 = .ok (.new 113, 3) := by decide +kernel
theorem dX3_textOf_28 : decode cX3_textOf 28 = .ok (.dup, 1) := by decide +kernel
theorem dX3_textOf_29 : decode cX3_textOf 29 = .ok (.ldc_w 287, 3) := by decide +kernel
theorem dX3_textOf_32 : decode cX3_textOf 32 = .ok (.invokespecial 115, 3) := by decide +kernel
theorem dX3_textOf_35 : decode cX3_textOf 35 = .ok (.athrow, 1) := by decide +kernel
theorem dX3_textOf_36 : decode cX3_textOf 36 = .ok (.aload_n 0, 1) := by decide +kernel
theorem dX3_textOf_37 : decode cX3_textOf 37 = .ok (.getfield 38, 3) := by decide +kernel
theorem dX3_textOf_40 : decode cX3_textOf 40 = .ok (.iload_n 2, 1) := by decide +kernel
theorem dX3_textOf_41 : decode cX3_textOf 41 = .ok (.invokevirtual 289, 3) := by decide +kernel
theorem dX3_textOf_44 : decode cX3_textOf 44 = .ok (.ireturn, 1) := by decide +kernel
theorem dX3_answers_0 : decode cX3_answers 0 = .ok (.aload_n 0, 1) := by decide +kernel
theorem dX3_answers_1 : decode cX3_answers 1 = .ok (.getfield 274, 3) := by decide +kernel
theorem dX3_answers_4 : decode cX3_answers 4 = .ok (.ireturn, 1) := by decide +kernel
theorem dX3_allLevels_0 : decode cX3_allLevels 0 = .ok (.lconst 0, 1) := by decide +kernel
theorem dX3_allLevels_1 : decode cX3_allLevels 1 = .ok (.lstore_n 1, 1) := by decide +kernel
theorem dX3_allLevels_2 : decode cX3_allLevels 2 = .ok (.iconst 0, 1) := by decide +kernel
theorem dX3_allLevels_3 : decode cX3_allLevels 3 = .ok (.istore_n 3, 1) := by decide +kernel
theorem dX3_allLevels_4 : decode cX3_allLevels 4 = .ok (.iload_n 3, 1) := by decide +kernel
theorem dX3_allLevels_5 : decode cX3_allLevels 5 = .ok (.aload_n 0, 1) := by decide +kernel
theorem dX3_allLevels_6 : decode cX3_allLevels 6 = .ok (.getfield 16, 3) := by decide +kernel
theorem dX3_allLevels_9 : decode cX3_allLevels 9 = .ok (.invokevirtual 69, 3) := by decide +kernel
theorem dX3_allLevels_12 : decode cX3_allLevels 12 = .ok (.if_icmp .ge 27, 3) := by decide +kernel
theorem dX3_allLevels_15 : decode cX3_allLevels 15 = .ok (.lload_n 1, 1) := by decide +kernel
theorem dX3_allLevels_16 : decode cX3_allLevels 16 = .ok (.aload_n 0, 1) := by decide +kernel
theorem dX3_allLevels_17 : decode cX3_allLevels 17 = .ok (.getfield 16, 3) := by decide +kernel
theorem dX3_allLevels_20 : decode cX3_allLevels 20 = .ok (.iload_n 3, 1) := by decide +kernel
theorem dX3_allLevels_21 : decode cX3_allLevels 21 = .ok (.invokevirtual 132, 3) := by decide +kernel
theorem dX3_allLevels_24 : decode cX3_allLevels 24 = .ok (.checkcast 75, 3) := by decide +kernel
theorem dX3_allLevels_27 : decode cX3_allLevels 27 = .ok (.getfield 116, 3) := by decide +kernel
theorem dX3_allLevels_30 : decode cX3_allLevels 30 = .ok (.i2l, 1) := by decide +kernel
theorem dX3_allLevels_31 : decode cX3_allLevels 31 = .ok (.ladd, 1) := by decide +kernel
theorem dX3_allLevels_32 : decode cX3_allLevels 32 = .ok (.lstore_n 1, 1) := by decide +kernel
theorem dX3_allLevels_33 : decode cX3_allLevels 33 = .ok (.iinc 3 1, 3) := by decide +kernel
theorem dX3_allLevels_36 : decode cX3_allLevels 36 = .ok (.goto (-32), 3) := by decide +kernel
theorem dX3_allLevels_39 : decode cX3_allLevels 39 = .ok (.lload_n 1, 1) := by decide +kernel
theorem dX3_allLevels_40 : decode cX3_allLevels 40 = .ok (.lreturn, 1) := by decide +kernel
theorem dX3_rightShare_0 : decode cX3_rightShare 0 = .ok (.aload_n 0, 1) := by decide +kernel
theorem dX3_rightShare_1 : decode cX3_rightShare 1 = .ok (.getfield 274, 3) := by decide +kernel
theorem dX3_rightShare_4 : decode cX3_rightShare 4 = .ok (.ifCond .ne 14, 3) := by decide +kernel
theorem dX3_rightShare_7 : decode cX3_rightShare 7 = .ok (.new 293, 3) := by decide +kernel
theorem dX3_rightShare_10 : decode cX3_rightShare 10 = .ok (.dup, 1) := by decide +kernel
theorem dX3_rightShare_11 : decode cX3_rightShare 11 = .ok (.ldc_w 295, 3) := by decide +kernel
theorem dX3_rightShare_14 : decode cX3_rightShare 14 = .ok (.invokespecial 297, 3) := by decide +kernel
theorem dX3_rightShare_17 : decode cX3_rightShare 17 = .ok (.athrow, 1) := by decide +kernel
theorem dX3_rightShare_18 : decode cX3_rightShare 18 = .ok (.aload_n 0, 1) := by decide +kernel
theorem dX3_rightShare_19 : decode cX3_rightShare 19 = .ok (.getfield 277, 3) := by decide +kernel
theorem dX3_rightShare_22 : decode cX3_rightShare 22 = .ok (.i2f, 1) := by decide +kernel
theorem dX3_rightShare_23 : decode cX3_rightShare 23 = .ok (.aload_n 0, 1) := by decide +kernel
theorem dX3_rightShare_24 : decode cX3_rightShare 24 = .ok (.getfield 274, 3) := by decide +kernel
theorem dX3_rightShare_27 : decode cX3_rightShare 27 = .ok (.i2f, 1) := by decide +kernel
theorem dX3_rightShare_28 : decode cX3_rightShare 28 = .ok (.fdiv, 1) := by decide +kernel
theorem dX3_rightShare_29 : decode cX3_rightShare 29 = .ok (.freturn, 1) := by decide +kernel
theorem dX3_meanLevel_0 : decode cX3_meanLevel 0 = .ok (.aload_n 0, 1) := by decide +kernel
theorem dX3_meanLevel_1 : decode cX3_meanLevel 1 = .ok (.getfield 16, 3) := by decide +kernel
theorem dX3_meanLevel_4 : decode cX3_meanLevel 4 = .ok (.invokevirtual 229, 3) := by decide +kernel
theorem dX3_meanLevel_7 : decode cX3_meanLevel 7 = .ok (.ifCond .eq 14, 3) := by decide +kernel
theorem dX3_meanLevel_10 : decode cX3_meanLevel 10 = .ok (.new 293, 3) := by decide +kernel
theorem dX3_meanLevel_13 : decode cX3_meanLevel 13 = .ok (.dup, 1) := by decide +kernel
theorem dX3_meanLevel_14 : decode cX3_meanLevel 14 = .ok (.ldc_w 298, 3) := by decide +kernel
theorem dX3_meanLevel_17 : decode cX3_meanLevel 17 = .ok (.invokespecial 297, 3) := by decide +kernel
theorem dX3_meanLevel_20 : decode cX3_meanLevel 20 = .ok (.athrow, 1) := by decide +kernel
theorem dX3_meanLevel_21 : decode cX3_meanLevel 21 = .ok (.aload_n 0, 1) := by decide +kernel
theorem dX3_meanLevel_22 : decode cX3_meanLevel 22 = .ok (.invokevirtual 300, 3) := by decide +kernel
theorem dX3_meanLevel_25 : decode cX3_meanLevel 25 = .ok (.l2d, 1) := by decide +kernel
theorem dX3_meanLevel_26 : decode cX3_meanLevel 26 = .ok (.aload_n 0, 1) := by decide +kernel
theorem dX3_meanLevel_27 : decode cX3_meanLevel 27 = .ok (.getfield 16, 3) := by decide +kernel
theorem dX3_meanLevel_30 : decode cX3_meanLevel 30 = .ok (.invokevirtual 69, 3) := by decide +kernel
theorem dX3_meanLevel_33 : decode cX3_meanLevel 33 = .ok (.i2d, 1) := by decide +kernel
theorem dX3_meanLevel_34 : decode cX3_meanLevel 34 = .ok (.ddiv, 1) := by decide +kernel
theorem dX3_meanLevel_35 : decode cX3_meanLevel 35 = .ok (.dreturn, 1) := by decide +kernel
theorem dX3_isSound_0 : decode cX3_isSound 0 = .ok (.aload_n 0, 1) := by decide +kernel
theorem dX3_isSound_1 : decode cX3_isSound 1 = .ok (.invokevirtual 304, 3) := by decide +kernel
theorem dX3_isSound_4 : decode cX3_isSound 4 = .ok (.ifCond .eq 21, 3) := by decide +kernel
theorem dX3_isSound_7 : decode cX3_isSound 7 = .ok (.aload_n 0, 1) := by decide +kernel
theorem dX3_isSound_8 : decode cX3_isSound 8 = .ok (.invokevirtual 307, 3) := by decide +kernel
theorem dX3_isSound_11 : decode cX3_isSound 11 = .ok (.ifCond .eq 14, 3) := by decide +kernel
theorem dX3_isSound_14 : decode cX3_isSound 14 = .ok (.aload_n 0, 1) := by decide +kernel
theorem dX3_isSound_15 : decode cX3_isSound 15 = .ok (.invokevirtual 310, 3) := by decide +kernel
theorem dX3_isSound_18 : decode cX3_isSound 18 = .ok (.ifCond .eq 7, 3) := by decide +kernel
theorem dX3_isSound_21 : decode cX3_isSound 21 = .ok (.iconst 1, 1) := by decide +kernel
theorem dX3_isSound_22 : decode cX3_isSound 22 = .ok (.goto 4, 3) := by decide +kernel
theorem dX3_isSound_25 : decode cX3_isSound 25 = .ok (.iconst 0, 1) := by decide +kernel
theorem dX3_isSound_26 : decode cX3_isSound 26 = .ok (.ireturn, 1) := by decide +kernel
theorem dX3_isOutside_0 : decode cX3_isOutside 0 = .ok (.iload_n 0, 1) := by decide +kernel
theorem dX3_isOutside_1 : decode cX3_isOutside 1 = .ok (.iload_n 1, 1) := by decide +kernel
theorem dX3_isOutside_2 : decode cX3_isOutside 2 = .ok (.if_icmp .lt 8, 3) := by decide +kernel
theorem dX3_isOutside_5 : decode cX3_isOutside 5 = .ok (.iload_n 0, 1) := by decide +kernel
theorem dX3_isOutside_6 : decode cX3_isOutside 6 = .ok (.iload_n 2, 1) := by decide +kernel
theorem dX3_isOutside_7 : decode cX3_isOutside 7 = .ok (.if_icmp .le 7, 3) := by decide +kernel
theorem dX3_isOutside_10 : decode cX3_isOutside 10 = .ok (.iconst 1, 1) := by decide +kernel
theorem dX3_isOutside_11 : decode cX3_isOutside 11 = .ok (.goto 4, 3) := by decide +kernel
theorem dX3_isOutside_14 : decode cX3_isOutside 14 = .ok (.iconst 0, 1) := by decide +kernel
theorem dX3_isOutside_15 : decode cX3_isOutside 15 = .ok (.ireturn, 1) := by decide +kernel
theorem dX3_questionOf_0 : decode cX3_questionOf 0 = .ok (.iload_n 1, 1) := by decide +kernel
theorem dX3_questionOf_1 : decode cX3_questionOf 1 = .ok (.ifCond .lt 14, 3) := by decide +kernel
theorem dX3_questionOf_4 : decode cX3_questionOf 4 = .ok (.iload_n 1, 1) := by decide +kernel
theorem dX3_questionOf_5 : decode cX3_questionOf 5 = .ok (.aload_n 0, 1) := by decide +kernel
theorem dX3_questionOf_6 : decode cX3_questionOf 6 = .ok (.getfield 16, 3) := by decide +kernel
theorem dX3_questionOf_9 : decode cX3_questionOf 9 = .ok (.invokevirtual 69, 3) := by decide +kernel
theorem dX3_questionOf_12 : decode cX3_questionOf 12 = .ok (.if_icmp .lt 14, 3) := by decide +kernel
theorem dX3_questionOf_15 : decode cX3_questionOf 15 = .ok (.new 313, 3) := by decide +kernel
theorem dX3_questionOf_18 : decode cX3_questionOf 18 = .ok (.dup, 1) := by decide +kernel
theorem dX3_questionOf_19 : decode cX3_questionOf 19 = .ok (.ldc_w 315, 3) := by decide +kernel
theorem dX3_questionOf_22 : decode cX3_questionOf 22 = .ok (.invokespecial 317, 3) := by decide +kernel
theorem dX3_questionOf_25 : decode cX3_questionOf 25 = .ok (.athrow, 1) := by decide +kernel
theorem dX3_questionOf_26 : decode cX3_questionOf 26 = .ok (.aload_n 0, 1) := by decide +kernel
theorem dX3_questionOf_27 : decode cX3_questionOf 27 = .ok (.getfield 16, 3) := by decide +kernel
theorem dX3_questionOf_30 : decode cX3_questionOf 30 = .ok (.iload_n 1, 1) := by decide +kernel
theorem dX3_questionOf_31 : decode cX3_questionOf 31 = .ok (.invokevirtual 132, 3) := by decide +kernel
theorem dX3_questionOf_34 : decode cX3_questionOf 34 = .ok (.checkcast 75, 3) := by decide +kernel
theorem dX3_questionOf_37 : decode cX3_questionOf 37 = .ok (.areturn, 1) := by decide +kernel
theorem dX3_planOf_0 : decode cX3_planOf 0 = .ok (.iload_n 1, 1) := by decide +kernel
theorem dX3_planOf_1 : decode cX3_planOf 1 = .ok (.ifCond .lt 14, 3) := by decide +kernel
theorem dX3_planOf_4 : decode cX3_planOf 4 = .ok (.iload_n 1, 1) := by decide +kernel
theorem dX3_planOf_5 : decode cX3_planOf 5 = .ok (.aload_n 0, 1) := by decide +kernel
theorem dX3_planOf_6 : decode cX3_planOf 6 = .ok (.getfield 23, 3) := by decide +kernel
theorem dX3_planOf_9 : decode cX3_planOf 9 = .ok (.invokevirtual 69, 3) := by decide +kernel
theorem dX3_planOf_12 : decode cX3_planOf 12 = .ok (.if_icmp .lt 14, 3) := by decide +kernel
theorem dX3_planOf_15 : decode cX3_planOf 15 = .ok (.new 313, 3) := by decide +kernel
theorem dX3_planOf_18 : decode cX3_planOf 18 = .ok (.dup, 1) := by decide +kernel
theorem dX3_planOf_19 : decode cX3_planOf 19 = .ok (.ldc_w 318, 3) := by decide +kernel
theorem dX3_planOf_22 : decode cX3_planOf 22 = .ok (.invokespecial 317, 3) := by decide +kernel
theorem dX3_planOf_25 : decode cX3_planOf 25 = .ok (.athrow, 1) := by decide +kernel
theorem dX3_planOf_26 : decode cX3_planOf 26 = .ok (.aload_n 0, 1) := by decide +kernel
theorem dX3_planOf_27 : decode cX3_planOf 27 = .ok (.getfield 23, 3) := by decide +kernel
theorem dX3_planOf_30 : decode cX3_planOf 30 = .ok (.iload_n 1, 1) := by decide +kernel
theorem dX3_planOf_31 : decode cX3_planOf 31 = .ok (.invokevirtual 132, 3) := by decide +kernel
theorem dX3_planOf_34 : decode cX3_planOf 34 = .ok (.checkcast 168, 3) := by decide +kernel
theorem dX3_planOf_37 : decode cX3_planOf 37 = .ok (.areturn, 1) := by decide +kernel
theorem dX3_sheetOf_0 : decode cX3_sheetOf 0 = .ok (.iload_n 1, 1) := by decide +kernel
theorem dX3_sheetOf_1 : decode cX3_sheetOf 1 = .ok (.ifCond .lt 14, 3) := by decide +kernel
theorem dX3_sheetOf_4 : decode cX3_sheetOf 4 = .ok (.iload_n 1, 1) := by decide +kernel
theorem dX3_sheetOf_5 : decode cX3_sheetOf 5 = .ok (.aload_n 0, 1) := by decide +kernel
theorem dX3_sheetOf_6 : decode cX3_sheetOf 6 = .ok (.getfield 26, 3) := by decide +kernel
theorem dX3_sheetOf_9 : decode cX3_sheetOf 9 = .ok (.invokevirtual 69, 3) := by decide +kernel
theorem dX3_sheetOf_12 : decode cX3_sheetOf 12 = .ok (.if_icmp .lt 14, 3) := by decide +kernel
theorem dX3_sheetOf_15 : decode cX3_sheetOf 15 = .ok (.new 313, 3) := by decide +kernel
theorem dX3_sheetOf_18 : decode cX3_sheetOf 18 = .ok (.dup, 1) := by decide +kernel
theorem dX3_sheetOf_19 : decode cX3_sheetOf 19 = .ok (.ldc_w 320, 3) := by decide +kernel
theorem dX3_sheetOf_22 : decode cX3_sheetOf 22 = .ok (.invokespecial 317, 3) := by decide +kernel
theorem dX3_sheetOf_25 : decode cX3_sheetOf 25 = .ok (.athrow, 1) := by decide +kernel
theorem dX3_sheetOf_26 : decode cX3_sheetOf 26 = .ok (.aload_n 0, 1) := by decide +kernel
theorem dX3_sheetOf_27 : decode cX3_sheetOf 27 = .ok (.getfield 26, 3) := by decide +kernel
theorem dX3_sheetOf_30 : decode cX3_sheetOf 30 = .ok (.iload_n 1, 1) := by decide +kernel
theorem dX3_sheetOf_31 : decode cX3_sheetOf 31 = .ok (.invokevirtual 132, 3) := by decide +kernel
theorem dX3_sheetOf_34 : decode cX3_sheetOf 34 = .ok (.checkcast 217, 3) := by decide +kernel
theorem dX3_sheetOf_37 : decode cX3_sheetOf 37 = .ok (.areturn, 1) := by decide +kernel
theorem dX3_hitOf_0 : decode cX3_hitOf 0 = .ok (.aload_n 0, 1) := by decide +kernel
theorem dX3_hitOf_1 : decode cX3_hitOf 1 = .ok (.getfield 20, 3) := by decide +kernel
theorem dX3_hitOf_4 : decode cX3_hitOf 4 = .ok (.iload_n 1, 1) := by decide +kernel
theorem dX3_hitOf_5 : decode cX3_hitOf 5 = .ok (.invokestatic 190, 3) := by decide +kernel
theorem dX3_hitOf_8 : decode cX3_hitOf 8 = .ok (.areturn, 1) := by decide +kernel
theorem dX3_elementOf_0 : decode cX3_elementOf 0 = .ok (.iload_n 1, 1) := by decide +kernel
theorem dX3_elementOf_1 : decode cX3_elementOf 1 = .ok (.ifCond .lt 11, 3) := by decide +kernel
theorem dX3_elementOf_4 : decode cX3_elementOf 4 = .ok (.iload_n 1, 1) := by decide +kernel
theorem dX3_elementOf_5 : decode cX3_elementOf 5 = .ok (.aload_n 0, 1) := by decide +kernel
theorem dX3_elementOf_6 : decode cX3_elementOf 6 = .ok (.invokevirtual 69, 3) := by decide +kernel
theorem dX3_elementOf_9 : decode cX3_elementOf 9 = .ok (.if_icmp .lt 14, 3) := by decide +kernel
theorem dX3_elementOf_12 : decode cX3_elementOf 12 = .ok (.new 113, 3) := by decide +kernel
theorem dX3_elementOf_15 : decode cX3_elementOf 15 = .ok (.dup, 1) := by decide +kernel
theorem dX3_elementOf_16 : decode cX3_elementOf 16 = .ok (.ldc_w 322, 3) := by decide +kernel
theorem dX3_elementOf_19 : decode cX3_elementOf 19 = .ok (.invokespecial 115, 3) := by decide +kernel
theorem dX3_elementOf_22 : decode cX3_elementOf 22 = .ok (.athrow, 1) := by decide +kernel
theorem dX3_elementOf_23 : decode cX3_elementOf 23 = .ok (.aload_n 0, 1) := by decide +kernel
theorem dX3_elementOf_24 : decode cX3_elementOf 24 = .ok (.iload_n 1, 1) := by decide +kernel
theorem dX3_elementOf_25 : decode cX3_elementOf 25 = .ok (.invokevirtual 132, 3) := by decide +kernel
theorem dX3_elementOf_28 : decode cX3_elementOf 28 = .ok (.checkcast 75, 3) := by decide +kernel
theorem dX3_elementOf_31 : decode cX3_elementOf 31 = .ok (.areturn, 1) := by decide +kernel
theorem dX3_wordsOfRow_0 : decode cX3_wordsOfRow 0 = .ok (.iconst 0, 1) := by decide +kernel
theorem dX3_wordsOfRow_1 : decode cX3_wordsOfRow 1 = .ok (.istore_n 1, 1) := by decide +kernel
theorem dX3_wordsOfRow_2 : decode cX3_wordsOfRow 2 = .ok (.iconst 0, 1) := by decide +kernel
theorem dX3_wordsOfRow_3 : decode cX3_wordsOfRow 3 = .ok (.istore_n 2, 1) := by decide +kernel
theorem dX3_wordsOfRow_4 : decode cX3_wordsOfRow 4 = .ok (.iload_n 2, 1) := by decide +kernel
theorem dX3_wordsOfRow_5 : decode cX3_wordsOfRow 5 = .ok (.aload_n 0, 1) := by decide +kernel
theorem dX3_wordsOfRow_6 : decode cX3_wordsOfRow 6 = .ok (.getfield 53, 3) := by decide +kernel
theorem dX3_wordsOfRow_9 : decode cX3_wordsOfRow 9 = .ok (.if_icmp .ge 26, 3) := by decide +kernel
theorem dX3_wordsOfRow_12 : decode cX3_wordsOfRow 12 = .ok (.iload_n 2, 1) := by decide +kernel
theorem dX3_wordsOfRow_13 : decode cX3_wordsOfRow 13 = .ok (.bipush 6, 2) := by decide +kernel
theorem dX3_wordsOfRow_15 : decode cX3_wordsOfRow 15 = .ok (.if_icmp .ge 20, 3) := by decide +kernel
theorem dX3_wordsOfRow_18 : decode cX3_wordsOfRow 18 = .ok (.iload_n 1, 1) := by decide +kernel
theorem dX3_wordsOfRow_19 : decode cX3_wordsOfRow 19 = .ok (.iconst 1, 1) := by decide +kernel
theorem dX3_wordsOfRow_20 : decode cX3_wordsOfRow 20 = .ok (.aload_n 0, 1) := by decide +kernel
theorem dX3_wordsOfRow_21 : decode cX3_wordsOfRow 21 = .ok (.getfield 9, 3) := by decide +kernel
theorem dX3_wordsOfRow_24 : decode cX3_wordsOfRow 24 = .ok (.iload_n 2, 1) := by decide +kernel
theorem dX3_wordsOfRow_25 : decode cX3_wordsOfRow 25 = .ok (.iaload, 1) := by decide +kernel
theorem dX3_wordsOfRow_26 : decode cX3_wordsOfRow 26 = .ok (.ishl, 1) := by decide +kernel
theorem dX3_wordsOfRow_27 : decode cX3_wordsOfRow 27 = .ok (.ior, 1) := by decide +kernel
theorem dX3_wordsOfRow_28 : decode cX3_wordsOfRow 28 = .ok (.istore_n 1, 1) := by decide +kernel
theorem dX3_wordsOfRow_29 : decode cX3_wordsOfRow 29 = .ok (.iinc 2 1, 3) := by decide +kernel
theorem dX3_wordsOfRow_32 : decode cX3_wordsOfRow 32 = .ok (.goto (-28), 3) := by decide +kernel
theorem dX3_wordsOfRow_35 : decode cX3_wordsOfRow 35 = .ok (.iload_n 1, 1) := by decide +kernel
theorem dX3_wordsOfRow_36 : decode cX3_wordsOfRow 36 = .ok (.ireturn, 1) := by decide +kernel
theorem dX3_placeAmongHits_0 : decode cX3_placeAmongHits 0 = .ok (.iconst 0, 1) := by decide +kernel
theorem dX3_placeAmongHits_1 : decode cX3_placeAmongHits 1 = .ok (.istore_n 2, 1) := by decide +kernel
theorem dX3_placeAmongHits_2 : decode cX3_placeAmongHits 2 = .ok (.iload_n 2, 1) := by decide +kernel
theorem dX3_placeAmongHits_3 : decode cX3_placeAmongHits 3 = .ok (.aload_n 0, 1) := by decide +kernel
theorem dX3_placeAmongHits_4 : decode cX3_placeAmongHits 4 = .ok (.getfield 20, 3) := by decide +kernel
theorem dX3_placeAmongHits_7 : decode cX3_placeAmongHits 7 = .ok (.invokevirtual 69, 3) := by decide +kernel
theorem dX3_placeAmongHits_10 : decode cX3_placeAmongHits 10 = .ok (.if_icmp .ge 27, 3) := by decide +kernel
theorem dX3_placeAmongHits_13 : decode cX3_placeAmongHits 13 = .ok (.aload_n 0, 1) := by decide +kernel
theorem dX3_placeAmongHits_14 : decode cX3_placeAmongHits 14 = .ok (.getfield 20, 3) := by decide +kernel
theorem dX3_placeAmongHits_17 : decode cX3_placeAmongHits 17 = .ok (.iload_n 2, 1) := by decide +kernel
theorem dX3_placeAmongHits_18 : decode cX3_placeAmongHits 18 = .ok (.invokevirtual 132, 3) := by decide +kernel
theorem dX3_placeAmongHits_21 : decode cX3_placeAmongHits 21 = .ok (.checkcast 75, 3) := by decide +kernel
theorem dX3_placeAmongHits_24 : decode cX3_placeAmongHits 24 = .ok (.getfield 140, 3) := by decide +kernel
theorem dX3_placeAmongHits_27 : decode cX3_placeAmongHits 27 = .ok (.iload_n 1, 1) := by decide +kernel
theorem dX3_placeAmongHits_28 : decode cX3_placeAmongHits 28 = .ok (.if_icmp .lt 9, 3) := by decide +kernel
theorem dX3_placeAmongHits_31 : decode cX3_placeAmongHits 31 = .ok (.iinc 2 1, 3) := by decide +kernel
theorem dX3_placeAmongHits_34 : decode cX3_placeAmongHits 34 = .ok (.goto (-32), 3) := by decide +kernel
theorem dX3_placeAmongHits_37 : decode cX3_placeAmongHits 37 = .ok (.iload_n 2, 1) := by decide +kernel
theorem dX3_placeAmongHits_38 : decode cX3_placeAmongHits 38 = .ok (.ireturn, 1) := by decide +kernel
theorem dX3_joinFamilies_0 : decode cX3_joinFamilies 0 = .ok (.iconst 0, 1) := by decide +kernel
theorem dX3_joinFamilies_1 : decode cX3_joinFamilies 1 = .ok (.istore_n 3, 1) := by decide +kernel
theorem dX3_joinFamilies_2 : decode cX3_joinFamilies 2 = .ok (.iload_n 3, 1) := by decide +kernel
theorem dX3_joinFamilies_3 : decode cX3_joinFamilies 3 = .ok (.aload_n 0, 1) := by decide +kernel
theorem dX3_joinFamilies_4 : decode cX3_joinFamilies 4 = .ok (.getfield 16, 3) := by decide +kernel
theorem dX3_joinFamilies_7 : decode cX3_joinFamilies 7 = .ok (.invokevirtual 69, 3) := by decide +kernel
theorem dX3_joinFamilies_10 : decode cX3_joinFamilies 10 = .ok (.if_icmp .ge 42, 3) := by decide +kernel
theorem dX3_joinFamilies_13 : decode cX3_joinFamilies 13 = .ok (.aload_n 0, 1) := by decide +kernel
theorem dX3_joinFamilies_14 : decode cX3_joinFamilies 14 = .ok (.getfield 16, 3) := by decide +kernel
theorem dX3_joinFamilies_17 : decode cX3_joinFamilies 17 = .ok (.iload_n 3, 1) := by decide +kernel
theorem dX3_joinFamilies_18 : decode cX3_joinFamilies 18 = .ok (.invokevirtual 132, 3) := by decide +kernel
theorem dX3_joinFamilies_21 : decode cX3_joinFamilies 21 = .ok (.checkcast 75, 3) := by decide +kernel
theorem dX3_joinFamilies_24 : decode cX3_joinFamilies 24 = .ok (.getfield 99, 3) := by decide +kernel
theorem dX3_joinFamilies_27 : decode cX3_joinFamilies 27 = .ok (.iload_n 2, 1) := by decide +kernel
theorem dX3_joinFamilies_28 : decode cX3_joinFamilies 28 = .ok (.if_icmp .ne 18, 3) := by decide +kernel
theorem dX3_joinFamilies_31 : decode cX3_joinFamilies 31 = .ok (.aload_n 0, 1) := by decide +kernel
theorem dX3_joinFamilies_32 : decode cX3_joinFamilies 32 = .ok (.getfield 16, 3) := by decide +kernel
theorem dX3_joinFamilies_35 : decode cX3_joinFamilies 35 = .ok (.iload_n 3, 1) := by decide +kernel
theorem dX3_joinFamilies_36 : decode cX3_joinFamilies 36 = .ok (.invokevirtual 132, 3) := by decide +kernel
theorem dX3_joinFamilies_39 : decode cX3_joinFamilies 39 = .ok (.checkcast 75, 3) := by decide +kernel
theorem dX3_joinFamilies_42 : decode cX3_joinFamilies 42 = .ok (.iload_n 1, 1) := by decide +kernel
theorem dX3_joinFamilies_43 : decode cX3_joinFamilies 43 = .ok (.putfield 99, 3) := by decide +kernel
theorem dX3_joinFamilies_46 : decode cX3_joinFamilies 46 = .ok (.iinc 3 1, 3) := by decide +kernel
theorem dX3_joinFamilies_49 : decode cX3_joinFamilies 49 = .ok (.goto (-47), 3) := by decide +kernel
theorem dX3_joinFamilies_52 : decode cX3_joinFamilies 52 = .ok (.return_, 1) := by decide +kernel
theorem dX3_countTwins_0 : decode cX3_countTwins 0 = .ok (.iconst 0, 1) := by decide +kernel
theorem dX3_countTwins_1 : decode cX3_countTwins 1 = .ok (.istore_n 2, 1) := by decide +kernel
theorem dX3_countTwins_2 : decode cX3_countTwins 2 = .ok (.iconst 0, 1) := by decide +kernel
theorem dX3_countTwins_3 : decode cX3_countTwins 3 = .ok (.istore_n 3, 1) := by decide +kernel
theorem dX3_countTwins_4 : decode cX3_countTwins 4 = .ok (.iload_n 3, 1) := by decide +kernel
theorem dX3_countTwins_5 : decode cX3_countTwins 5 = .ok (.aload_n 0, 1) := by decide +kernel
theorem dX3_countTwins_6 : decode cX3_countTwins 6 = .ok (.getfield 16, 3) := by decide +kernel
theorem dX3_countTwins_9 : decode cX3_countTwins 9 = .ok (.invokevirtual 69, 3) := by decide +kernel
theorem dX3_countTwins_12 : decode cX3_countTwins 12 = .ok (.if_icmp .ge 45, 3) := by decide +kernel
theorem dX3_countTwins_15 : decode cX3_countTwins 15 = .ok (.aload_n 0, 1) := by decide +kernel
theorem dX3_countTwins_16 : decode cX3_countTwins 16 = .ok (.getfield 16, 3) := by decide +kernel
theorem dX3_countTwins_19 : decode cX3_countTwins 19 = .ok (.iload_n 3, 1) := by decide +kernel
theorem dX3_countTwins_20 : decode cX3_countTwins 20 = .ok (.invokevirtual 132, 3) := by decide +kernel
theorem dX3_countTwins_23 : decode cX3_countTwins 23 = .ok (.aload_n 1, 1) := by decide +kernel
theorem dX3_countTwins_24 : decode cX3_countTwins 24 = .ok (.if_acmp .eq 27, 3) := by decide +kernel
theorem dX3_countTwins_27 : decode cX3_countTwins 27 = .ok (.aload_n 0, 1) := by decide +kernel
theorem dX3_countTwins_28 : decode cX3_countTwins 28 = .ok (.getfield 16, 3) := by decide +kernel
theorem dX3_countTwins_31 : decode cX3_countTwins 31 = .ok (.iload_n 3, 1) := by decide +kernel
theorem dX3_countTwins_32 : decode cX3_countTwins 32 = .ok (.invokevirtual 132, 3) := by decide +kernel
theorem dX3_countTwins_35 : decode cX3_countTwins 35 = .ok (.checkcast 75, 3) := by decide +kernel
theorem dX3_countTwins_38 : decode cX3_countTwins 38 = .ok (.getfield 99, 3) := by decide +kernel
theorem dX3_countTwins_41 : decode cX3_countTwins 41 = .ok (.aload_n 1, 1) := by decide +kernel
theorem dX3_countTwins_42 : decode cX3_countTwins 42 = .ok (.getfield 99, 3) := by decide +kernel
theorem dX3_countTwins_45 : decode cX3_countTwins 45 = .ok (.if_icmp .ne 6, 3) := by decide +kernel
theorem dX3_countTwins_48 : decode cX3_countTwins 48 = .ok (.iinc 2 1, 3) := by decide +kernel
theorem dX3_countTwins_51 : decode cX3_countTwins 51 = .ok (.iinc 3 1, 3) := by decide +kernel
theorem dX3_countTwins_54 : decode cX3_countTwins 54 = .ok (.goto (-50), 3) := by decide +kernel
theorem dX3_countTwins_57 : decode cX3_countTwins 57 = .ok (.iload_n 2, 1) := by decide +kernel
theorem dX3_countTwins_58 : decode cX3_countTwins 58 = .ok (.ireturn, 1) := by decide +kernel
theorem dX3_hasRelative_0 : decode cX3_hasRelative 0 = .ok (.iconst 0, 1) := by decide +kernel
theorem dX3_hasRelative_1 : decode cX3_hasRelative 1 = .ok (.istore_n 3, 1) := by decide +kernel
theorem dX3_hasRelative_2 : decode cX3_hasRelative 2 = .ok (.iload_n 3, 1) := by decide +kernel
theorem dX3_hasRelative_3 : decode cX3_hasRelative 3 = .ok (.iload_n 1, 1) := by decide +kernel
theorem dX3_hasRelative_4 : decode cX3_hasRelative 4 = .ok (.if_icmp .ge 37, 3) := by decide +kernel
theorem dX3_hasRelative_7 : decode cX3_hasRelative 7 = .ok (.iload_n 3, 1) := by decide +kernel
theorem dX3_hasRelative_8 : decode cX3_hasRelative 8 = .ok (.aload_n 0, 1) := by decide +kernel
theorem dX3_hasRelative_9 : decode cX3_hasRelative 9 = .ok (.invokevirtual 69, 3) := by decide +kernel
theorem dX3_hasRelative_12 : decode cX3_hasRelative 12 = .ok (.if_icmp .ge 29, 3) := by decide +kernel
theorem dX3_hasRelative_15 : decode cX3_hasRelative 15 = .ok (.aload_n 0, 1) := by decide +kernel
theorem dX3_hasRelative_16 : decode cX3_hasRelative 16 = .ok (.iload_n 3, 1) := by decide +kernel
theorem dX3_hasRelative_17 : decode cX3_hasRelative 17 = .ok (.invokevirtual 132, 3) := by decide +kernel
theorem dX3_hasRelative_20 : decode cX3_hasRelative 20 = .ok (.checkcast 75, 3) := by decide +kernel
theorem dX3_hasRelative_23 : decode cX3_hasRelative 23 = .ok (.getfield 99, 3) := by decide +kernel
theorem dX3_hasRelative_26 : decode cX3_hasRelative 26 = .ok (.aload_n 2, 1) := by decide +kernel
theorem dX3_hasRelative_27 : decode cX3_hasRelative 27 = .ok (.getfield 99, 3) := by decide +kernel
theorem dX3_hasRelative_30 : decode cX3_hasRelative 30 = .ok (.if_icmp .ne 5, 3) := by decide +kernel
theorem dX3_hasRelative_33 : decode cX3_hasRelative 33 = .ok (.iconst 1, 1) := by decide +kernel
theorem dX3_hasRelative_34 : decode cX3_hasRelative 34 = .ok (.ireturn, 1) := by decide +kernel
theorem dX3_hasRelative_35 : decode cX3_hasRelative 35 = .ok (.iinc 3 1, 3) := by decide +kernel
theorem dX3_hasRelative_38 : decode cX3_hasRelative 38 = .ok (.goto (-36), 3) := by decide +kernel
theorem dX3_hasRelative_41 : decode cX3_hasRelative 41 = .ok (.iconst 0, 1) := by decide +kernel
theorem dX3_hasRelative_42 : decode cX3_hasRelative 42 = .ok (.ireturn, 1) := by decide +kernel
theorem dX3_isOpen_0 : decode cX3_isOpen 0 = .ok (.aload_n 1, 1) := by decide +kernel
theorem dX3_isOpen_1 : decode cX3_isOpen 1 = .ok (.getfield 177, 3) := by decide +kernel
theorem dX3_isOpen_4 : decode cX3_isOpen 4 = .ok (.ifCond .ne 18, 3) := by decide +kernel
theorem dX3_isOpen_7 : decode cX3_isOpen 7 = .ok (.aload_n 1, 1) := by decide +kernel
theorem dX3_isOpen_8 : decode cX3_isOpen 8 = .ok (.getfield 226, 3) := by decide +kernel
theorem dX3_isOpen_11 : decode cX3_isOpen 11 = .ok (.aload_n 0, 1) := by decide +kernel
theorem dX3_isOpen_12 : decode cX3_isOpen 12 = .ok (.getfield 155, 3) := by decide +kernel
theorem dX3_isOpen_15 : decode cX3_isOpen 15 = .ok (.if_icmp .lt 7, 3) := by decide +kernel
theorem dX3_isOpen_18 : decode cX3_isOpen 18 = .ok (.iconst 1, 1) := by decide +kernel
theorem dX3_isOpen_19 : decode cX3_isOpen 19 = .ok (.goto 4, 3) := by decide +kernel
theorem dX3_isOpen_22 : decode cX3_isOpen 22 = .ok (.iconst 0, 1) := by decide +kernel
theorem dX3_isOpen_23 : decode cX3_isOpen 23 = .ok (.ireturn, 1) := by decide +kernel
theorem dX3_isAvailable_0 : decode cX3_isAvailable 0 = .ok (.aload_n 1, 1) := by decide +kernel
theorem dX3_isAvailable_1 : decode cX3_isAvailable 1 = .ok (.getfield 254, 3) := by decide +kernel
theorem dX3_isAvailable_4 : decode cX3_isAvailable 4 = .ok (.ifCond .eq 5, 3) := by decide +kernel
theorem dX3_isAvailable_7 : decode cX3_isAvailable 7 = .ok (.iconst 0, 1) := by decide +kernel
theorem dX3_isAvailable_8 : decode cX3_isAvailable 8 = .ok (.ireturn, 1) := by decide +kernel
theorem dX3_isAvailable_9 : decode cX3_isAvailable 9 = .ok (.aload_n 1, 1) := by decide +kernel
theorem dX3_isAvailable_10 : decode cX3_isAvailable 10 = .ok (.getfield 257, 3) := by decide +kernel
theorem dX3_isAvailable_13 : decode cX3_isAvailable 13 = .ok (.iconst (-1), 1) := by decide +kernel
theorem dX3_isAvailable_14 : decode cX3_isAvailable 14 = .ok (.if_icmp .eq 16, 3) := by decide +kernel
theorem dX3_isAvailable_17 : decode cX3_isAvailable 17 = .ok (.aload_n 0, 1) := by decide +kernel
theorem dX3_isAvailable_18 : decode cX3_isAvailable 18 = .ok (.getfield 155, 3) := by decide +kernel
theorem dX3_isAvailable_21 : decode cX3_isAvailable 21 = .ok (.aload_n 1, 1) := by decide +kernel
theorem dX3_isAvailable_22 : decode cX3_isAvailable 22 = .ok (.getfield 257, 3) := by decide +kernel
theorem dX3_isAvailable_25 : decode cX3_isAvailable 25 = .ok (.isub, 1) := by decide +kernel
theorem dX3_isAvailable_26 : decode cX3_isAvailable 26 = .ok (.iconst 2, 1) := by decide +kernel
theorem dX3_isAvailable_27 : decode cX3_isAvailable 27 = .ok (.if_icmp .le 7, 3) := by decide +kernel
theorem dX3_isAvailable_30 : decode cX3_isAvailable 30 = .ok (.iconst 1, 1) := by decide +kernel
theorem dX3_isAvailable_31 : decode cX3_isAvailable 31 = .ok (.goto 4, 3) := by decide +kernel
theorem dX3_isAvailable_34 : decode cX3_isAvailable 34 = .ok (.iconst 0, 1) := by decide +kernel
theorem dX3_isAvailable_35 : decode cX3_isAvailable 35 = .ok (.ireturn, 1) := by decide +kernel
theorem dX3_settlePlans_0 : decode cX3_settlePlans 0 = .ok (.iconst 0, 1) := by decide +kernel
theorem dX3_settlePlans_1 : decode cX3_settlePlans 1 = .ok (.istore_n 1, 1) := by decide +kernel
theorem dX3_settlePlans_2 : decode cX3_settlePlans 2 = .ok (.iload_n 1, 1) := by decide +kernel
theorem dX3_settlePlans_3 : decode cX3_settlePlans 3 = .ok (.aload_n 0, 1) := by decide +kernel
theorem dX3_settlePlans_4 : decode cX3_settlePlans 4 = .ok (.getfield 23, 3) := by decide +kernel
theorem dX3_settlePlans_7 : decode cX3_settlePlans 7 = .ok (.invokevirtual 69, 3) := by decide +kernel
theorem dX3_settlePlans_10 : decode cX3_settlePlans 10 = .ok (.if_icmp .ge 58, 3) := by decide +kernel
theorem dX3_settlePlans_13 : decode cX3_settlePlans 13 = .ok (.aload_n 0, 1) := by decide +kernel
theorem dX3_settlePlans_14 : decode cX3_settlePlans 14 = .ok (.aload_n 0, 1) := by decide +kernel
theorem dX3_settlePlans_15 : decode cX3_settlePlans 15 = .ok (.getfield 23, 3) := by decide +kernel
theorem dX3_settlePlans_18 : decode cX3_settlePlans 18 = .ok (.iload_n 1, 1) := by decide +kernel
theorem dX3_settlePlans_19 : decode cX3_settlePlans 19 = .ok (.invokevirtual 132, 3) := by decide +kernel
theorem dX3_settlePlans_22 : decode cX3_settlePlans 22 = .ok (.checkcast 168, 3) := by decide +kernel
theorem dX3_settlePlans_25 : decode cX3_settlePlans 25 = .ok (.invokevirtual 194, 3) := by decide +kernel
theorem dX3_settlePlans_28 : decode cX3_settlePlans 28 = .ok (.ifCond .eq 20, 3) := by decide +kernel
theorem dX3_settlePlans_31 : decode cX3_settlePlans 31 = .ok (.aload_n 0, 1) := by decide +kernel
theorem dX3_settlePlans_32 : decode cX3_settlePlans 32 = .ok (.getfield 23, 3) := by decide +kernel
theorem dX3_settlePlans_35 : decode cX3_settlePlans 35 = .ok (.iload_n 1, 1) := by decide +kernel
theorem dX3_settlePlans_36 : decode cX3_settlePlans 36 = .ok (.invokevirtual 132, 3) := by decide +kernel
theorem dX3_settlePlans_39 : decode cX3_settlePlans 39 = .ok (.checkcast 168, 3) := by decide +kernel
theorem dX3_settlePlans_42 : decode cX3_settlePlans 42 = .ok (.invokestatic 324, 3) := by decide +kernel
theorem dX3_settlePlans_45 : decode cX3_settlePlans 45 = .ok (.goto 17, 3) := by decide +kernel
theorem dX3_settlePlans_48 : decode cX3_settlePlans 48 = .ok (.aload_n 0, 1) := by decide +kernel
theorem dX3_settlePlans_49 : decode cX3_settlePlans 49 = .ok (.getfield 23, 3) := by decide +kernel
theorem dX3_settlePlans_52 : decode cX3_settlePlans 52 = .ok (.iload_n 1, 1) := by decide +kernel
theorem dX3_settlePlans_53 : decode cX3_settlePlans 53 = .ok (.invokevirtual 132, 3) := by decide +kernel
theorem dX3_settlePlans_56 : decode cX3_settlePlans 56 = .ok (.checkcast 168, 3) := by decide +kernel
theorem dX3_settlePlans_59 : decode cX3_settlePlans 59 = .ok (.invokestatic 327, 3) := by decide +kernel
theorem dX3_settlePlans_62 : decode cX3_settlePlans 62 = .ok (.iinc 1 1, 3) := by decide +kernel
theorem dX3_settlePlans_65 : decode cX3_settlePlans 65 = .ok (.goto (-63), 3) := by decide +kernel
theorem dX3_settlePlans_68 : decode cX3_settlePlans 68 = .ok (.iconst 0, 1) := by decide +kernel
theorem dX3_settlePlans_69 : decode cX3_settlePlans 69 = .ok (.istore_n 1, 1) := by decide +kernel
theorem dX3_settlePlans_70 : decode cX3_settlePlans 70 = .ok (.iload_n 1, 1) := by decide +kernel
theorem dX3_settlePlans_71 : decode cX3_settlePlans 71 = .ok (.aload_n 0, 1) := by decide +kernel
theorem dX3_settlePlans_72 : decode cX3_settlePlans 72 = .ok (.getfield 23, 3) := by decide +kernel
theorem dX3_settlePlans_75 : decode cX3_settlePlans 75 = .ok (.invokevirtual 69, 3) := by decide +kernel
theorem dX3_settlePlans_78 : decode cX3_settlePlans 78 = .ok (.if_icmp .ge 42, 3) := by decide +kernel
theorem dX3_settlePlans_81 : decode cX3_settlePlans 81 = .ok (.aload_n 0, 1) := by decide +kernel
theorem dX3_settlePlans_82 : decode cX3_settlePlans 82 = .ok (.aload_n 0, 1) := by decide +kernel
theorem dX3_settlePlans_83 : decode cX3_settlePlans 83 = .ok (.getfield 23, 3) := by decide +kernel
theorem dX3_settlePlans_86 : decode cX3_settlePlans 86 = .ok (.iload_n 1, 1) := by decide +kernel
theorem dX3_settlePlans_87 : decode cX3_settlePlans 87 = .ok (.invokevirtual 132, 3) := by decide +kernel
theorem dX3_settlePlans_90 : decode cX3_settlePlans 90 = .ok (.checkcast 168, 3) := by decide +kernel
theorem dX3_settlePlans_93 : decode cX3_settlePlans 93 = .ok (.invokevirtual 194, 3) := by decide +kernel
theorem dX3_settlePlans_96 : decode cX3_settlePlans 96 = .ok (.ifCond .eq 18, 3) := by decide +kernel
theorem dX3_settlePlans_99 : decode cX3_settlePlans 99 = .ok (.aload_n 0, 1) := by decide +kernel
theorem dX3_settlePlans_100 : decode cX3_settlePlans 100 = .ok (.aload_n 0, 1) := by decide +kernel
theorem dX3_settlePlans_101 : decode cX3_settlePlans 101 = .ok (.getfield 23, 3) := by decide +kernel
theorem dX3_settlePlans_104 : decode cX3_settlePlans 104 = .ok (.iload_n 1, 1) := by decide +kernel
theorem dX3_settlePlans_105 : decode cX3_settlePlans 105 = .ok (.invokevirtual 132, 3) := by decide +kernel
theorem dX3_settlePlans_108 : decode cX3_settlePlans 108 = .ok (.checkcast 168, 3) := by decide +kernel
theorem dX3_settlePlans_111 : decode cX3_settlePlans 111 = .ok (.invokevirtual 330, 3) := by decide +kernel
theorem dX3_settlePlans_114 : decode cX3_settlePlans 114 = .ok (.iinc 1 1, 3) := by decide +kernel
theorem dX3_settlePlans_117 : decode cX3_settlePlans 117 = .ok (.goto (-47), 3) := by decide +kernel
theorem dX3_settlePlans_120 : decode cX3_settlePlans 120 = .ok (.return_, 1) := by decide +kernel
theorem dX3_letGoUnfit_0 : decode cX3_letGoUnfit 0 = .ok (.aload_n 0, 1) := by decide +kernel
theorem dX3_letGoUnfit_1 : decode cX3_letGoUnfit 1 = .ok (.getfield 183, 3) := by decide +kernel
theorem dX3_letGoUnfit_4 : decode cX3_letGoUnfit 4 = .ok (.invokevirtual 69, 3) := by decide +kernel
theorem dX3_letGoUnfit_7 : decode cX3_letGoUnfit 7 = .ok (.iconst 1, 1) := by decide +kernel
theorem dX3_letGoUnfit_8 : decode cX3_letGoUnfit 8 = .ok (.isub, 1) := by decide +kernel
theorem dX3_letGoUnfit_9 : decode cX3_letGoUnfit 9 = .ok (.istore_n 1, 1) := by decide +kernel
theorem dX3_letGoUnfit_10 : decode cX3_letGoUnfit 10 = .ok (.iload_n 1, 1) := by decide +kernel
theorem dX3_letGoUnfit_11 : decode cX3_letGoUnfit 11 = .ok (.ifCond .lt 32, 3) := by decide +kernel
theorem dX3_letGoUnfit_14 : decode cX3_letGoUnfit 14 = .ok (.aload_n 0, 1) := by decide +kernel
theorem dX3_letGoUnfit_15 : decode cX3_letGoUnfit 15 = .ok (.iload_n 1, 1) := by decide +kernel
theorem dX3_letGoUnfit_16 : decode cX3_letGoUnfit 16 = .ok (.invokestatic 333, 3) := by decide +kernel
theorem dX3_letGoUnfit_19 : decode cX3_letGoUnfit 19 = .ok (.ifCond .ne 18, 3) := by decide +kernel
theorem dX3_letGoUnfit_22 : decode cX3_letGoUnfit 22 = .ok (.aload_n 0, 1) := by decide +kernel
theorem dX3_letGoUnfit_23 : decode cX3_letGoUnfit 23 = .ok (.getfield 183, 3) := by decide +kernel
theorem dX3_letGoUnfit_26 : decode cX3_letGoUnfit 26 = .ok (.iload_n 1, 1) := by decide +kernel
theorem dX3_letGoUnfit_27 : decode cX3_letGoUnfit 27 = .ok (.invokevirtual 337, 3) := by decide +kernel
theorem dX3_letGoUnfit_30 : decode cX3_letGoUnfit 30 = .ok (.checkcast 75, 3) := by decide +kernel
theorem dX3_letGoUnfit_33 : decode cX3_letGoUnfit 33 = .ok (.iconst 0, 1) := by decide +kernel
theorem dX3_letGoUnfit_34 : decode cX3_letGoUnfit 34 = .ok (.putfield 254, 3) := by decide +kernel
theorem dX3_letGoUnfit_37 : decode cX3_letGoUnfit 37 = .ok (.iinc 1 (-1), 3) := by decide +kernel
theorem dX3_letGoUnfit_40 : decode cX3_letGoUnfit 40 = .ok (.goto (-30), 3) := by decide +kernel
theorem dX3_letGoUnfit_43 : decode cX3_letGoUnfit 43 = .ok (.return_, 1) := by decide +kernel
theorem dX3_isFit_0 : decode cX3_isFit 0 = .ok (.aload_n 0, 1) := by decide +kernel
theorem dX3_isFit_1 : decode cX3_isFit 1 = .ok (.getfield 183, 3) := by decide +kernel
theorem dX3_isFit_4 : decode cX3_isFit 4 = .ok (.iload_n 1, 1) := by decide +kernel
theorem dX3_isFit_5 : decode cX3_isFit 5 = .ok (.invokestatic 190, 3) := by decide +kernel
theorem dX3_isFit_8 : decode cX3_isFit 8 = .ok (.astore_n 2, 1) := by decide +kernel
theorem dX3_isFit_9 : decode cX3_isFit 9 = .ok (.aload_n 2, 1) := by decide +kernel
theorem dX3_isFit_10 : decode cX3_isFit 10 = .ok (.invokevirtual 122, 3) := by decide +kernel
theorem dX3_isFit_13 : decode cX3_isFit 13 = .ok (.aload_n 0, 1) := by decide +kernel
theorem dX3_isFit_14 : decode cX3_isFit 14 = .ok (.getfield 340, 3) := by decide +kernel
theorem dX3_isFit_17 : decode cX3_isFit 17 = .ok (.if_icmp .ne 19, 3) := by decide +kernel
theorem dX3_isFit_20 : decode cX3_isFit 20 = .ok (.aload_n 0, 1) := by decide +kernel
theorem dX3_isFit_21 : decode cX3_isFit 21 = .ok (.getfield 183, 3) := by decide +kernel
theorem dX3_isFit_24 : decode cX3_isFit 24 = .ok (.iload_n 1, 1) := by decide +kernel
theorem dX3_isFit_25 : decode cX3_isFit 25 = .ok (.aload_n 2, 1) := by decide +kernel
theorem dX3_isFit_26 : decode cX3_isFit 26 = .ok (.invokestatic 343, 3) := by decide +kernel
theorem dX3_isFit_29 : decode cX3_isFit 29 = .ok (.ifCond .ne 7, 3) := by decide +kernel
theorem dX3_isFit_32 : decode cX3_isFit 32 = .ok (.iconst 1, 1) := by decide +kernel
theorem dX3_isFit_33 : decode cX3_isFit 33 = .ok (.goto 4, 3) := by decide +kernel
theorem dX3_isFit_36 : decode cX3_isFit 36 = .ok (.iconst 0, 1) := by decide +kernel
theorem dX3_isFit_37 : decode cX3_isFit 37 = .ok (.ireturn, 1) := by decide +kernel
theorem dX3_letGoAll_0 : decode cX3_letGoAll 0 = .ok (.iconst 0, 1) := by decide +kernel
theorem dX3_letGoAll_1 : decode cX3_letGoAll 1 = .ok (.istore_n 1, 1) := by decide +kernel
theorem dX3_letGoAll_2 : decode cX3_letGoAll 2 = .ok (.iload_n 1, 1) := by decide +kernel
theorem dX3_letGoAll_3 : decode cX3_letGoAll 3 = .ok (.aload_n 0, 1) := by decide +kernel
theorem dX3_letGoAll_4 : decode cX3_letGoAll 4 = .ok (.getfield 183, 3) := by decide +kernel
theorem dX3_letGoAll_7 : decode cX3_letGoAll 7 = .ok (.invokevirtual 69, 3) := by decide +kernel
theorem dX3_letGoAll_10 : decode cX3_letGoAll 10 = .ok (.if_icmp .ge 24, 3) := by decide +kernel
theorem dX3_letGoAll_13 : decode cX3_letGoAll 13 = .ok (.aload_n 0, 1) := by decide +kernel
theorem dX3_letGoAll_14 : decode cX3_letGoAll 14 = .ok (.getfield 183, 3) := by decide +kernel
theorem dX3_letGoAll_17 : decode cX3_letGoAll 17 = .ok (.iload_n 1, 1) := by decide +kernel
theorem dX3_letGoAll_18 : decode cX3_letGoAll 18 = .ok (.invokevirtual 132, 3) := by decide +kernel
theorem dX3_letGoAll_21 : decode cX3_letGoAll 21 = .ok (.checkcast 75, 3) := by decide +kernel
theorem dX3_letGoAll_24 : decode cX3_letGoAll 24 = .ok (.iconst 0, 1) := by decide +kernel
theorem dX3_letGoAll_25 : decode cX3_letGoAll 25 = .ok (.putfield 254, 3) := by decide +kernel
theorem dX3_letGoAll_28 : decode cX3_letGoAll 28 = .ok (.iinc 1 1, 3) := by decide +kernel
theorem dX3_letGoAll_31 : decode cX3_letGoAll 31 = .ok (.goto (-29), 3) := by decide +kernel
theorem dX3_letGoAll_34 : decode cX3_letGoAll 34 = .ok (.aload_n 0, 1) := by decide +kernel
theorem dX3_letGoAll_35 : decode cX3_letGoAll 35 = .ok (.getfield 183, 3) := by decide +kernel
theorem dX3_letGoAll_38 : decode cX3_letGoAll 38 = .ok (.invokevirtual 129, 3) := by decide +kernel
theorem dX3_letGoAll_41 : decode cX3_letGoAll 41 = .ok (.return_, 1) := by decide +kernel
theorem dX3_close_0 : decode cX3_close 0 = .ok (.aload_n 0, 1) := by decide +kernel
theorem dX3_close_1 : decode cX3_close 1 = .ok (.invokestatic 327, 3) := by decide +kernel
theorem dX3_close_4 : decode cX3_close 4 = .ok (.aload_n 0, 1) := by decide +kernel
theorem dX3_close_5 : decode cX3_close 5 = .ok (.iconst 1, 1) := by decide +kernel
theorem dX3_close_6 : decode cX3_close 6 = .ok (.putfield 177, 3) := by decide +kernel
theorem dX3_close_9 : decode cX3_close 9 = .ok (.return_, 1) := by decide +kernel
theorem dX3_fill_0 : decode cX3_fill 0 = .ok (.iconst 0, 1) := by decide +kernel
theorem dX3_fill_1 : decode cX3_fill 1 = .ok (.istore_n 2, 1) := by decide +kernel
theorem dX3_fill_2 : decode cX3_fill 2 = .ok (.iload_n 2, 1) := by decide +kernel
theorem dX3_fill_3 : decode cX3_fill 3 = .ok (.aload_n 0, 1) := by decide +kernel
theorem dX3_fill_4 : decode cX3_fill 4 = .ok (.getfield 16, 3) := by decide +kernel
theorem dX3_fill_7 : decode cX3_fill 7 = .ok (.invokevirtual 69, 3) := by decide +kernel
theorem dX3_fill_10 : decode cX3_fill 10 = .ok (.if_icmp .ge 58, 3) := by decide +kernel
theorem dX3_fill_13 : decode cX3_fill 13 = .ok (.aload_n 1, 1) := by decide +kernel
theorem dX3_fill_14 : decode cX3_fill 14 = .ok (.invokevirtual 198, 3) := by decide +kernel
theorem dX3_fill_17 : decode cX3_fill 17 = .ok (.ifCond .le 51, 3) := by decide +kernel
theorem dX3_fill_20 : decode cX3_fill 20 = .ok (.aload_n 0, 1) := by decide +kernel
theorem dX3_fill_21 : decode cX3_fill 21 = .ok (.getfield 16, 3) := by decide +kernel
theorem dX3_fill_24 : decode cX3_fill 24 = .ok (.iload_n 2, 1) := by decide +kernel
theorem dX3_fill_25 : decode cX3_fill 25 = .ok (.invokevirtual 132, 3) := by decide +kernel
theorem dX3_fill_28 : decode cX3_fill 28 = .ok (.checkcast 75, 3) := by decide +kernel
theorem dX3_fill_31 : decode cX3_fill 31 = .ok (.astore_n 3, 1) := by decide +kernel
theorem dX3_fill_32 : decode cX3_fill 32 = .ok (.aload_n 0, 1) := by decide +kernel
theorem dX3_fill_33 : decode cX3_fill 33 = .ok (.aload_n 3, 1) := by decide +kernel
theorem dX3_fill_34 : decode cX3_fill 34 = .ok (.aload_n 1, 1) := by decide +kernel
theorem dX3_fill_35 : decode cX3_fill 35 = .ok (.getfield 340, 3) := by decide +kernel
theorem dX3_fill_38 : decode cX3_fill 38 = .ok (.aload_n 1, 1) := by decide +kernel
theorem dX3_fill_39 : decode cX3_fill 39 = .ok (.getfield 183, 3) := by decide +kernel
theorem dX3_fill_42 : decode cX3_fill 42 = .ok (.invokevirtual 347, 3) := by decide +kernel
theorem dX3_fill_45 : decode cX3_fill 45 = .ok (.ifCond .eq 17, 3) := by decide +kernel
theorem dX3_fill_48 : decode cX3_fill 48 = .ok (.aload_n 1, 1) := by decide +kernel
theorem dX3_fill_49 : decode cX3_fill 49 = .ok (.getfield 183, 3) := by decide +kernel
theorem dX3_fill_52 : decode cX3_fill 52 = .ok (.aload_n 3, 1) := by decide +kernel
theorem dX3_fill_53 : decode cX3_fill 53 = .ok (.invokevirtual 86, 3) := by decide +kernel
theorem dX3_fill_56 : decode cX3_fill 56 = .ok (.pop, 1) := by decide +kernel
theorem dX3_fill_57 : decode cX3_fill 57 = .ok (.aload_n 3, 1) := by decide +kernel
theorem dX3_fill_58 : decode cX3_fill 58 = .ok (.iconst 1, 1) := by decide +kernel
theorem dX3_fill_59 : decode cX3_fill 59 = .ok (.putfield 254, 3) := by decide +kernel
theorem dX3_fill_62 : decode cX3_fill 62 = .ok (.iinc 2 1, 3) := by decide +kernel
theorem dX3_fill_65 : decode cX3_fill 65 = .ok (.goto (-63), 3) := by decide +kernel
theorem dX3_fill_68 : decode cX3_fill 68 = .ok (.return_, 1) := by decide +kernel
theorem dX3_isCandidate_0 : decode cX3_isCandidate 0 = .ok (.aload_n 1, 1) := by decide +kernel
theorem dX3_isCandidate_1 : decode cX3_isCandidate 1 = .ok (.invokevirtual 122, 3) := by decide +kernel
theorem dX3_isCandidate_4 : decode cX3_isCandidate 4 = .ok (.iload_n 2, 1) := by decide +kernel
theorem dX3_isCandidate_5 : decode cX3_isCandidate 5 = .ok (.if_icmp .ne 27, 3) := by decide +kernel
theorem dX3_isCandidate_8 : decode cX3_isCandidate 8 = .ok (.aload_n 0, 1) := by decide +kernel
theorem dX3_isCandidate_9 : decode cX3_isCandidate 9 = .ok (.aload_n 1, 1) := by decide +kernel
theorem dX3_isCandidate_10 : decode cX3_isCandidate 10 = .ok (.invokevirtual 201, 3) := by decide +kernel
theorem dX3_isCandidate_13 : decode cX3_isCandidate 13 = .ok (.ifCond .eq 19, 3) := by decide +kernel
theorem dX3_isCandidate_16 : decode cX3_isCandidate 16 = .ok (.aload_n 3, 1) := by decide +kernel
theorem dX3_isCandidate_17 : decode cX3_isCandidate 17 = .ok (.aload_n 3, 1) := by decide +kernel
theorem dX3_isCandidate_18 : decode cX3_isCandidate 18 = .ok (.invokevirtual 69, 3) := by decide +kernel
theorem dX3_isCandidate_21 : decode cX3_isCandidate 21 = .ok (.aload_n 1, 1) := by decide +kernel
theorem dX3_isCandidate_22 : decode cX3_isCandidate 22 = .ok (.invokestatic 343, 3) := by decide +kernel
theorem dX3_isCandidate_25 : decode cX3_isCandidate 25 = .ok (.ifCond .ne 7, 3) := by decide +kernel
theorem dX3_isCandidate_28 : decode cX3_isCandidate 28 = .ok (.iconst 1, 1) := by decide +kernel
theorem dX3_isCandidate_29 : decode cX3_isCandidate 29 = .ok (.goto 4, 3) := by decide +kernel
theorem dX3_isCandidate_32 : decode cX3_isCandidate 32 = .ok (.iconst 0, 1) := by decide +kernel
theorem dX3_isCandidate_33 : decode cX3_isCandidate 33 = .ok (.ireturn, 1) := by decide +kernel
theorem dX3_drawQuestions_0 : decode cX3_drawQuestions 0 = .ok (.aload_n 0, 1) := by decide +kernel
theorem dX3_drawQuestions_1 : decode cX3_drawQuestions 1 = .ok (.getfield 29, 3) := by decide +kernel
theorem dX3_drawQuestions_4 : decode cX3_drawQuestions 4 = .ok (.invokevirtual 129, 3) := by decide +kernel
theorem dX3_drawQuestions_7 : decode cX3_drawQuestions 7 = .ok (.iload_n 1, 1) := by decide +kernel
theorem dX3_drawQuestions_8 : decode cX3_drawQuestions 8 = .ok (.istore 5, 2) := by decide +kernel
theorem dX3_drawQuestions_10 : decode cX3_drawQuestions 10 = .ok (.iconst 0, 1) := by decide +kernel
theorem dX3_drawQuestions_11 : decode cX3_drawQuestions 11 = .ok (.istore 6, 2) := by decide +kernel
theorem dX3_drawQuestions_13 : decode cX3_drawQuestions 13 = .ok (.iload 6, 2) := by decide +kernel
theorem dX3_drawQuestions_15 : decode cX3_drawQuestions 15 = .ok (.iload_n 2, 1) := by decide +kernel
theorem dX3_drawQuestions_16 : decode cX3_drawQuestions 16 = .ok (.iload_n 3, 1) := by decide +kernel
theorem dX3_drawQuestions_17 : decode cX3_drawQuestions 17 = .ok (.iadd, 1) := by decide +kernel
theorem dX3_drawQuestions_18 : decode cX3_drawQuestions 18 = .ok (.iload 4, 2) := by decide +kernel
theorem dX3_drawQuestions_20 : decode cX3_drawQuestions 20 = .ok (.iadd, 1) := by decide +kernel
theorem dX3_drawQuestions_21 : decode cX3_drawQuestions 21 = .ok (.if_icmp .ge 89, 3) := by decide +kernel
theorem dX3_drawQuestions_24 : decode cX3_drawQuestions 24 = .ok (.aload_n 0, 1) := by decide +kernel
theorem dX3_drawQuestions_25 : decode cX3_drawQuestions 25 = .ok (.iload 6, 2) := by decide +kernel
theorem dX3_drawQuestions_27 : decode cX3_drawQuestions 27 = .ok (.iload_n 2, 1) := by decide +kernel
theorem dX3_drawQuestions_28 : decode cX3_drawQuestions 28 = .ok (.if_icmp .ge 8, 3) := by decide +kernel
theorem dX3_drawQuestions_31 : decode cX3_drawQuestions 31 = .ok (.bipush 101, 2) := by decide +kernel
theorem dX3_drawQuestions_33 : decode cX3_drawQuestions 33 = .ok (.goto 18, 3) := by decide +kernel
theorem dX3_drawQuestions_36 : decode cX3_drawQuestions 36 = .ok (.iload 6, 2) := by decide +kernel
theorem dX3_drawQuestions_38 : decode cX3_drawQuestions 38 = .ok (.iload_n 2, 1) := by decide +kernel
theorem dX3_drawQuestions_39 : decode cX3_drawQuestions 39 = .ok (.iload_n 3, 1) := by decide +kernel
theorem dX3_drawQuestions_40 : decode cX3_drawQuestions 40 = .ok (.iadd, 1) := by decide +kernel
theorem dX3_drawQuestions_41 : decode cX3_drawQuestions 41 = .ok (.if_icmp .ge 8, 3) := by decide +kernel
theorem dX3_drawQuestions_44 : decode cX3_drawQuestions 44 = .ok (.bipush 109, 2) := by decide +kernel
theorem dX3_drawQuestions_46 : decode cX3_drawQuestions 46 = .ok (.goto 5, 3) := by decide +kernel
theorem dX3_drawQuestions_49 : decode cX3_drawQuestions 49 = .ok (.bipush 104, 2) := by decide +kernel
theorem dX3_drawQuestions_51 : decode cX3_drawQuestions 51 = .ok (.invokevirtual 351, 3) := by decide +kernel
theorem dX3_drawQuestions_54 : decode cX3_drawQuestions 54 = .ok (.aload_n 0, 1) := by decide +kernel
theorem dX3_drawQuestions_55 : decode cX3_drawQuestions 55 = .ok (.getfield 32, 3) := by decide +kernel
theorem dX3_drawQuestions_58 : decode cX3_drawQuestions 58 = .ok (.invokevirtual 69, 3) := by decide +kernel
theorem dX3_drawQuestions_61 : decode cX3_drawQuestions 61 = .ok (.istore 7, 2) := by decide +kernel
theorem dX3_drawQuestions_63 : decode cX3_drawQuestions 63 = .ok (.iload 7, 2) := by decide +kernel
theorem dX3_drawQuestions_65 : decode cX3_drawQuestions 65 = .ok (.ifCond .ne 5, 3) := by decide +kernel
theorem dX3_drawQuestions_68 : decode cX3_drawQuestions 68 = .ok (.iconst 0, 1) := by decide +kernel
theorem dX3_drawQuestions_69 : decode cX3_drawQuestions 69 = .ok (.ireturn, 1) := by decide +kernel
theorem dX3_drawQuestions_70 : decode cX3_drawQuestions 70 = .ok (.aload_n 0, 1) := by decide +kernel
theorem dX3_drawQuestions_71 : decode cX3_drawQuestions 71 = .ok (.getfield 29, 3) := by decide +kernel
theorem dX3_drawQuestions_74 : decode cX3_drawQuestions 74 = .ok (.aload_n 0, 1) := by decide +kernel
theorem dX3_drawQuestions_75 : decode cX3_drawQuestions 75 = .ok (.getfield 32, 3) := by decide +kernel
theorem dX3_drawQuestions_78 : decode cX3_drawQuestions 78 = .ok (.iload 5, 2) := by decide +kernel
theorem dX3_drawQuestions_80 : decode cX3_drawQuestions 80 = .ok (.iload 7, 2) := by decide +kernel
theorem dX3_drawQuestions_82 : decode cX3_drawQuestions 82 = .ok (.invokestatic 355, 3) := by decide +kernel
theorem dX3_drawQuestions_85 : decode cX3_drawQuestions 85 = .ok (.invokestatic 190, 3) := by decide +kernel
theorem dX3_drawQuestions_88 : decode cX3_drawQuestions 88 = .ok (.invokevirtual 86, 3) := by decide +kernel
theorem dX3_drawQuestions_91 : decode cX3_drawQuestions 91 = .ok (.pop, 1) := by decide +kernel
theorem dX3_drawQuestions_92 : decode cX3_drawQuestions 92 = .ok (.iload 5, 2) := by decide +kernel
theorem dX3_drawQuestions_94 : decode cX3_drawQuestions 94 = .ok (.iconst 5, 1) := by decide +kernel
theorem dX3_drawQuestions_95 : decode cX3_drawQuestions 95 = .ok (.imul, 1) := by decide +kernel
theorem dX3_drawQuestions_96 : decode cX3_drawQuestions 96 = .ok (.iconst 3, 1) := by decide +kernel
theorem dX3_drawQuestions_97 : decode cX3_drawQuestions 97 = .ok (.iadd, 1) := by decide +kernel
theorem dX3_drawQuestions_98 : decode cX3_drawQuestions 98 = .ok (.sipush 1009, 3) := by decide +kernel
theorem dX3_drawQuestions_101 : decode cX3_drawQuestions 101 = .ok (.irem, 1) := by decide +kernel
theorem dX3_drawQuestions_102 : decode cX3_drawQuestions 102 = .ok (.istore 5, 2) := by decide +kernel
theorem dX3_drawQuestions_104 : decode cX3_drawQuestions 104 = .ok (.iinc 6 1, 3) := by decide +kernel
theorem dX3_drawQuestions_107 : decode cX3_drawQuestions 107 = .ok (.goto (-94), 3) := by decide +kernel
theorem dX3_drawQuestions_110 : decode cX3_drawQuestions 110 = .ok (.iconst 1, 1) := by decide +kernel
theorem dX3_drawQuestions_111 : decode cX3_drawQuestions 111 = .ok (.ireturn, 1) := by decide +kernel
theorem dX3_gatherCandidates_0 : decode cX3_gatherCandidates 0 = .ok (.aload_n 0, 1) := by decide +kernel
theorem dX3_gatherCandidates_1 : decode cX3_gatherCandidates 1 = .ok (.getfield 32, 3) := by decide +kernel
theorem dX3_gatherCandidates_4 : decode cX3_gatherCandidates 4 = .ok (.invokevirtual 129, 3) := by decide +kernel
theorem dX3_gatherCandidates_7 : decode cX3_gatherCandidates 7 = .ok (.iconst 0, 1) := by decide +kernel
theorem dX3_gatherCandidates_8 : decode cX3_gatherCandidates 8 = .ok (.istore_n 2, 1) := by decide +kernel
theorem dX3_gatherCandidates_9 : decode cX3_gatherCandidates 9 = .ok (.iload_n 2, 1) := by decide +kernel
theorem dX3_gatherCandidates_10 : decode cX3_gatherCandidates 10 = .ok (.aload_n 0, 1) := by decide +kernel
theorem dX3_gatherCandidates_11 : decode cX3_gatherCandidates 11 = .ok (.getfield 16, 3) := by decide +kernel
theorem dX3_gatherCandidates_14 : decode cX3_gatherCandidates 14 = .ok (.invokevirtual 69, 3) := by decide +kernel
theorem dX3_gatherCandidates_17 : decode cX3_gatherCandidates 17 = .ok (.if_icmp .ge 51, 3) := by decide +kernel
theorem dX3_gatherCandidates_20 : decode cX3_gatherCandidates 20 = .ok (.aload_n 0, 1) := by decide +kernel
theorem dX3_gatherCandidates_21 : decode cX3_gatherCandidates 21 = .ok (.aload_n 0, 1) := by decide +kernel
theorem dX3_gatherCandidates_22 : decode cX3_gatherCandidates 22 = .ok (.getfield 16, 3) := by decide +kernel
theorem dX3_gatherCandidates_25 : decode cX3_gatherCandidates 25 = .ok (.iload_n 2, 1) := by decide +kernel
theorem dX3_gatherCandidates_26 : decode cX3_gatherCandidates 26 = .ok (.invokevirtual 132, 3) := by decide +kernel
theorem dX3_gatherCandidates_29 : decode cX3_gatherCandidates 29 = .ok (.checkcast 75, 3) := by decide +kernel
theorem dX3_gatherCandidates_32 : decode cX3_gatherCandidates 32 = .ok (.iload_n 1, 1) := by decide +kernel
theorem dX3_gatherCandidates_33 : decode cX3_gatherCandidates 33 = .ok (.aload_n 0, 1) := by decide +kernel
theorem dX3_gatherCandidates_34 : decode cX3_gatherCandidates 34 = .ok (.getfield 29, 3) := by decide +kernel
theorem dX3_gatherCandidates_37 : decode cX3_gatherCandidates 37 = .ok (.invokevirtual 347, 3) := by decide +kernel
theorem dX3_gatherCandidates_40 : decode cX3_gatherCandidates 40 = .ok (.ifCond .eq 22, 3) := by decide +kernel
theorem dX3_gatherCandidates_43 : decode cX3_gatherCandidates 43 = .ok (.aload_n 0, 1) := by decide +kernel
theorem dX3_gatherCandidates_44 : decode cX3_gatherCandidates 44 = .ok (.getfield 32, 3) := by decide +kernel
theorem dX3_gatherCandidates_47 : decode cX3_gatherCandidates 47 = .ok (.aload_n 0, 1) := by decide +kernel
theorem dX3_gatherCandidates_48 : decode cX3_gatherCandidates 48 = .ok (.getfield 16, 3) := by decide +kernel
theorem dX3_gatherCandidates_51 : decode cX3_gatherCandidates 51 = .ok (.iload_n 2, 1) := by decide +kernel
theorem dX3_gatherCandidates_52 : decode cX3_gatherCandidates 52 = .ok (.invokevirtual 132, 3) := by decide +kernel
theorem dX3_gatherCandidates_55 : decode cX3_gatherCandidates 55 = .ok (.checkcast 75, 3) := by decide +kernel
theorem dX3_gatherCandidates_58 : decode cX3_gatherCandidates 58 = .ok (.invokevirtual 86, 3) := by decide +kernel
theorem dX3_gatherCandidates_61 : decode cX3_gatherCandidates 61 = .ok (.pop, 1) := by decide +kernel
theorem dX3_gatherCandidates_62 : decode cX3_gatherCandidates 62 = .ok (.iinc 2 1, 3) := by decide +kernel
theorem dX3_gatherCandidates_65 : decode cX3_gatherCandidates 65 = .ok (.goto (-56), 3) := by decide +kernel
theorem dX3_gatherCandidates_68 : decode cX3_gatherCandidates 68 = .ok (.return_, 1) := by decide +kernel
theorem dX3_spool_0 : decode cX3_spool 0 = .ok (.iconst 0, 1) := by decide +kernel
theorem dX3_spool_1 : decode cX3_spool 1 = .ok (.istore_n 2, 1) := by decide +kernel
theorem dX3_spool_2 : decode cX3_spool 2 = .ok (.iload_n 2, 1) := by decide +kernel
theorem dX3_spool_3 : decode cX3_spool 3 = .ok (.aload_n 1, 1) := by decide +kernel
theorem dX3_spool_4 : decode cX3_spool 4 = .ok (.getfield 239, 3) := by decide +kernel
theorem dX3_spool_7 : decode cX3_spool 7 = .ok (.invokevirtual 69, 3) := by decide +kernel
theorem dX3_spool_10 : decode cX3_spool 10 = .ok (.if_icmp .ge 24, 3) := by decide +kernel
theorem dX3_spool_13 : decode cX3_spool 13 = .ok (.aload_n 1, 1) := by decide +kernel
theorem dX3_spool_14 : decode cX3_spool 14 = .ok (.getfield 239, 3) := by decide +kernel
theorem dX3_spool_17 : decode cX3_spool 17 = .ok (.iload_n 2, 1) := by decide +kernel
theorem dX3_spool_18 : decode cX3_spool 18 = .ok (.invokevirtual 132, 3) := by decide +kernel
theorem dX3_spool_21 : decode cX3_spool 21 = .ok (.checkcast 75, 3) := by decide +kernel
theorem dX3_spool_24 : decode cX3_spool 24 = .ok (.iconst 1, 1) := by decide +kernel
theorem dX3_spool_25 : decode cX3_spool 25 = .ok (.putfield 254, 3) := by decide +kernel
theorem dX3_spool_28 : decode cX3_spool 28 = .ok (.iinc 2 1, 3) := by decide +kernel
theorem dX3_spool_31 : decode cX3_spool 31 = .ok (.goto (-29), 3) := by decide +kernel
theorem dX3_spool_34 : decode cX3_spool 34 = .ok (.aload_n 0, 1) := by decide +kernel
theorem dX3_spool_35 : decode cX3_spool 35 = .ok (.getfield 26, 3) := by decide +kernel
theorem dX3_spool_38 : decode cX3_spool 38 = .ok (.aload_n 1, 1) := by decide +kernel
theorem dX3_spool_39 : decode cX3_spool 39 = .ok (.invokevirtual 86, 3) := by decide +kernel
theorem dX3_spool_42 : decode cX3_spool 42 = .ok (.pop, 1) := by decide +kernel
theorem dX3_spool_43 : decode cX3_spool 43 = .ok (.aload_n 0, 1) := by decide +kernel
theorem dX3_spool_44 : decode cX3_spool 44 = .ok (.invokevirtual 90, 3) := by decide +kernel
theorem dX3_spool_47 : decode cX3_spool 47 = .ok (.aload_n 0, 1) := by decide +kernel
theorem dX3_spool_48 : decode cX3_spool 48 = .ok (.getfield 26, 3) := by decide +kernel
theorem dX3_spool_51 : decode cX3_spool 51 = .ok (.invokevirtual 69, 3) := by decide +kernel
theorem dX3_spool_54 : decode cX3_spool 54 = .ok (.iconst 1, 1) := by decide +kernel
theorem dX3_spool_55 : decode cX3_spool 55 = .ok (.isub, 1) := by decide +kernel
theorem dX3_spool_56 : decode cX3_spool 56 = .ok (.ireturn, 1) := by decide +kernel
theorem dX3_firstWaiting_0 : decode cX3_firstWaiting 0 = .ok (.iconst 0, 1) := by decide +kernel
theorem dX3_firstWaiting_1 : decode cX3_firstWaiting 1 = .ok (.istore_n 1, 1) := by decide +kernel
theorem dX3_firstWaiting_2 : decode cX3_firstWaiting 2 = .ok (.iload_n 1, 1) := by decide +kernel
theorem dX3_firstWaiting_3 : decode cX3_firstWaiting 3 = .ok (.aload_n 0, 1) := by decide +kernel
theorem dX3_firstWaiting_4 : decode cX3_firstWaiting 4 = .ok (.getfield 26, 3) := by decide +kernel
theorem dX3_firstWaiting_7 : decode cX3_firstWaiting 7 = .ok (.invokevirtual 69, 3) := by decide +kernel
theorem dX3_firstWaiting_10 : decode cX3_firstWaiting 10 = .ok (.if_icmp .ge 30, 3) := by decide +kernel
theorem dX3_firstWaiting_13 : decode cX3_firstWaiting 13 = .ok (.aload_n 0, 1) := by decide +kernel
theorem dX3_firstWaiting_14 : decode cX3_firstWaiting 14 = .ok (.getfield 26, 3) := by decide +kernel
theorem dX3_firstWaiting_17 : decode cX3_firstWaiting 17 = .ok (.iload_n 1, 1) := by decide +kernel
theorem dX3_firstWaiting_18 : decode cX3_firstWaiting 18 = .ok (.invokevirtual 132, 3) := by decide +kernel
theorem dX3_firstWaiting_21 : decode cX3_firstWaiting 21 = .ok (.checkcast 217, 3) := by decide +kernel
theorem dX3_firstWaiting_24 : decode cX3_firstWaiting 24 = .ok (.getfield 240, 3) := by decide +kernel
theorem dX3_firstWaiting_27 : decode cX3_firstWaiting 27 = .ok (.bipush 115, 2) := by decide +kernel
theorem dX3_firstWaiting_29 : decode cX3_firstWaiting 29 = .ok (.if_icmp .ne 5, 3) := by decide +kernel
theorem dX3_firstWaiting_32 : decode cX3_firstWaiting 32 = .ok (.iload_n 1, 1) := by decide +kernel
theorem dX3_firstWaiting_33 : decode cX3_firstWaiting 33 = .ok (.ireturn, 1) := by decide +kernel
theorem dX3_firstWaiting_34 : decode cX3_firstWaiting 34 = .ok (.iinc 1 1, 3) := by decide +kernel
theorem dX3_firstWaiting_37 : decode cX3_firstWaiting 37 = .ok (.goto (-35), 3) := by decide +kernel
theorem dX3_firstWaiting_40 : decode cX3_firstWaiting 40 = .ok (.iconst (-1), 1) := by decide +kernel
theorem dX3_firstWaiting_41 : decode cX3_firstWaiting 41 = .ok (.ireturn, 1) := by decide +kernel
theorem dX3_writeText_0 : decode cX3_writeText 0 = .ok (.aload_n 0, 1) := by decide +kernel
theorem dX3_writeText_1 : decode cX3_writeText 1 = .ok (.getfield 38, 3) := by decide +kernel
theorem dX3_writeText_4 : decode cX3_writeText 4 = .ok (.iconst 0, 1) := by decide +kernel
theorem dX3_writeText_5 : decode cX3_writeText 5 = .ok (.invokevirtual 361, 3) := by decide +kernel
theorem dX3_writeText_8 : decode cX3_writeText 8 = .ok (.aload_n 0, 1) := by decide +kernel
theorem dX3_writeText_9 : decode cX3_writeText 9 = .ok (.getfield 38, 3) := by decide +kernel
theorem dX3_writeText_12 : decode cX3_writeText 12 = .ok (.iload_n 1, 1) := by decide +kernel
theorem dX3_writeText_13 : decode cX3_writeText 13 = .ok (.invokevirtual 365, 3) := by decide +kernel
theorem dX3_writeText_16 : decode cX3_writeText 16 = .ok (.bipush 58, 2) := by decide +kernel
theorem dX3_writeText_18 : decode cX3_writeText 18 = .ok (.invokevirtual 369, 3) := by decide +kernel
theorem dX3_writeText_21 : decode cX3_writeText 21 = .ok (.pop, 1) := by decide +kernel
theorem dX3_writeText_22 : decode cX3_writeText 22 = .ok (.iconst 0, 1) := by decide +kernel
theorem dX3_writeText_23 : decode cX3_writeText 23 = .ok (.istore_n 3, 1) := by decide +kernel
theorem dX3_writeText_24 : decode cX3_writeText 24 = .ok (.iload_n 3, 1) := by decide +kernel
theorem dX3_writeText_25 : decode cX3_writeText 25 = .ok (.aload_n 2, 1) := by decide +kernel
theorem dX3_writeText_26 : decode cX3_writeText 26 = .ok (.getfield 239, 3) := by decide +kernel
theorem dX3_writeText_29 : decode cX3_writeText 29 = .ok (.invokevirtual 69, 3) := by decide +kernel
theorem dX3_writeText_32 : decode cX3_writeText 32 = .ok (.if_icmp .ge 45, 3) := by decide +kernel
theorem dX3_writeText_35 : decode cX3_writeText 35 = .ok (.iload_n 3, 1) := by decide +kernel
theorem dX3_writeText_36 : decode cX3_writeText 36 = .ok (.ifCond .le 13, 3) := by decide +kernel
theorem dX3_writeText_39 : decode cX3_writeText 39 = .ok (.aload_n 0, 1) := by decide +kernel
theorem dX3_writeText_40 : decode cX3_writeText 40 = .ok (.getfield 38, 3) := by decide +kernel
theorem dX3_writeText_43 : decode cX3_writeText 43 = .ok (.bipush 44, 2) := by decide +kernel
theorem dX3_writeText_45 : decode cX3_writeText 45 = .ok (.invokevirtual 369, 3) := by decide +kernel
theorem dX3_writeText_48 : decode cX3_writeText 48 = .ok (.pop, 1) := by decide +kernel
theorem dX3_writeText_49 : decode cX3_writeText 49 = .ok (.aload_n 0, 1) := by decide +kernel
theorem dX3_writeText_50 : decode cX3_writeText 50 = .ok (.getfield 38, 3) := by decide +kernel
theorem dX3_writeText_53 : decode cX3_writeText 53 = .ok (.aload_n 2, 1) := by decide +kernel
theorem dX3_writeText_54 : decode cX3_writeText 54 = .ok (.getfield 239, 3) := by decide +kernel
theorem dX3_writeText_57 : decode cX3_writeText 57 = .ok (.iload_n 3, 1) := by decide +kernel
theorem dX3_writeText_58 : decode cX3_writeText 58 = .ok (.invokevirtual 132, 3) := by decide +kernel
theorem dX3_writeText_61 : decode cX3_writeText 61 = .ok (.checkcast 75, 3) := by decide +kernel
theorem dX3_writeText_64 : decode cX3_writeText 64 = .ok (.getfield 152, 3) := by decide +kernel
theorem dX3_writeText_67 : decode cX3_writeText 67 = .ok (.invokevirtual 365, 3) := by decide +kernel
theorem dX3_writeText_70 : decode cX3_writeText 70 = .ok (.pop, 1) := by decide +kernel
theorem dX3_writeText_71 : decode cX3_writeText 71 = .ok (.iinc 3 1, 3) := by decide +kernel
theorem dX3_writeText_74 : decode cX3_writeText 74 = .ok (.goto (-50), 3) := by decide +kernel
theorem dX3_writeText_77 : decode cX3_writeText 77 = .ok (.return_, 1) := by decide +kernel
theorem dX3_areLevelsAsAnswered_0 : decode cX3_areLevelsAsAnswered 0 = .ok (.iconst 0, 1) := by decide +kernel
theorem dX3_areLevelsAsAnswered_1 : decode cX3_areLevelsAsAnswered 1 = .ok (.istore_n 1, 1) := by decide +kernel
theorem dX3_areLevelsAsAnswered_2 : decode cX3_areLevelsAsAnswered 2 = .ok (.iload_n 1, 1) := by decide +kernel
theorem dX3_areLevelsAsAnswered_3 : decode cX3_areLevelsAsAnswered 3 = .ok (.aload_n 0, 1) := by decide +kernel
theorem dX3_areLevelsAsAnswered_4 : decode cX3_areLevelsAsAnswered 4 = .ok (.getfield 16, 3) := by decide +kernel
theorem dX3_areLevelsAsAnswered_7 : decode cX3_areLevelsAsAnswered 7 = .ok (.invokevirtual 69, 3) := by decide +kernel
theorem dX3_areLevelsAsAnswered_10 : decode cX3_areLevelsAsAnswered 10 = .ok (.if_icmp .ge 42, 3) := by decide +kernel
theorem dX3_areLevelsAsAnswered_13 : decode cX3_areLevelsAsAnswered 13 = .ok (.aload_n 0, 1) := by decide +kernel
theorem dX3_areLevelsAsAnswered_14 : decode cX3_areLevelsAsAnswered 14 = .ok (.getfield 16, 3) := by decide +kernel
theorem dX3_areLevelsAsAnswered_17 : decode cX3_areLevelsAsAnswered 17 = .ok (.iload_n 1, 1) := by decide +kernel
theorem dX3_areLevelsAsAnswered_18 : decode cX3_areLevelsAsAnswered 18 = .ok (.invokevirtual 132, 3) := by decide +kernel
theorem dX3_areLevelsAsAnswered_21 : decode cX3_areLevelsAsAnswered 21 = .ok (.checkcast 75, 3) := by decide +kernel
theorem dX3_areLevelsAsAnswered_24 : decode cX3_areLevelsAsAnswered 24 = .ok (.getfield 116, 3) := by decide +kernel
theorem dX3_areLevelsAsAnswered_27 : decode cX3_areLevelsAsAnswered 27 = .ok (.aload_n 0, 1) := by decide +kernel
theorem dX3_areLevelsAsAnswered_28 : decode cX3_areLevelsAsAnswered 28 = .ok (.getfield 16, 3) := by decide +kernel
theorem dX3_areLevelsAsAnswered_31 : decode cX3_areLevelsAsAnswered 31 = .ok (.iload_n 1, 1) := by decide +kernel
theorem dX3_areLevelsAsAnswered_32 : decode cX3_areLevelsAsAnswered 32 = .ok (.invokevirtual 132, 3) := by decide +kernel
theorem dX3_areLevelsAsAnswered_35 : decode cX3_areLevelsAsAnswered 35 = .ok (.checkcast 75, 3) := by decide +kernel
theorem dX3_areLevelsAsAnswered_38 : decode cX3_areLevelsAsAnswered 38 = .ok (.invokevirtual 119, 3) := by decide +kernel
theorem dX3_areLevelsAsAnswered_41 : decode cX3_areLevelsAsAnswered 41 = .ok (.if_icmp .eq 5, 3) := by decide +kernel
theorem dX3_areLevelsAsAnswered_44 : decode cX3_areLevelsAsAnswered 44 = .ok (.iconst 0, 1) := by decide +kernel
theorem dX3_areLevelsAsAnswered_45 : decode cX3_areLevelsAsAnswered 45 = .ok (.ireturn, 1) := by decide +kernel
theorem dX3_areLevelsAsAnswered_46 : decode cX3_areLevelsAsAnswered 46 = .ok (.iinc 1 1, 3) := by decide +kernel
theorem dX3_areLevelsAsAnswered_49 : decode cX3_areLevelsAsAnswered 49 = .ok (.goto (-47), 3) := by decide +kernel
theorem dX3_areLevelsAsAnswered_52 : decode cX3_areLevelsAsAnswered 52 = .ok (.iconst 1, 1) := by decide +kernel
theorem dX3_areLevelsAsAnswered_53 : decode cX3_areLevelsAsAnswered 53 = .ok (.ireturn, 1) := by decide +kernel
theorem dX3_isNoneHeldTwice_0 : decode cX3_isNoneHeldTwice 0 = .ok (.iconst 0, 1) := by decide +kernel
theorem dX3_isNoneHeldTwice_1 : decode cX3_isNoneHeldTwice 1 = .ok (.istore_n 1, 1) := by decide +kernel
theorem dX3_isNoneHeldTwice_2 : decode cX3_isNoneHeldTwice 2 = .ok (.iload_n 1, 1) := by decide +kernel
theorem dX3_isNoneHeldTwice_3 : decode cX3_isNoneHeldTwice 3 = .ok (.aload_n 0, 1) := by decide +kernel
theorem dX3_isNoneHeldTwice_4 : decode cX3_isNoneHeldTwice 4 = .ok (.getfield 16, 3) := by decide +kernel
theorem dX3_isNoneHeldTwice_7 : decode cX3_isNoneHeldTwice 7 = .ok (.invokevirtual 69, 3) := by decide +kernel
theorem dX3_isNoneHeldTwice_10 : decode cX3_isNoneHeldTwice 10 = .ok (.if_icmp .ge 24, 3) := by decide +kernel
theorem dX3_isNoneHeldTwice_13 : decode cX3_isNoneHeldTwice 13 = .ok (.aload_n 0, 1) := by decide +kernel
theorem dX3_isNoneHeldTwice_14 : decode cX3_isNoneHeldTwice 14 = .ok (.getfield 16, 3) := by decide +kernel
theorem dX3_isNoneHeldTwice_17 : decode cX3_isNoneHeldTwice 17 = .ok (.iload_n 1, 1) := by decide +kernel
theorem dX3_isNoneHeldTwice_18 : decode cX3_isNoneHeldTwice 18 = .ok (.invokevirtual 132, 3) := by decide +kernel
theorem dX3_isNoneHeldTwice_21 : decode cX3_isNoneHeldTwice 21 = .ok (.checkcast 75, 3) := by decide +kernel
theorem dX3_isNoneHeldTwice_24 : decode cX3_isNoneHeldTwice 24 = .ok (.iconst 0, 1) := by decide +kernel
theorem dX3_isNoneHeldTwice_25 : decode cX3_isNoneHeldTwice 25 = .ok (.putfield 372, 3) := by decide +kernel
theorem dX3_isNoneHeldTwice_28 : decode cX3_isNoneHeldTwice 28 = .ok (.iinc 1 1, 3) := by decide +kernel
theorem dX3_isNoneHeldTwice_31 : decode cX3_isNoneHeldTwice 31 = .ok (.goto (-29), 3) := by decide +kernel
theorem dX3_isNoneHeldTwice_34 : decode cX3_isNoneHeldTwice 34 = .ok (.iconst 0, 1) := by decide +kernel
theorem dX3_isNoneHeldTwice_35 : decode cX3_isNoneHeldTwice 35 = .ok (.istore_n 1, 1) := by decide +kernel
theorem dX3_isNoneHeldTwice_36 : decode cX3_isNoneHeldTwice 36 = .ok (.iload_n 1, 1) := by decide +kernel
theorem dX3_isNoneHeldTwice_37 : decode cX3_isNoneHeldTwice 37 = .ok (.aload_n 0, 1) := by decide +kernel
theorem dX3_isNoneHeldTwice_38 : decode cX3_isNoneHeldTwice 38 = .ok (.getfield 23, 3) := by decide +kernel
theorem dX3_isNoneHeldTwice_41 : decode cX3_isNoneHeldTwice 41 = .ok (.invokevirtual 69, 3) := by decide +kernel
theorem dX3_isNoneHeldTwice_44 : decode cX3_isNoneHeldTwice 44 = .ok (.if_icmp .ge 26, 3) := by decide +kernel
theorem dX3_isNoneHeldTwice_47 : decode cX3_isNoneHeldTwice 47 = .ok (.aload_n 0, 1) := by decide +kernel
theorem dX3_isNoneHeldTwice_48 : decode cX3_isNoneHeldTwice 48 = .ok (.getfield 23, 3) := by decide +kernel
theorem dX3_isNoneHeldTwice_51 : decode cX3_isNoneHeldTwice 51 = .ok (.iload_n 1, 1) := by decide +kernel
theorem dX3_isNoneHeldTwice_52 : decode cX3_isNoneHeldTwice 52 = .ok (.invokevirtual 132, 3) := by decide +kernel
theorem dX3_isNoneHeldTwice_55 : decode cX3_isNoneHeldTwice 55 = .ok (.checkcast 168, 3) := by decide +kernel
theorem dX3_isNoneHeldTwice_58 : decode cX3_isNoneHeldTwice 58 = .ok (.getfield 183, 3) := by decide +kernel
theorem dX3_isNoneHeldTwice_61 : decode cX3_isNoneHeldTwice 61 = .ok (.invokestatic 375, 3) := by decide +kernel
theorem dX3_isNoneHeldTwice_64 : decode cX3_isNoneHeldTwice 64 = .ok (.iinc 1 1, 3) := by decide +kernel
theorem dX3_isNoneHeldTwice_67 : decode cX3_isNoneHeldTwice 67 = .ok (.goto (-31), 3) := by decide +kernel
theorem dX3_isNoneHeldTwice_70 : decode cX3_isNoneHeldTwice 70 = .ok (.iconst 0, 1) := by decide +kernel
theorem dX3_isNoneHeldTwice_71 : decode cX3_isNoneHeldTwice 71 = .ok (.istore_n 1, 1) := by decide +kernel
theorem dX3_isNoneHeldTwice_72 : decode cX3_isNoneHeldTwice 72 = .ok (.iload_n 1, 1) := by decide +kernel
theorem dX3_isNoneHeldTwice_73 : decode cX3_isNoneHeldTwice 73 = .ok (.aload_n 0, 1) := by decide +kernel
theorem dX3_isNoneHeldTwice_74 : decode cX3_isNoneHeldTwice 74 = .ok (.getfield 26, 3) := by decide +kernel
theorem dX3_isNoneHeldTwice_77 : decode cX3_isNoneHeldTwice 77 = .ok (.invokevirtual 69, 3) := by decide +kernel
theorem dX3_isNoneHeldTwice_80 : decode cX3_isNoneHeldTwice 80 = .ok (.if_icmp .ge 45, 3) := by decide +kernel
theorem dX3_isNoneHeldTwice_83 : decode cX3_isNoneHeldTwice 83 = .ok (.aload_n 0, 1) := by decide +kernel
theorem dX3_isNoneHeldTwice_84 : decode cX3_isNoneHeldTwice 84 = .ok (.getfield 26, 3) := by decide +kernel
theorem dX3_isNoneHeldTwice_87 : decode cX3_isNoneHeldTwice 87 = .ok (.iload_n 1, 1) := by decide +kernel
theorem dX3_isNoneHeldTwice_88 : decode cX3_isNoneHeldTwice 88 = .ok (.invokevirtual 132, 3) := by decide +kernel
theorem dX3_isNoneHeldTwice_91 : decode cX3_isNoneHeldTwice 91 = .ok (.checkcast 217, 3) := by decide +kernel
theorem dX3_isNoneHeldTwice_94 : decode cX3_isNoneHeldTwice 94 = .ok (.getfield 240, 3) := by decide +kernel
theorem dX3_isNoneHeldTwice_97 : decode cX3_isNoneHeldTwice 97 = .ok (.bipush 115, 2) := by decide +kernel
theorem dX3_isNoneHeldTwice_99 : decode cX3_isNoneHeldTwice 99 = .ok (.if_icmp .ne 20, 3) := by decide +kernel
theorem dX3_isNoneHeldTwice_102 : decode cX3_isNoneHeldTwice 102 = .ok (.aload_n 0, 1) := by decide +kernel
theorem dX3_isNoneHeldTwice_103 : decode cX3_isNoneHeldTwice 103 = .ok (.getfield 26, 3) := by decide +kernel
theorem dX3_isNoneHeldTwice_106 : decode cX3_isNoneHeldTwice 106 = .ok (.iload_n 1, 1) := by decide +kernel
theorem dX3_isNoneHeldTwice_107 : decode cX3_isNoneHeldTwice 107 = .ok (.invokevirtual 132, 3) := by decide +kernel
theorem dX3_isNoneHeldTwice_110 : decode cX3_isNoneHeldTwice 110 = .ok (.checkcast 217, 3) := by decide +kernel
theorem dX3_isNoneHeldTwice_113 : decode cX3_isNoneHeldTwice 113 = .ok (.getfield 239, 3) := by decide +kernel
theorem dX3_isNoneHeldTwice_116 : decode cX3_isNoneHeldTwice 116 = .ok (.invokestatic 375, 3) := by decide +kernel
theorem dX3_isNoneHeldTwice_119 : decode cX3_isNoneHeldTwice 119 = .ok (.iinc 1 1, 3) := by decide +kernel
theorem dX3_isNoneHeldTwice_122 : decode cX3_isNoneHeldTwice 122 = .ok (.goto (-50), 3) := by decide +kernel
theorem dX3_isNoneHeldTwice_125 : decode cX3_isNoneHeldTwice 125 = .ok (.iconst 0, 1) := by decide +kernel
theorem dX3_isNoneHeldTwice_126 : decode cX3_isNoneHeldTwice 126 = .ok (.istore_n 1, 1) := by decide +kernel
theorem dX3_isNoneHeldTwice_127 : decode cX3_isNoneHeldTwice 127 = .ok (.iload_n 1, 1) := by decide +kernel
theorem dX3_isNoneHeldTwice_128 : decode cX3_isNoneHeldTwice 128 = .ok (.aload_n 0, 1) := by decide +kernel
theorem dX3_isNoneHeldTwice_129 : decode cX3_isNoneHeldTwice 129 = .ok (.getfield 16, 3) := by decide +kernel
theorem dX3_isNoneHeldTwice_132 : decode cX3_isNoneHeldTwice 132 = .ok (.invokevirtual 69, 3) := by decide +kernel
theorem dX3_isNoneHeldTwice_135 : decode cX3_isNoneHeldTwice 135 = .ok (.if_icmp .ge 29, 3) := by decide +kernel
theorem dX3_isNoneHeldTwice_138 : decode cX3_isNoneHeldTwice 138 = .ok (.aload_n 0, 1) := by decide +kernel
theorem dX3_isNoneHeldTwice_139 : decode cX3_isNoneHeldTwice 139 = .ok (.getfield 16, 3) := by decide +kernel
theorem dX3_isNoneHeldTwice_142 : decode cX3_isNoneHeldTwice 142 = .ok (.iload_n 1, 1) := by decide +kernel
theorem dX3_isNoneHeldTwice_143 : decode cX3_isNoneHeldTwice 143 = .ok (.invokevirtual 132, 3) := by decide +kernel
theorem dX3_isNoneHeldTwice_146 : decode cX3_isNoneHeldTwice 146 = .ok (.checkcast 75, 3) := by decide +kernel
theorem dX3_isNoneHeldTwice_149 : decode cX3_isNoneHeldTwice 149 = .ok (.getfield 372, 3) := by decide +kernel
theorem dX3_isNoneHeldTwice_152 : decode cX3_isNoneHeldTwice 152 = .ok (.iconst 1, 1) := by decide +kernel
theorem dX3_isNoneHeldTwice_153 : decode cX3_isNoneHeldTwice 153 = .ok (.if_icmp .le 5, 3) := by decide +kernel
theorem dX3_isNoneHeldTwice_156 : decode cX3_isNoneHeldTwice 156 = .ok (.iconst 0, 1) := by decide +kernel
theorem dX3_isNoneHeldTwice_157 : decode cX3_isNoneHeldTwice 157 = .ok (.ireturn, 1) := by decide +kernel
theorem dX3_isNoneHeldTwice_158 : decode cX3_isNoneHeldTwice 158 = .ok (.iinc 1 1, 3) := by decide +kernel
theorem dX3_isNoneHeldTwice_161 : decode cX3_isNoneHeldTwice 161 = .ok (.goto (-34), 3) := by decide +kernel
theorem dX3_isNoneHeldTwice_164 : decode cX3_isNoneHeldTwice 164 = .ok (.iconst 1, 1) := by decide +kernel
theorem dX3_isNoneHeldTwice_165 : decode cX3_isNoneHeldTwice 165 = .ok (.ireturn, 1) := by decide +kernel
theorem dX3_countHolder_0 : decode cX3_countHolder 0 = .ok (.iconst 0, 1) := by decide +kernel
theorem dX3_countHolder_1 : decode cX3_countHolder 1 = .ok (.istore_n 1, 1) := by decide +kernel
theorem dX3_countHolder_2 : decode cX3_countHolder 2 = .ok (.iload_n 1, 1) := by decide +kernel
theorem dX3_countHolder_3 : decode cX3_countHolder 3 = .ok (.aload_n 0, 1) := by decide +kernel
theorem dX3_countHolder_4 : decode cX3_countHolder 4 = .ok (.invokevirtual 69, 3) := by decide +kernel
theorem dX3_countHolder_7 : decode cX3_countHolder 7 = .ok (.if_icmp .ge 26, 3) := by decide +kernel
theorem dX3_countHolder_10 : decode cX3_countHolder 10 = .ok (.aload_n 0, 1) := by decide +kernel
theorem dX3_countHolder_11 : decode cX3_countHolder 11 = .ok (.iload_n 1, 1) := by decide +kernel
theorem dX3_countHolder_12 : decode cX3_countHolder 12 = .ok (.invokevirtual 132, 3) := by decide +kernel
theorem dX3_countHolder_15 : decode cX3_countHolder 15 = .ok (.checkcast 75, 3) := by decide +kernel
theorem dX3_countHolder_18 : decode cX3_countHolder 18 = .ok (.dup, 1) := by decide +kernel
theorem dX3_countHolder_19 : decode cX3_countHolder 19 = .ok (.getfield 372, 3) := by decide +kernel
theorem dX3_countHolder_22 : decode cX3_countHolder 22 = .ok (.iconst 1, 1) := by decide +kernel
theorem dX3_countHolder_23 : decode cX3_countHolder 23 = .ok (.iadd, 1) := by decide +kernel
theorem dX3_countHolder_24 : decode cX3_countHolder 24 = .ok (.putfield 372, 3) := by decide +kernel
theorem dX3_countHolder_27 : decode cX3_countHolder 27 = .ok (.iinc 1 1, 3) := by decide +kernel
theorem dX3_countHolder_30 : decode cX3_countHolder 30 = .ok (.goto (-28), 3) := by decide +kernel
theorem dX3_countHolder_33 : decode cX3_countHolder 33 = .ok (.return_, 1) := by decide +kernel
theorem dX3_arePlansKept_0 : decode cX3_arePlansKept 0 = .ok (.iconst 0, 1) := by decide +kernel
theorem dX3_arePlansKept_1 : decode cX3_arePlansKept 1 = .ok (.istore_n 1, 1) := by decide +kernel
theorem dX3_arePlansKept_2 : decode cX3_arePlansKept 2 = .ok (.iload_n 1, 1) := by decide +kernel
theorem dX3_arePlansKept_3 : decode cX3_arePlansKept 3 = .ok (.aload_n 0, 1) := by decide +kernel
theorem dX3_arePlansKept_4 : decode cX3_arePlansKept 4 = .ok (.getfield 23, 3) := by decide +kernel
theorem dX3_arePlansKept_7 : decode cX3_arePlansKept 7 = .ok (.invokevirtual 69, 3) := by decide +kernel
theorem dX3_arePlansKept_10 : decode cX3_arePlansKept 10 = .ok (.if_icmp .ge 50, 3) := by decide +kernel
theorem dX3_arePlansKept_13 : decode cX3_arePlansKept 13 = .ok (.aload_n 0, 1) := by decide +kernel
theorem dX3_arePlansKept_14 : decode cX3_arePlansKept 14 = .ok (.getfield 23, 3) := by decide +kernel
theorem dX3_arePlansKept_17 : decode cX3_arePlansKept 17 = .ok (.iload_n 1, 1) := by decide +kernel
theorem dX3_arePlansKept_18 : decode cX3_arePlansKept 18 = .ok (.invokevirtual 132, 3) := by decide +kernel
theorem dX3_arePlansKept_21 : decode cX3_arePlansKept 21 = .ok (.checkcast 168, 3) := by decide +kernel
theorem dX3_arePlansKept_24 : decode cX3_arePlansKept 24 = .ok (.astore_n 2, 1) := by decide +kernel
theorem dX3_arePlansKept_25 : decode cX3_arePlansKept 25 = .ok (.iconst 0, 1) := by decide +kernel
theorem dX3_arePlansKept_26 : decode cX3_arePlansKept 26 = .ok (.istore_n 3, 1) := by decide +kernel
theorem dX3_arePlansKept_27 : decode cX3_arePlansKept 27 = .ok (.iload_n 3, 1) := by decide +kernel
theorem dX3_arePlansKept_28 : decode cX3_arePlansKept 28 = .ok (.aload_n 2, 1) := by decide +kernel
theorem dX3_arePlansKept_29 : decode cX3_arePlansKept 29 = .ok (.getfield 183, 3) := by decide +kernel
theorem dX3_arePlansKept_32 : decode cX3_arePlansKept 32 = .ok (.invokevirtual 69, 3) := by decide +kernel
theorem dX3_arePlansKept_35 : decode cX3_arePlansKept 35 = .ok (.if_icmp .ge 19, 3) := by decide +kernel
theorem dX3_arePlansKept_38 : decode cX3_arePlansKept 38 = .ok (.aload_n 2, 1) := by decide +kernel
theorem dX3_arePlansKept_39 : decode cX3_arePlansKept 39 = .ok (.iload_n 3, 1) := by decide +kernel
theorem dX3_arePlansKept_40 : decode cX3_arePlansKept 40 = .ok (.invokestatic 333, 3) := by decide +kernel
theorem dX3_arePlansKept_43 : decode cX3_arePlansKept 43 = .ok (.ifCond .ne 5, 3) := by decide +kernel
theorem dX3_arePlansKept_46 : decode cX3_arePlansKept 46 = .ok (.iconst 0, 1) := by decide +kernel
theorem dX3_arePlansKept_47 : decode cX3_arePlansKept 47 = .ok (.ireturn, 1) := by decide +kernel
theorem dX3_arePlansKept_48 : decode cX3_arePlansKept 48 = .ok (.iinc 3 1, 3) := by decide +kernel
theorem dX3_arePlansKept_51 : decode cX3_arePlansKept 51 = .ok (.goto (-24), 3) := by decide +kernel
theorem dX3_arePlansKept_54 : decode cX3_arePlansKept 54 = .ok (.iinc 1 1, 3) := by decide +kernel
theorem dX3_arePlansKept_57 : decode cX3_arePlansKept 57 = .ok (.goto (-55), 3) := by decide +kernel
theorem dX3_arePlansKept_60 : decode cX3_arePlansKept 60 = .ok (.iconst 1, 1) := by decide +kernel
theorem dX3_arePlansKept_61 : decode cX3_arePlansKept 61 = .ok (.ireturn, 1) := by decide +kernel
