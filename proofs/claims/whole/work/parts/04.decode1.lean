theorem dd_P_readFactors_45 : decode bb_P_readFactors 45 = .ok (.dup, 1) := by decide +kernel
theorem dd_P_readFactors_46 : decode bb_P_readFactors 46 = .ok (.getfield 19, 3) := by decide +kernel
theorem dd_P_readFactors_49 : decode bb_P_readFactors 49 = .ok (.iconst 1, 1) := by decide +kernel
theorem dd_P_readFactors_50 : decode bb_P_readFactors 50 = .ok (.iadd, 1) := by decide +kernel
theorem dd_P_readFactors_51 : decode bb_P_readFactors 51 = .ok (.putfield 19, 3) := by decide +kernel
theorem dd_P_readFactors_54 : decode bb_P_readFactors 54 = .ok (.aload_n 0, 1) := by decide +kernel
theorem dd_P_readFactors_55 : decode bb_P_readFactors 55 = .ok (.iload_n 2, 1) := by decide +kernel
theorem dd_P_readFactors_56 : decode bb_P_readFactors 56 = .ok (.invokevirtual 111, 3) := by decide +kernel
theorem dd_P_readFactors_59 : decode bb_P_readFactors 59 = .ok (.istore 5, 2) := by decide +kernel
theorem dd_P_readFactors_61 : decode bb_P_readFactors 61 = .ok (.iload 5, 2) := by decide +kernel
theorem dd_P_readFactors_63 : decode bb_P_readFactors 63 = .ok (.iconst (-1), 1) := by decide +kernel
theorem dd_P_readFactors_64 : decode bb_P_readFactors 64 = .ok (.if_icmp .ne 5, 3) := by decide +kernel
theorem dd_P_readFactors_67 : decode bb_P_readFactors 67 = .ok (.iconst 0, 1) := by decide +kernel
theorem dd_P_readFactors_68 : decode bb_P_readFactors 68 = .ok (.ireturn, 1) := by decide +kernel
theorem dd_P_readFactors_69 : decode bb_P_readFactors 69 = .ok (.aload_n 1, 1) := by decide +kernel
theorem dd_P_readFactors_70 : decode bb_P_readFactors 70 = .ok (.iload 4, 2) := by decide +kernel
theorem dd_P_readFactors_72 : decode bb_P_readFactors 72 = .ok (.iload 5, 2) := by decide +kernel
theorem dd_P_readFactors_74 : decode bb_P_readFactors 74 = .ok (.invokevirtual 114, 3) := by decide +kernel
theorem dd_P_readFactors_77 : decode bb_P_readFactors 77 = .ok (.iload_n 2, 1) := by decide +kernel
theorem dd_P_readFactors_78 : decode bb_P_readFactors 78 = .ok (.iload 5, 2) := by decide +kernel
theorem dd_P_readFactors_80 : decode bb_P_readFactors 80 = .ok (.isub, 1) := by decide +kernel
theorem dd_P_readFactors_81 : decode bb_P_readFactors 81 = .ok (.istore_n 2, 1) := by decide +kernel
theorem dd_P_readFactors_82 : decode bb_P_readFactors 82 = .ok (.iinc 3 1, 3) := by decide +kernel
theorem dd_P_readFactors_85 : decode bb_P_readFactors 85 = .ok (.goto (-80), 3) := by decide +kernel
theorem dd_P_readFactors_88 : decode bb_P_readFactors 88 = .ok (.aload_n 0, 1) := by decide +kernel
theorem dd_P_readFactors_89 : decode bb_P_readFactors 89 = .ok (.aload_n 0, 1) := by decide +kernel
theorem dd_P_readFactors_90 : decode bb_P_readFactors 90 = .ok (.getfield 19, 3) := by decide +kernel
theorem dd_P_readFactors_93 : decode bb_P_readFactors 93 = .ok (.invokevirtual 63, 3) := by decide +kernel
theorem dd_P_readFactors_96 : decode bb_P_readFactors 96 = .ok (.ireturn, 1) := by decide +kernel
theorem dd_P_noteLetter_0 : decode bb_P_noteLetter 0 = .ok (.aload_n 0, 1) := by decide +kernel
theorem dd_P_noteLetter_1 : decode bb_P_noteLetter 1 = .ok (.getfield 31, 3) := by decide +kernel
theorem dd_P_noteLetter_4 : decode bb_P_noteLetter 4 = .ok (.iload_n 1, 1) := by decide +kernel
theorem dd_P_noteLetter_5 : decode bb_P_noteLetter 5 = .ok (.iaload, 1) := by decide +kernel
theorem dd_P_noteLetter_6 : decode bb_P_noteLetter 6 = .ok (.iconst (-1), 1) := by decide +kernel
theorem dd_P_noteLetter_7 : decode bb_P_noteLetter 7 = .ok (.if_icmp .ne 13, 3) := by decide +kernel
theorem dd_P_noteLetter_10 : decode bb_P_noteLetter 10 = .ok (.aload_n 0, 1) := by decide +kernel
theorem dd_P_noteLetter_11 : decode bb_P_noteLetter 11 = .ok (.getfield 31, 3) := by decide +kernel
theorem dd_P_noteLetter_14 : decode bb_P_noteLetter 14 = .ok (.iload_n 1, 1) := by decide +kernel
theorem dd_P_noteLetter_15 : decode bb_P_noteLetter 15 = .ok (.aload_n 0, 1) := by decide +kernel
theorem dd_P_noteLetter_16 : decode bb_P_noteLetter 16 = .ok (.getfield 19, 3) := by decide +kernel
theorem dd_P_noteLetter_19 : decode bb_P_noteLetter 19 = .ok (.iastore, 1) := by decide +kernel
theorem dd_P_noteLetter_20 : decode bb_P_noteLetter 20 = .ok (.return_, 1) := by decide +kernel
theorem dd_P_readPower_0 : decode bb_P_readPower 0 = .ok (.aload_n 0, 1) := by decide +kernel
theorem dd_P_readPower_1 : decode bb_P_readPower 1 = .ok (.invokevirtual 51, 3) := by decide +kernel
theorem dd_P_readPower_4 : decode bb_P_readPower 4 = .ok (.bipush 94, 2) := by decide +kernel
theorem dd_P_readPower_6 : decode bb_P_readPower 6 = .ok (.if_icmp .eq 5, 3) := by decide +kernel
theorem dd_P_readPower_9 : decode bb_P_readPower 9 = .ok (.iconst 1, 1) := by decide +kernel
theorem dd_P_readPower_10 : decode bb_P_readPower 10 = .ok (.ireturn, 1) := by decide +kernel
theorem dd_P_readPower_11 : decode bb_P_readPower 11 = .ok (.aload_n 0, 1) := by decide +kernel
theorem dd_P_readPower_12 : decode bb_P_readPower 12 = .ok (.dup, 1) := by decide +kernel
theorem dd_P_readPower_13 : decode bb_P_readPower 13 = .ok (.getfield 19, 3) := by decide +kernel
theorem dd_P_readPower_16 : decode bb_P_readPower 16 = .ok (.iconst 1, 1) := by decide +kernel
theorem dd_P_readPower_17 : decode bb_P_readPower 17 = .ok (.iadd, 1) := by decide +kernel
theorem dd_P_readPower_18 : decode bb_P_readPower 18 = .ok (.putfield 19, 3) := by decide +kernel
theorem dd_P_readPower_21 : decode bb_P_readPower 21 = .ok (.aload_n 0, 1) := by decide +kernel
theorem dd_P_readPower_22 : decode bb_P_readPower 22 = .ok (.invokevirtual 51, 3) := by decide +kernel
theorem dd_P_readPower_25 : decode bb_P_readPower 25 = .ok (.bipush 48, 2) := by decide +kernel
theorem dd_P_readPower_27 : decode bb_P_readPower 27 = .ok (.isub, 1) := by decide +kernel
theorem dd_P_readPower_28 : decode bb_P_readPower 28 = .ok (.istore_n 2, 1) := by decide +kernel
theorem dd_P_readPower_29 : decode bb_P_readPower 29 = .ok (.iload_n 2, 1) := by decide +kernel
theorem dd_P_readPower_30 : decode bb_P_readPower 30 = .ok (.iconst 1, 1) := by decide +kernel
theorem dd_P_readPower_31 : decode bb_P_readPower 31 = .ok (.if_icmp .lt 13, 3) := by decide +kernel
theorem dd_P_readPower_34 : decode bb_P_readPower 34 = .ok (.iload_n 2, 1) := by decide +kernel
theorem dd_P_readPower_35 : decode bb_P_readPower 35 = .ok (.iconst 4, 1) := by decide +kernel
theorem dd_P_readPower_36 : decode bb_P_readPower 36 = .ok (.if_icmp .gt 8, 3) := by decide +kernel
theorem dd_P_readPower_39 : decode bb_P_readPower 39 = .ok (.iload_n 2, 1) := by decide +kernel
theorem dd_P_readPower_40 : decode bb_P_readPower 40 = .ok (.iload_n 1, 1) := by decide +kernel
theorem dd_P_readPower_41 : decode bb_P_readPower 41 = .ok (.if_icmp .le 14, 3) := by decide +kernel
theorem dd_P_readPower_44 : decode bb_P_readPower 44 = .ok (.aload_n 0, 1) := by decide +kernel
theorem dd_P_readPower_45 : decode bb_P_readPower 45 = .ok (.aload_n 0, 1) := by decide +kernel
theorem dd_P_readPower_46 : decode bb_P_readPower 46 = .ok (.getfield 19, 3) := by decide +kernel
theorem dd_P_readPower_49 : decode bb_P_readPower 49 = .ok (.invokevirtual 63, 3) := by decide +kernel
theorem dd_P_readPower_52 : decode bb_P_readPower 52 = .ok (.pop, 1) := by decide +kernel
theorem dd_P_readPower_53 : decode bb_P_readPower 53 = .ok (.iconst (-1), 1) := by decide +kernel
theorem dd_P_readPower_54 : decode bb_P_readPower 54 = .ok (.ireturn, 1) := by decide +kernel
theorem dd_P_readPower_55 : decode bb_P_readPower 55 = .ok (.aload_n 0, 1) := by decide +kernel
theorem dd_P_readPower_56 : decode bb_P_readPower 56 = .ok (.dup, 1) := by decide +kernel
theorem dd_P_readPower_57 : decode bb_P_readPower 57 = .ok (.getfield 19, 3) := by decide +kernel
theorem dd_P_readPower_60 : decode bb_P_readPower 60 = .ok (.iconst 1, 1) := by decide +kernel
theorem dd_P_readPower_61 : decode bb_P_readPower 61 = .ok (.iadd, 1) := by decide +kernel
theorem dd_P_readPower_62 : decode bb_P_readPower 62 = .ok (.putfield 19, 3) := by decide +kernel
theorem dd_P_readPower_65 : decode bb_P_readPower 65 = .ok (.iload_n 2, 1) := by decide +kernel
theorem dd_P_readPower_66 : decode bb_P_readPower 66 = .ok (.ireturn, 1) := by decide +kernel
theorem dd_Y_multiplyLastTerm_0 : decode bb_Y_multiplyLastTerm 0 = .ok (.aload_n 0, 1) := by decide +kernel
theorem dd_Y_multiplyLastTerm_1 : decode bb_Y_multiplyLastTerm 1 = .ok (.getfield 20, 3) := by decide +kernel
theorem dd_Y_multiplyLastTerm_4 : decode bb_Y_multiplyLastTerm 4 = .ok (.aload_n 0, 1) := by decide +kernel
theorem dd_Y_multiplyLastTerm_5 : decode bb_Y_multiplyLastTerm 5 = .ok (.getfield 24, 3) := by decide +kernel
theorem dd_Y_multiplyLastTerm_8 : decode bb_Y_multiplyLastTerm 8 = .ok (.iconst 1, 1) := by decide +kernel
theorem dd_Y_multiplyLastTerm_9 : decode bb_Y_multiplyLastTerm 9 = .ok (.isub, 1) := by decide +kernel
theorem dd_Y_multiplyLastTerm_10 : decode bb_Y_multiplyLastTerm 10 = .ok (.iconst 3, 1) := by decide +kernel
theorem dd_Y_multiplyLastTerm_11 : decode bb_Y_multiplyLastTerm 11 = .ok (.imul, 1) := by decide +kernel
theorem dd_Y_multiplyLastTerm_12 : decode bb_Y_multiplyLastTerm 12 = .ok (.iload_n 1, 1) := by decide +kernel
theorem dd_Y_multiplyLastTerm_13 : decode bb_Y_multiplyLastTerm 13 = .ok (.iadd, 1) := by decide +kernel
theorem dd_Y_multiplyLastTerm_14 : decode bb_Y_multiplyLastTerm 14 = .ok (.dup2, 1) := by decide +kernel
theorem dd_Y_multiplyLastTerm_15 : decode bb_Y_multiplyLastTerm 15 = .ok (.iaload, 1) := by decide +kernel
theorem dd_Y_multiplyLastTerm_16 : decode bb_Y_multiplyLastTerm 16 = .ok (.iload_n 2, 1) := by decide +kernel
theorem dd_Y_multiplyLastTerm_17 : decode bb_Y_multiplyLastTerm 17 = .ok (.iadd, 1) := by decide +kernel
theorem dd_Y_multiplyLastTerm_18 : decode bb_Y_multiplyLastTerm 18 = .ok (.iastore, 1) := by decide +kernel
theorem dd_Y_multiplyLastTerm_19 : decode bb_Y_multiplyLastTerm 19 = .ok (.return_, 1) := by decide +kernel
theorem dd_P_firstWithoutSide_0 : decode bb_P_firstWithoutSide 0 = .ok (.iconst (-1), 1) := by decide +kernel
theorem dd_P_firstWithoutSide_1 : decode bb_P_firstWithoutSide 1 = .ok (.istore_n 2, 1) := by decide +kernel
theorem dd_P_firstWithoutSide_2 : decode bb_P_firstWithoutSide 2 = .ok (.iload_n 1, 1) := by decide +kernel
theorem dd_P_firstWithoutSide_3 : decode bb_P_firstWithoutSide 3 = .ok (.istore_n 3, 1) := by decide +kernel
theorem dd_P_firstWithoutSide_4 : decode bb_P_firstWithoutSide 4 = .ok (.iload_n 3, 1) := by decide +kernel
theorem dd_P_firstWithoutSide_5 : decode bb_P_firstWithoutSide 5 = .ok (.iconst 3, 1) := by decide +kernel
theorem dd_P_firstWithoutSide_6 : decode bb_P_firstWithoutSide 6 = .ok (.if_icmp .ge 41, 3) := by decide +kernel
theorem dd_P_firstWithoutSide_9 : decode bb_P_firstWithoutSide 9 = .ok (.aload_n 0, 1) := by decide +kernel
theorem dd_P_firstWithoutSide_10 : decode bb_P_firstWithoutSide 10 = .ok (.getfield 31, 3) := by decide +kernel
theorem dd_P_firstWithoutSide_13 : decode bb_P_firstWithoutSide 13 = .ok (.iload_n 3, 1) := by decide +kernel
theorem dd_P_firstWithoutSide_14 : decode bb_P_firstWithoutSide 14 = .ok (.iaload, 1) := by decide +kernel
theorem dd_P_firstWithoutSide_15 : decode bb_P_firstWithoutSide 15 = .ok (.iconst (-1), 1) := by decide +kernel
theorem dd_P_firstWithoutSide_16 : decode bb_P_firstWithoutSide 16 = .ok (.if_icmp .eq 25, 3) := by decide +kernel
theorem dd_P_firstWithoutSide_19 : decode bb_P_firstWithoutSide 19 = .ok (.iload_n 2, 1) := by decide +kernel
theorem dd_P_firstWithoutSide_20 : decode bb_P_firstWithoutSide 20 = .ok (.iconst (-1), 1) := by decide +kernel
theorem dd_P_firstWithoutSide_21 : decode bb_P_firstWithoutSide 21 = .ok (.if_icmp .eq 13, 3) := by decide +kernel
theorem dd_P_firstWithoutSide_24 : decode bb_P_firstWithoutSide 24 = .ok (.aload_n 0, 1) := by decide +kernel
theorem dd_P_firstWithoutSide_25 : decode bb_P_firstWithoutSide 25 = .ok (.getfield 31, 3) := by decide +kernel
theorem dd_P_firstWithoutSide_28 : decode bb_P_firstWithoutSide 28 = .ok (.iload_n 3, 1) := by decide +kernel
theorem dd_P_firstWithoutSide_29 : decode bb_P_firstWithoutSide 29 = .ok (.iaload, 1) := by decide +kernel
theorem dd_P_firstWithoutSide_30 : decode bb_P_firstWithoutSide 30 = .ok (.iload_n 2, 1) := by decide +kernel
theorem dd_P_firstWithoutSide_31 : decode bb_P_firstWithoutSide 31 = .ok (.if_icmp .ge 10, 3) := by decide +kernel
theorem dd_P_firstWithoutSide_34 : decode bb_P_firstWithoutSide 34 = .ok (.aload_n 0, 1) := by decide +kernel
theorem dd_P_firstWithoutSide_35 : decode bb_P_firstWithoutSide 35 = .ok (.getfield 31, 3) := by decide +kernel
theorem dd_P_firstWithoutSide_38 : decode bb_P_firstWithoutSide 38 = .ok (.iload_n 3, 1) := by decide +kernel
theorem dd_P_firstWithoutSide_39 : decode bb_P_firstWithoutSide 39 = .ok (.iaload, 1) := by decide +kernel
theorem dd_P_firstWithoutSide_40 : decode bb_P_firstWithoutSide 40 = .ok (.istore_n 2, 1) := by decide +kernel
theorem dd_P_firstWithoutSide_41 : decode bb_P_firstWithoutSide 41 = .ok (.iinc 3 1, 3) := by decide +kernel
theorem dd_P_firstWithoutSide_44 : decode bb_P_firstWithoutSide 44 = .ok (.goto (-40), 3) := by decide +kernel
theorem dd_P_firstWithoutSide_47 : decode bb_P_firstWithoutSide 47 = .ok (.iload_n 2, 1) := by decide +kernel
theorem dd_P_firstWithoutSide_48 : decode bb_P_firstWithoutSide 48 = .ok (.ireturn, 1) := by decide +kernel
theorem dd_P_emptyTape_0 : decode bb_P_emptyTape 0 = .ok (.aload_n 0, 1) := by decide +kernel
theorem dd_P_emptyTape_1 : decode bb_P_emptyTape 1 = .ok (.iconst 0, 1) := by decide +kernel
theorem dd_P_emptyTape_2 : decode bb_P_emptyTape 2 = .ok (.putfield 15, 3) := by decide +kernel
theorem dd_P_emptyTape_5 : decode bb_P_emptyTape 5 = .ok (.return_, 1) := by decide +kernel
theorem dd_U_beginAtZero_0 : decode bb_U_beginAtZero 0 = .ok (.aload_n 0, 1) := by decide +kernel
theorem dd_U_beginAtZero_1 : decode bb_U_beginAtZero 1 = .ok (.getfield 39, 3) := by decide +kernel
theorem dd_U_beginAtZero_4 : decode bb_U_beginAtZero 4 = .ok (.invokevirtual 70, 3) := by decide +kernel
theorem dd_U_beginAtZero_7 : decode bb_U_beginAtZero 7 = .ok (.return_, 1) := by decide +kernel
theorem dd_R_clear_0 : decode bb_R_clear 0 = .ok (.iconst 0, 1) := by decide +kernel
theorem dd_R_clear_1 : decode bb_R_clear 1 = .ok (.istore_n 1, 1) := by decide +kernel
theorem dd_R_clear_2 : decode bb_R_clear 2 = .ok (.iload_n 1, 1) := by decide +kernel
theorem dd_R_clear_3 : decode bb_R_clear 3 = .ok (.aload_n 0, 1) := by decide +kernel
theorem dd_R_clear_4 : decode bb_R_clear 4 = .ok (.getfield 7, 3) := by decide +kernel
theorem dd_R_clear_7 : decode bb_R_clear 7 = .ok (.arraylength, 1) := by decide +kernel
theorem dd_R_clear_8 : decode bb_R_clear 8 = .ok (.if_icmp .ge 23, 3) := by decide +kernel
theorem dd_R_clear_11 : decode bb_R_clear 11 = .ok (.aload_n 0, 1) := by decide +kernel
theorem dd_R_clear_12 : decode bb_R_clear 12 = .ok (.getfield 7, 3) := by decide +kernel
theorem dd_R_clear_15 : decode bb_R_clear 15 = .ok (.iload_n 1, 1) := by decide +kernel
theorem dd_R_clear_16 : decode bb_R_clear 16 = .ok (.lconst 0, 1) := by decide +kernel
theorem dd_R_clear_17 : decode bb_R_clear 17 = .ok (.lastore, 1) := by decide +kernel
theorem dd_R_clear_18 : decode bb_R_clear 18 = .ok (.aload_n 0, 1) := by decide +kernel
theorem dd_R_clear_19 : decode bb_R_clear 19 = .ok (.getfield 13, 3) := by decide +kernel
theorem dd_R_clear_22 : decode bb_R_clear 22 = .ok (.iload_n 1, 1) := by decide +kernel
theorem dd_R_clear_23 : decode bb_R_clear 23 = .ok (.lconst 0, 1) := by decide +kernel
theorem dd_R_clear_24 : decode bb_R_clear 24 = .ok (.lastore, 1) := by decide +kernel
theorem dd_R_clear_25 : decode bb_R_clear 25 = .ok (.iinc 1 1, 3) := by decide +kernel
theorem dd_R_clear_28 : decode bb_R_clear 28 = .ok (.goto (-26), 3) := by decide +kernel
theorem dd_R_clear_31 : decode bb_R_clear 31 = .ok (.return_, 1) := by decide +kernel
theorem dd_L_step_0 : decode bb_L_step 0 = .ok (.aload_n 2, 1) := by decide +kernel
theorem dd_L_step_1 : decode bb_L_step 1 = .ok (.iconst 0, 1) := by decide +kernel
theorem dd_L_step_2 : decode bb_L_step 2 = .ok (.aload_n 0, 1) := by decide +kernel
theorem dd_L_step_3 : decode bb_L_step 3 = .ok (.iload_n 1, 1) := by decide +kernel
theorem dd_L_step_4 : decode bb_L_step 4 = .ok (.invokevirtual 15, 3) := by decide +kernel
theorem dd_L_step_7 : decode bb_L_step 7 = .ok (.i2l, 1) := by decide +kernel
theorem dd_L_step_8 : decode bb_L_step 8 = .ok (.lastore, 1) := by decide +kernel
theorem dd_L_step_9 : decode bb_L_step 9 = .ok (.goto 12, 3) := by decide +kernel
theorem dd_L_step_12 : decode bb_L_step 12 = .ok (.astore_n 3, 1) := by decide +kernel
theorem dd_L_step_13 : decode bb_L_step 13 = .ok (.iconst 1, 1) := by decide +kernel
theorem dd_L_step_14 : decode bb_L_step 14 = .ok (.ireturn, 1) := by decide +kernel
theorem dd_L_step_15 : decode bb_L_step 15 = .ok (.astore_n 3, 1) := by decide +kernel
theorem dd_L_step_16 : decode bb_L_step 16 = .ok (.iconst 2, 1) := by decide +kernel
theorem dd_L_step_17 : decode bb_L_step 17 = .ok (.ireturn, 1) := by decide +kernel
theorem dd_L_step_18 : decode bb_L_step 18 = .ok (.astore_n 3, 1) := by decide +kernel
theorem dd_L_step_19 : decode bb_L_step 19 = .ok (.iconst 3, 1) := by decide +kernel
theorem dd_L_step_20 : decode bb_L_step 20 = .ok (.ireturn, 1) := by decide +kernel
theorem dd_L_step_21 : decode bb_L_step 21 = .ok (.iconst 0, 1) := by decide +kernel
theorem dd_L_step_22 : decode bb_L_step 22 = .ok (.ireturn, 1) := by decide +kernel
theorem dd_F_step_0 : decode bb_F_step 0 = .ok (.aload_n 0, 1) := by decide +kernel
theorem dd_F_step_1 : decode bb_F_step 1 = .ok (.getfield 23, 3) := by decide +kernel
theorem dd_F_step_4 : decode bb_F_step 4 = .ok (.getfield 70, 3) := by decide +kernel
theorem dd_F_step_7 : decode bb_F_step 7 = .ok (.ifCond .ne 13, 3) := by decide +kernel
theorem dd_F_step_10 : decode bb_F_step 10 = .ok (.new 100, 3) := by decide +kernel
theorem dd_F_step_13 : decode bb_F_step 13 = .ok (.dup, 1) := by decide +kernel
theorem dd_F_step_14 : decode bb_F_step 14 = .ok (.ldc 102, 2) := by decide +kernel
theorem dd_F_step_16 : decode bb_F_step 16 = .ok (.invokespecial 104, 3) := by decide +kernel
theorem dd_F_step_19 : decode bb_F_step 19 = .ok (.athrow, 1) := by decide +kernel
theorem dd_F_step_20 : decode bb_F_step 20 = .ok (.iload_n 1, 1) := by decide +kernel
theorem dd_F_step_21 : decode bb_F_step 21 = .ok (.iconst 1, 1) := by decide +kernel
theorem dd_F_step_22 : decode bb_F_step 22 = .ok (.if_icmp .lt 10, 3) := by decide +kernel
theorem dd_F_step_25 : decode bb_F_step 25 = .ok (.iload_n 1, 1) := by decide +kernel
theorem dd_F_step_26 : decode bb_F_step 26 = .ok (.sipush 200, 3) := by decide +kernel
theorem dd_F_step_29 : decode bb_F_step 29 = .ok (.if_icmp .le 13, 3) := by decide +kernel
theorem dd_F_step_32 : decode bb_F_step 32 = .ok (.new 56, 3) := by decide +kernel
theorem dd_F_step_35 : decode bb_F_step 35 = .ok (.dup, 1) := by decide +kernel
theorem dd_F_step_36 : decode bb_F_step 36 = .ok (.ldc 105, 2) := by decide +kernel
theorem dd_F_step_38 : decode bb_F_step 38 = .ok (.invokespecial 60, 3) := by decide +kernel
theorem dd_F_step_41 : decode bb_F_step 41 = .ok (.athrow, 1) := by decide +kernel
theorem dd_F_step_42 : decode bb_F_step 42 = .ok (.iconst 0, 1) := by decide +kernel
theorem dd_F_step_43 : decode bb_F_step 43 = .ok (.istore_n 2, 1) := by decide +kernel
theorem dd_F_step_44 : decode bb_F_step 44 = .ok (.iload_n 2, 1) := by decide +kernel
theorem dd_F_step_45 : decode bb_F_step 45 = .ok (.iload_n 1, 1) := by decide +kernel
theorem dd_F_step_46 : decode bb_F_step 46 = .ok (.if_icmp .ge 52, 3) := by decide +kernel
theorem dd_F_step_49 : decode bb_F_step 49 = .ok (.aload_n 0, 1) := by decide +kernel
theorem dd_F_step_50 : decode bb_F_step 50 = .ok (.getfield 33, 3) := by decide +kernel
theorem dd_F_step_53 : decode bb_F_step 53 = .ok (.getfield 107, 3) := by decide +kernel
theorem dd_F_step_56 : decode bb_F_step 56 = .ok (.aload_n 0, 1) := by decide +kernel
theorem dd_F_step_57 : decode bb_F_step 57 = .ok (.getfield 33, 3) := by decide +kernel
theorem dd_F_step_60 : decode bb_F_step 60 = .ok (.getfield 94, 3) := by decide +kernel
theorem dd_F_step_63 : decode bb_F_step 63 = .ok (.if_icmp .lt 5, 3) := by decide +kernel
theorem dd_F_step_66 : decode bb_F_step 66 = .ok (.iload_n 2, 1) := by decide +kernel
theorem dd_F_step_67 : decode bb_F_step 67 = .ok (.ireturn, 1) := by decide +kernel
theorem dd_F_step_68 : decode bb_F_step 68 = .ok (.aload_n 0, 1) := by decide +kernel
theorem dd_F_step_69 : decode bb_F_step 69 = .ok (.getfield 33, 3) := by decide +kernel
theorem dd_F_step_72 : decode bb_F_step 72 = .ok (.aload_n 0, 1) := by decide +kernel
theorem dd_F_step_73 : decode bb_F_step 73 = .ok (.getfield 23, 3) := by decide +kernel
theorem dd_F_step_76 : decode bb_F_step 76 = .ok (.invokevirtual 110, 3) := by decide +kernel
theorem dd_F_step_79 : decode bb_F_step 79 = .ok (.ifCond .ne 13, 3) := by decide +kernel
theorem dd_F_step_82 : decode bb_F_step 82 = .ok (.new 114, 3) := by decide +kernel
theorem dd_F_step_85 : decode bb_F_step 85 = .ok (.dup, 1) := by decide +kernel
theorem dd_F_step_86 : decode bb_F_step 86 = .ok (.ldc 116, 2) := by decide +kernel
theorem dd_F_step_88 : decode bb_F_step 88 = .ok (.invokespecial 118, 3) := by decide +kernel
theorem dd_F_step_91 : decode bb_F_step 91 = .ok (.athrow, 1) := by decide +kernel
theorem dd_F_step_92 : decode bb_F_step 92 = .ok (.iinc 2 1, 3) := by decide +kernel
theorem dd_F_step_95 : decode bb_F_step 95 = .ok (.goto (-51), 3) := by decide +kernel
theorem dd_F_step_98 : decode bb_F_step 98 = .ok (.iload_n 1, 1) := by decide +kernel
theorem dd_F_step_99 : decode bb_F_step 99 = .ok (.ireturn, 1) := by decide +kernel
theorem dd_U_advance_0 : decode bb_U_advance 0 = .ok (.iconst 1, 1) := by decide +kernel
theorem dd_U_advance_1 : decode bb_U_advance 1 = .ok (.istore_n 2, 1) := by decide +kernel
theorem dd_U_advance_2 : decode bb_U_advance 2 = .ok (.aload_n 0, 1) := by decide +kernel
theorem dd_U_advance_3 : decode bb_U_advance 3 = .ok (.invokevirtual 91, 3) := by decide +kernel
theorem dd_U_advance_6 : decode bb_U_advance 6 = .ok (.istore_n 3, 1) := by decide +kernel
theorem dd_U_advance_7 : decode bb_U_advance 7 = .ok (.iload_n 3, 1) := by decide +kernel
theorem dd_U_advance_8 : decode bb_U_advance 8 = .ok (.bipush 16, 2) := by decide +kernel
theorem dd_U_advance_10 : decode bb_U_advance 10 = .ok (.if_icmp .gt 71, 3) := by decide +kernel
theorem dd_U_advance_13 : decode bb_U_advance 13 = .ok (.iload_n 3, 1) := by decide +kernel
theorem dd_U_advance_14 : decode bb_U_advance 14 = .ok (.invokestatic 95, 3) := by decide +kernel
theorem dd_U_advance_17 : decode bb_U_advance 17 = .ok (.istore 4, 2) := by decide +kernel
theorem dd_U_advance_19 : decode bb_U_advance 19 = .ok (.aload_n 0, 1) := by decide +kernel
theorem dd_U_advance_20 : decode bb_U_advance 20 = .ok (.dup, 1) := by decide +kernel
theorem dd_U_advance_21 : decode bb_U_advance 21 = .ok (.getfield 28, 3) := by decide +kernel
theorem dd_U_advance_24 : decode bb_U_advance 24 = .ok (.iconst 1, 1) := by decide +kernel
theorem dd_U_advance_25 : decode bb_U_advance 25 = .ok (.iadd, 1) := by decide +kernel
theorem dd_U_advance_26 : decode bb_U_advance 26 = .ok (.putfield 28, 3) := by decide +kernel
theorem dd_U_advance_29 : decode bb_U_advance 29 = .ok (.aload_n 0, 1) := by decide +kernel
theorem dd_U_advance_30 : decode bb_U_advance 30 = .ok (.getfield 56, 3) := by decide +kernel
theorem dd_U_advance_33 : decode bb_U_advance 33 = .ok (.aload_n 1, 1) := by decide +kernel
theorem dd_U_advance_34 : decode bb_U_advance 34 = .ok (.aload_n 0, 1) := by decide +kernel
theorem dd_U_advance_35 : decode bb_U_advance 35 = .ok (.getfield 43, 3) := by decide +kernel
theorem dd_U_advance_38 : decode bb_U_advance 38 = .ok (.iload 4, 2) := by decide +kernel
theorem dd_U_advance_40 : decode bb_U_advance 40 = .ok (.invokevirtual 99, 3) := by decide +kernel
theorem dd_U_advance_43 : decode bb_U_advance 43 = .ok (.istore_n 2, 1) := by decide +kernel
theorem dd_U_advance_44 : decode bb_U_advance 44 = .ok (.iload_n 2, 1) := by decide +kernel
theorem dd_U_advance_45 : decode bb_U_advance 45 = .ok (.ifCond .ne 22, 3) := by decide +kernel
theorem dd_U_advance_48 : decode bb_U_advance 48 = .ok (.aload_n 0, 1) := by decide +kernel
theorem dd_U_advance_49 : decode bb_U_advance 49 = .ok (.getfield 56, 3) := by decide +kernel
theorem dd_U_advance_52 : decode bb_U_advance 52 = .ok (.aload_n 1, 1) := by decide +kernel
theorem dd_U_advance_53 : decode bb_U_advance 53 = .ok (.aload_n 0, 1) := by decide +kernel
theorem dd_U_advance_54 : decode bb_U_advance 54 = .ok (.getfield 43, 3) := by decide +kernel
theorem dd_U_advance_57 : decode bb_U_advance 57 = .ok (.iload 4, 2) := by decide +kernel
theorem dd_U_advance_59 : decode bb_U_advance 59 = .ok (.aload_n 0, 1) := by decide +kernel
theorem dd_U_advance_60 : decode bb_U_advance 60 = .ok (.getfield 9, 3) := by decide +kernel
theorem dd_U_advance_63 : decode bb_U_advance 63 = .ok (.invokevirtual 103, 3) := by decide +kernel
theorem dd_U_advance_66 : decode bb_U_advance 66 = .ok (.istore_n 2, 1) := by decide +kernel
theorem dd_U_advance_67 : decode bb_U_advance 67 = .ok (.iload_n 2, 1) := by decide +kernel
theorem dd_U_advance_68 : decode bb_U_advance 68 = .ok (.iconst 1, 1) := by decide +kernel
theorem dd_U_advance_69 : decode bb_U_advance 69 = .ok (.if_icmp .eq 6, 3) := by decide +kernel
theorem dd_U_advance_72 : decode bb_U_advance 72 = .ok (.goto 9, 3) := by decide +kernel
theorem dd_U_advance_75 : decode bb_U_advance 75 = .ok (.iinc 3 1, 3) := by decide +kernel
theorem dd_U_advance_78 : decode bb_U_advance 78 = .ok (.goto (-71), 3) := by decide +kernel
theorem dd_U_advance_81 : decode bb_U_advance 81 = .ok (.aload_n 0, 1) := by decide +kernel
theorem dd_U_advance_82 : decode bb_U_advance 82 = .ok (.iload_n 2, 1) := by decide +kernel
theorem dd_U_advance_83 : decode bb_U_advance 83 = .ok (.putfield 31, 3) := by decide +kernel
theorem dd_U_advance_86 : decode bb_U_advance 86 = .ok (.iload_n 2, 1) := by decide +kernel
theorem dd_U_advance_87 : decode bb_U_advance 87 = .ok (.ifCond .eq 5, 3) := by decide +kernel
theorem dd_U_advance_90 : decode bb_U_advance 90 = .ok (.iconst 0, 1) := by decide +kernel
theorem dd_U_advance_91 : decode bb_U_advance 91 = .ok (.ireturn, 1) := by decide +kernel
theorem dd_U_advance_92 : decode bb_U_advance 92 = .ok (.aload_n 0, 1) := by decide +kernel
theorem dd_U_advance_93 : decode bb_U_advance 93 = .ok (.dup, 1) := by decide +kernel
theorem dd_U_advance_94 : decode bb_U_advance 94 = .ok (.getfield 22, 3) := by decide +kernel
theorem dd_U_advance_97 : decode bb_U_advance 97 = .ok (.iload_n 3, 1) := by decide +kernel
theorem dd_U_advance_98 : decode bb_U_advance 98 = .ok (.invokestatic 95, 3) := by decide +kernel
theorem dd_U_advance_101 : decode bb_U_advance 101 = .ok (.iadd, 1) := by decide +kernel
theorem dd_U_advance_102 : decode bb_U_advance 102 = .ok (.putfield 22, 3) := by decide +kernel
theorem dd_U_advance_105 : decode bb_U_advance 105 = .ok (.aload_n 0, 1) := by decide +kernel
theorem dd_U_advance_106 : decode bb_U_advance 106 = .ok (.getfield 43, 3) := by decide +kernel
theorem dd_U_advance_109 : decode bb_U_advance 109 = .ok (.aload_n 0, 1) := by decide +kernel
theorem dd_U_advance_110 : decode bb_U_advance 110 = .ok (.getfield 56, 3) := by decide +kernel
theorem dd_U_advance_113 : decode bb_U_advance 113 = .ok (.getfield 107, 3) := by decide +kernel
theorem dd_U_advance_116 : decode bb_U_advance 116 = .ok (.invokevirtual 73, 3) := by decide +kernel
theorem dd_U_advance_119 : decode bb_U_advance 119 = .ok (.aload_n 0, 1) := by decide +kernel
theorem dd_U_advance_120 : decode bb_U_advance 120 = .ok (.getfield 49, 3) := by decide +kernel
theorem dd_U_advance_123 : decode bb_U_advance 123 = .ok (.aload_n 0, 1) := by decide +kernel
theorem dd_U_advance_124 : decode bb_U_advance 124 = .ok (.getfield 43, 3) := by decide +kernel
theorem dd_U_advance_127 : decode bb_U_advance 127 = .ok (.aload_n 0, 1) := by decide +kernel
theorem dd_U_advance_128 : decode bb_U_advance 128 = .ok (.getfield 56, 3) := by decide +kernel
theorem dd_U_advance_131 : decode bb_U_advance 131 = .ok (.getfield 110, 3) := by decide +kernel
theorem dd_U_advance_134 : decode bb_U_advance 134 = .ok (.aload_n 0, 1) := by decide +kernel
theorem dd_U_advance_135 : decode bb_U_advance 135 = .ok (.getfield 22, 3) := by decide +kernel
theorem dd_U_advance_138 : decode bb_U_advance 138 = .ok (.aload_n 0, 1) := by decide +kernel
theorem dd_U_advance_139 : decode bb_U_advance 139 = .ok (.aload_n 1, 1) := by decide +kernel
theorem dd_U_advance_140 : decode bb_U_advance 140 = .ok (.invokevirtual 83, 3) := by decide +kernel
theorem dd_U_advance_143 : decode bb_U_advance 143 = .ok (.invokevirtual 87, 3) := by decide +kernel
theorem dd_U_advance_146 : decode bb_U_advance 146 = .ok (.aload_n 0, 1) := by decide +kernel
theorem dd_U_advance_147 : decode bb_U_advance 147 = .ok (.iload_n 3, 1) := by decide +kernel
theorem dd_U_advance_148 : decode bb_U_advance 148 = .ok (.invokevirtual 113, 3) := by decide +kernel
theorem dd_U_advance_151 : decode bb_U_advance 151 = .ok (.iconst 1, 1) := by decide +kernel
theorem dd_U_advance_152 : decode bb_U_advance 152 = .ok (.ireturn, 1) := by decide +kernel
theorem dd_U_shiftToHorizon_0 : decode bb_U_shiftToHorizon 0 = .ok (.aload_n 0, 1) := by decide +kernel
theorem dd_U_shiftToHorizon_1 : decode bb_U_shiftToHorizon 1 = .ok (.getfield 25, 3) := by decide +kernel
theorem dd_U_shiftToHorizon_4 : decode bb_U_shiftToHorizon 4 = .ok (.istore_n 1, 1) := by decide +kernel
theorem dd_U_shiftToHorizon_5 : decode bb_U_shiftToHorizon 5 = .ok (.iload_n 1, 1) := by decide +kernel
theorem dd_U_shiftToHorizon_6 : decode bb_U_shiftToHorizon 6 = .ok (.bipush 16, 2) := by decide +kernel
theorem dd_U_shiftToHorizon_8 : decode bb_U_shiftToHorizon 8 = .ok (.if_icmp .ge 25, 3) := by decide +kernel
theorem dd_U_shiftToHorizon_11 : decode bb_U_shiftToHorizon 11 = .ok (.aload_n 0, 1) := by decide +kernel
theorem dd_U_shiftToHorizon_12 : decode bb_U_shiftToHorizon 12 = .ok (.getfield 22, 3) := by decide +kernel
theorem dd_U_shiftToHorizon_15 : decode bb_U_shiftToHorizon 15 = .ok (.iload_n 1, 1) := by decide +kernel
theorem dd_U_shiftToHorizon_16 : decode bb_U_shiftToHorizon 16 = .ok (.invokestatic 95, 3) := by decide +kernel
theorem dd_U_shiftToHorizon_19 : decode bb_U_shiftToHorizon 19 = .ok (.iadd, 1) := by decide +kernel
theorem dd_U_shiftToHorizon_20 : decode bb_U_shiftToHorizon 20 = .ok (.aload_n 0, 1) := by decide +kernel
theorem dd_U_shiftToHorizon_21 : decode bb_U_shiftToHorizon 21 = .ok (.getfield 16, 3) := by decide +kernel
theorem dd_U_shiftToHorizon_24 : decode bb_U_shiftToHorizon 24 = .ok (.if_icmp .le 9, 3) := by decide +kernel
theorem dd_U_shiftToHorizon_27 : decode bb_U_shiftToHorizon 27 = .ok (.iinc 1 1, 3) := by decide +kernel
theorem dd_U_shiftToHorizon_30 : decode bb_U_shiftToHorizon 30 = .ok (.goto (-25), 3) := by decide +kernel
theorem dd_U_shiftToHorizon_33 : decode bb_U_shiftToHorizon 33 = .ok (.iload_n 1, 1) := by decide +kernel
theorem dd_U_shiftToHorizon_34 : decode bb_U_shiftToHorizon 34 = .ok (.ireturn, 1) := by decide +kernel
theorem dd_U_lengthOf_0 : decode bb_U_lengthOf 0 = .ok (.iconst 1, 1) := by decide +kernel
theorem dd_U_lengthOf_1 : decode bb_U_lengthOf 1 = .ok (.bipush 20, 2) := by decide +kernel
theorem dd_U_lengthOf_3 : decode bb_U_lengthOf 3 = .ok (.iload_n 0, 1) := by decide +kernel
theorem dd_U_lengthOf_4 : decode bb_U_lengthOf 4 = .ok (.isub, 1) := by decide +kernel
theorem dd_U_lengthOf_5 : decode bb_U_lengthOf 5 = .ok (.ishl, 1) := by decide +kernel
theorem dd_U_lengthOf_6 : decode bb_U_lengthOf 6 = .ok (.ireturn, 1) := by decide +kernel
theorem dd_T_prove_0 : decode bb_T_prove 0 = .ok (.aload_n 0, 1) := by decide +kernel
theorem dd_T_prove_1 : decode bb_T_prove 1 = .ok (.getfield 39, 3) := by decide +kernel
theorem dd_T_prove_4 : decode bb_T_prove 4 = .ok (.invokevirtual 43, 3) := by decide +kernel
theorem dd_T_prove_7 : decode bb_T_prove 7 = .ok (.aload_n 0, 1) := by decide +kernel
theorem dd_T_prove_8 : decode bb_T_prove 8 = .ok (.getfield 30, 3) := by decide +kernel
theorem dd_T_prove_11 : decode bb_T_prove 11 = .ok (.aload_n 2, 1) := by decide +kernel
theorem dd_T_prove_12 : decode bb_T_prove 12 = .ok (.invokevirtual 46, 3) := by decide +kernel
theorem dd_T_prove_15 : decode bb_T_prove 15 = .ok (.iconst 1, 1) := by decide +kernel
theorem dd_T_prove_16 : decode bb_T_prove 16 = .ok (.istore 4, 2) := by decide +kernel
theorem dd_T_prove_18 : decode bb_T_prove 18 = .ok (.iload 4, 2) := by decide +kernel
theorem dd_T_prove_20 : decode bb_T_prove 20 = .ok (.bipush 8, 2) := by decide +kernel
theorem dd_T_prove_22 : decode bb_T_prove 22 = .ok (.if_icmp .gt 63, 3) := by decide +kernel
theorem dd_T_prove_25 : decode bb_T_prove 25 = .ok (.aload_n 0, 1) := by decide +kernel
theorem dd_T_prove_26 : decode bb_T_prove 26 = .ok (.aload_n 1, 1) := by decide +kernel
theorem dd_T_prove_27 : decode bb_T_prove 27 = .ok (.aload_n 2, 1) := by decide +kernel
theorem dd_T_prove_28 : decode bb_T_prove 28 = .ok (.iload_n 3, 1) := by decide +kernel
theorem dd_T_prove_29 : decode bb_T_prove 29 = .ok (.invokevirtual 50, 3) := by decide +kernel
theorem dd_T_prove_32 : decode bb_T_prove 32 = .ok (.istore 5, 2) := by decide +kernel
theorem dd_T_prove_34 : decode bb_T_prove 34 = .ok (.aload_n 0, 1) := by decide +kernel
theorem dd_T_prove_35 : decode bb_T_prove 35 = .ok (.getfield 39, 3) := by decide +kernel
theorem dd_T_prove_38 : decode bb_T_prove 38 = .ok (.getfield 54, 3) := by decide +kernel
theorem dd_T_prove_41 : decode bb_T_prove 41 = .ok (.ifCond .eq 5, 3) := by decide +kernel
theorem dd_T_prove_44 : decode bb_T_prove 44 = .ok (.iconst 2, 1) := by decide +kernel
theorem dd_T_prove_45 : decode bb_T_prove 45 = .ok (.ireturn, 1) := by decide +kernel
theorem dd_T_prove_46 : decode bb_T_prove 46 = .ok (.iload 4, 2) := by decide +kernel
theorem dd_T_prove_48 : decode bb_T_prove 48 = .ok (.iconst 1, 1) := by decide +kernel
theorem dd_T_prove_49 : decode bb_T_prove 49 = .ok (.if_icmp .le 10, 3) := by decide +kernel
theorem dd_T_prove_52 : decode bb_T_prove 52 = .ok (.iload 5, 2) := by decide +kernel
theorem dd_T_prove_54 : decode bb_T_prove 54 = .ok (.ifCond .eq 5, 3) := by decide +kernel
theorem dd_T_prove_57 : decode bb_T_prove 57 = .ok (.iconst 0, 1) := by decide +kernel
theorem dd_T_prove_58 : decode bb_T_prove 58 = .ok (.ireturn, 1) := by decide +kernel
theorem dd_T_prove_59 : decode bb_T_prove 59 = .ok (.aload_n 0, 1) := by decide +kernel
theorem dd_T_prove_60 : decode bb_T_prove 60 = .ok (.aload_n 1, 1) := by decide +kernel
theorem dd_T_prove_61 : decode bb_T_prove 61 = .ok (.getfield 58, 3) := by decide +kernel
theorem dd_T_prove_64 : decode bb_T_prove 64 = .ok (.invokevirtual 64, 3) := by decide +kernel
theorem dd_T_prove_67 : decode bb_T_prove 67 = .ok (.aload_n 0, 1) := by decide +kernel
theorem dd_T_prove_68 : decode bb_T_prove 68 = .ok (.getfield 39, 3) := by decide +kernel
theorem dd_T_prove_71 : decode bb_T_prove 71 = .ok (.getfield 54, 3) := by decide +kernel
theorem dd_T_prove_74 : decode bb_T_prove 74 = .ok (.ifCond .eq 5, 3) := by decide +kernel
theorem dd_T_prove_77 : decode bb_T_prove 77 = .ok (.iconst 2, 1) := by decide +kernel
theorem dd_T_prove_78 : decode bb_T_prove 78 = .ok (.ireturn, 1) := by decide +kernel
theorem dd_T_prove_79 : decode bb_T_prove 79 = .ok (.iinc 4 1, 3) := by decide +kernel
theorem dd_T_prove_82 : decode bb_T_prove 82 = .ok (.goto (-64), 3) := by decide +kernel
theorem dd_T_prove_85 : decode bb_T_prove 85 = .ok (.iconst 1, 1) := by decide +kernel
theorem dd_T_prove_86 : decode bb_T_prove 86 = .ok (.ireturn, 1) := by decide +kernel
theorem dd_T_reach_0 : decode bb_T_reach 0 = .ok (.iconst 1, 1) := by decide +kernel
theorem dd_T_reach_1 : decode bb_T_reach 1 = .ok (.istore 4, 2) := by decide +kernel
theorem dd_T_reach_3 : decode bb_T_reach 3 = .ok (.iconst 0, 1) := by decide +kernel
theorem dd_T_reach_4 : decode bb_T_reach 4 = .ok (.istore 5, 2) := by decide +kernel
theorem dd_T_reach_6 : decode bb_T_reach 6 = .ok (.iload 5, 2) := by decide +kernel
theorem dd_T_reach_8 : decode bb_T_reach 8 = .ok (.aload_n 1, 1) := by decide +kernel
theorem dd_T_reach_9 : decode bb_T_reach 9 = .ok (.getfield 58, 3) := by decide +kernel
theorem dd_T_reach_12 : decode bb_T_reach 12 = .ok (.if_icmp .ge 125, 3) := by decide +kernel
theorem dd_T_reach_15 : decode bb_T_reach 15 = .ok (.aload_n 1, 1) := by decide +kernel
theorem dd_T_reach_16 : decode bb_T_reach 16 = .ok (.getfield 67, 3) := by decide +kernel
theorem dd_T_reach_19 : decode bb_T_reach 19 = .ok (.iload 5, 2) := by decide +kernel
theorem dd_T_reach_21 : decode bb_T_reach 21 = .ok (.aaload, 1) := by decide +kernel
theorem dd_T_reach_22 : decode bb_T_reach 22 = .ok (.aload_n 0, 1) := by decide +kernel
theorem dd_T_reach_23 : decode bb_T_reach 23 = .ok (.getfield 30, 3) := by decide +kernel
theorem dd_T_reach_26 : decode bb_T_reach 26 = .ok (.aload_n 0, 1) := by decide +kernel
theorem dd_T_reach_27 : decode bb_T_reach 27 = .ok (.getfield 39, 3) := by decide +kernel
theorem dd_T_reach_30 : decode bb_T_reach 30 = .ok (.invokevirtual 71, 3) := by decide +kernel
theorem dd_T_reach_33 : decode bb_T_reach 33 = .ok (.aload_n 0, 1) := by decide +kernel
theorem dd_T_reach_34 : decode bb_T_reach 34 = .ok (.getfield 39, 3) := by decide +kernel
theorem dd_T_reach_37 : decode bb_T_reach 37 = .ok (.lconst 0, 1) := by decide +kernel
theorem dd_T_reach_38 : decode bb_T_reach 38 = .ok (.iload_n 3, 1) := by decide +kernel
theorem dd_T_reach_39 : decode bb_T_reach 39 = .ok (.i2l, 1) := by decide +kernel
theorem dd_T_reach_40 : decode bb_T_reach 40 = .ok (.invokevirtual 77, 3) := by decide +kernel
theorem dd_T_reach_43 : decode bb_T_reach 43 = .ok (.aload_n 0, 1) := by decide +kernel
theorem dd_T_reach_44 : decode bb_T_reach 44 = .ok (.getfield 39, 3) := by decide +kernel
theorem dd_T_reach_47 : decode bb_T_reach 47 = .ok (.aload_n 2, 1) := by decide +kernel
theorem dd_T_reach_48 : decode bb_T_reach 48 = .ok (.getfield 81, 3) := by decide +kernel
theorem dd_T_reach_51 : decode bb_T_reach 51 = .ok (.iload 5, 2) := by decide +kernel
theorem dd_T_reach_53 : decode bb_T_reach 53 = .ok (.laload, 1) := by decide +kernel
theorem dd_T_reach_54 : decode bb_T_reach 54 = .ok (.aload_n 2, 1) := by decide +kernel
theorem dd_T_reach_55 : decode bb_T_reach 55 = .ok (.getfield 85, 3) := by decide +kernel
theorem dd_T_reach_58 : decode bb_T_reach 58 = .ok (.iload 5, 2) := by decide +kernel
theorem dd_T_reach_60 : decode bb_T_reach 60 = .ok (.laload, 1) := by decide +kernel
theorem dd_T_reach_61 : decode bb_T_reach 61 = .ok (.invokevirtual 88, 3) := by decide +kernel
theorem dd_T_reach_64 : decode bb_T_reach 64 = .ok (.aload_n 0, 1) := by decide +kernel
theorem dd_T_reach_65 : decode bb_T_reach 65 = .ok (.getfield 14, 3) := by decide +kernel
theorem dd_T_reach_68 : decode bb_T_reach 68 = .ok (.iload 5, 2) := by decide +kernel
theorem dd_T_reach_70 : decode bb_T_reach 70 = .ok (.aload_n 0, 1) := by decide +kernel
theorem dd_T_reach_71 : decode bb_T_reach 71 = .ok (.getfield 39, 3) := by decide +kernel
theorem dd_T_reach_74 : decode bb_T_reach 74 = .ok (.invokevirtual 91, 3) := by decide +kernel
theorem dd_T_reach_77 : decode bb_T_reach 77 = .ok (.iload 4, 2) := by decide +kernel
theorem dd_T_reach_79 : decode bb_T_reach 79 = .ok (.ifCond .eq 49, 3) := by decide +kernel
theorem dd_T_reach_82 : decode bb_T_reach 82 = .ok (.aload_n 0, 1) := by decide +kernel
theorem dd_T_reach_83 : decode bb_T_reach 83 = .ok (.getfield 30, 3) := by decide +kernel
theorem dd_T_reach_86 : decode bb_T_reach 86 = .ok (.getfield 81, 3) := by decide +kernel
theorem dd_T_reach_89 : decode bb_T_reach 89 = .ok (.iload 5, 2) := by decide +kernel
theorem dd_T_reach_91 : decode bb_T_reach 91 = .ok (.laload, 1) := by decide +kernel
theorem dd_T_reach_92 : decode bb_T_reach 92 = .ok (.aload_n 0, 1) := by decide +kernel
theorem dd_T_reach_93 : decode bb_T_reach 93 = .ok (.getfield 39, 3) := by decide +kernel
theorem dd_T_reach_96 : decode bb_T_reach 96 = .ok (.getfield 95, 3) := by decide +kernel
theorem dd_T_reach_99 : decode bb_T_reach 99 = .ok (.lcmp, 1) := by decide +kernel
theorem dd_T_reach_100 : decode bb_T_reach 100 = .ok (.ifCond .gt 28, 3) := by decide +kernel
theorem dd_T_reach_103 : decode bb_T_reach 103 = .ok (.aload_n 0, 1) := by decide +kernel
theorem dd_T_reach_104 : decode bb_T_reach 104 = .ok (.getfield 39, 3) := by decide +kernel
theorem dd_T_reach_107 : decode bb_T_reach 107 = .ok (.getfield 98, 3) := by decide +kernel
theorem dd_T_reach_110 : decode bb_T_reach 110 = .ok (.aload_n 0, 1) := by decide +kernel
theorem dd_T_reach_111 : decode bb_T_reach 111 = .ok (.getfield 30, 3) := by decide +kernel
theorem dd_T_reach_114 : decode bb_T_reach 114 = .ok (.getfield 85, 3) := by decide +kernel
theorem dd_T_reach_117 : decode bb_T_reach 117 = .ok (.iload 5, 2) := by decide +kernel
theorem dd_T_reach_119 : decode bb_T_reach 119 = .ok (.laload, 1) := by decide +kernel
theorem dd_T_reach_120 : decode bb_T_reach 120 = .ok (.lcmp, 1) := by decide +kernel
theorem dd_T_reach_121 : decode bb_T_reach 121 = .ok (.ifCond .gt 7, 3) := by decide +kernel
theorem dd_T_reach_124 : decode bb_T_reach 124 = .ok (.iconst 1, 1) := by decide +kernel
theorem dd_T_reach_125 : decode bb_T_reach 125 = .ok (.goto 4, 3) := by decide +kernel
theorem dd_T_reach_128 : decode bb_T_reach 128 = .ok (.iconst 0, 1) := by decide +kernel
theorem dd_T_reach_129 : decode bb_T_reach 129 = .ok (.istore 4, 2) := by decide +kernel
theorem dd_T_reach_131 : decode bb_T_reach 131 = .ok (.iinc 5 1, 3) := by decide +kernel
theorem dd_T_reach_134 : decode bb_T_reach 134 = .ok (.goto (-128), 3) := by decide +kernel
theorem dd_T_reach_137 : decode bb_T_reach 137 = .ok (.iload 4, 2) := by decide +kernel
theorem dd_T_reach_139 : decode bb_T_reach 139 = .ok (.ireturn, 1) := by decide +kernel
theorem dd_R_put_0 : decode bb_R_put 0 = .ok (.aload_n 0, 1) := by decide +kernel
theorem dd_R_put_1 : decode bb_R_put 1 = .ok (.getfield 7, 3) := by decide +kernel
theorem dd_R_put_4 : decode bb_R_put 4 = .ok (.iload_n 1, 1) := by decide +kernel
theorem dd_R_put_5 : decode bb_R_put 5 = .ok (.aload_n 2, 1) := by decide +kernel
theorem dd_R_put_6 : decode bb_R_put 6 = .ok (.getfield 16, 3) := by decide +kernel
theorem dd_R_put_9 : decode bb_R_put 9 = .ok (.lastore, 1) := by decide +kernel
theorem dd_R_put_10 : decode bb_R_put 10 = .ok (.aload_n 0, 1) := by decide +kernel
theorem dd_R_put_11 : decode bb_R_put 11 = .ok (.getfield 13, 3) := by decide +kernel
theorem dd_R_put_14 : decode bb_R_put 14 = .ok (.iload_n 1, 1) := by decide +kernel
theorem dd_R_put_15 : decode bb_R_put 15 = .ok (.aload_n 2, 1) := by decide +kernel
theorem dd_R_put_16 : decode bb_R_put 16 = .ok (.getfield 21, 3) := by decide +kernel
theorem dd_R_put_19 : decode bb_R_put 19 = .ok (.lastore, 1) := by decide +kernel
theorem dd_R_put_20 : decode bb_R_put 20 = .ok (.return_, 1) := by decide +kernel
theorem dd_T_widenGuess_0 : decode bb_T_widenGuess 0 = .ok (.iconst 0, 1) := by decide +kernel
theorem dd_T_widenGuess_1 : decode bb_T_widenGuess 1 = .ok (.istore_n 2, 1) := by decide +kernel
theorem dd_T_widenGuess_2 : decode bb_T_widenGuess 2 = .ok (.iload_n 2, 1) := by decide +kernel
theorem dd_T_widenGuess_3 : decode bb_T_widenGuess 3 = .ok (.iload_n 1, 1) := by decide +kernel
theorem dd_T_widenGuess_4 : decode bb_T_widenGuess 4 = .ok (.if_icmp .ge 94, 3) := by decide +kernel
theorem dd_T_widenGuess_7 : decode bb_T_widenGuess 7 = .ok (.aload_n 0, 1) := by decide +kernel
theorem dd_T_widenGuess_8 : decode bb_T_widenGuess 8 = .ok (.getfield 30, 3) := by decide +kernel
theorem dd_T_widenGuess_11 : decode bb_T_widenGuess 11 = .ok (.getfield 81, 3) := by decide +kernel
theorem dd_T_widenGuess_14 : decode bb_T_widenGuess 14 = .ok (.iload_n 2, 1) := by decide +kernel
theorem dd_T_widenGuess_15 : decode bb_T_widenGuess 15 = .ok (.laload, 1) := by decide +kernel
theorem dd_T_widenGuess_16 : decode bb_T_widenGuess 16 = .ok (.aload_n 0, 1) := by decide +kernel
theorem dd_T_widenGuess_17 : decode bb_T_widenGuess 17 = .ok (.getfield 14, 3) := by decide +kernel
theorem dd_T_widenGuess_20 : decode bb_T_widenGuess 20 = .ok (.getfield 81, 3) := by decide +kernel
theorem dd_T_widenGuess_23 : decode bb_T_widenGuess 23 = .ok (.iload_n 2, 1) := by decide +kernel
theorem dd_T_widenGuess_24 : decode bb_T_widenGuess 24 = .ok (.laload, 1) := by decide +kernel
theorem dd_T_widenGuess_25 : decode bb_T_widenGuess 25 = .ok (.invokestatic 100, 3) := by decide +kernel
theorem dd_T_widenGuess_28 : decode bb_T_widenGuess 28 = .ok (.lstore_n 3, 1) := by decide +kernel
theorem dd_T_widenGuess_29 : decode bb_T_widenGuess 29 = .ok (.aload_n 0, 1) := by decide +kernel
theorem dd_T_widenGuess_30 : decode bb_T_widenGuess 30 = .ok (.getfield 30, 3) := by decide +kernel
theorem dd_T_widenGuess_33 : decode bb_T_widenGuess 33 = .ok (.getfield 85, 3) := by decide +kernel
theorem dd_T_widenGuess_36 : decode bb_T_widenGuess 36 = .ok (.iload_n 2, 1) := by decide +kernel
theorem dd_T_widenGuess_37 : decode bb_T_widenGuess 37 = .ok (.laload, 1) := by decide +kernel
theorem dd_T_widenGuess_38 : decode bb_T_widenGuess 38 = .ok (.aload_n 0, 1) := by decide +kernel
theorem dd_T_widenGuess_39 : decode bb_T_widenGuess 39 = .ok (.getfield 14, 3) := by decide +kernel
theorem dd_T_widenGuess_42 : decode bb_T_widenGuess 42 = .ok (.getfield 85, 3) := by decide +kernel
theorem dd_T_widenGuess_45 : decode bb_T_widenGuess 45 = .ok (.iload_n 2, 1) := by decide +kernel
theorem dd_T_widenGuess_46 : decode bb_T_widenGuess 46 = .ok (.laload, 1) := by decide +kernel
theorem dd_T_widenGuess_47 : decode bb_T_widenGuess 47 = .ok (.invokestatic 106, 3) := by decide +kernel
theorem dd_T_widenGuess_50 : decode bb_T_widenGuess 50 = .ok (.lstore 5, 2) := by decide +kernel
theorem dd_T_widenGuess_52 : decode bb_T_widenGuess 52 = .ok (.lload 5, 2) := by decide +kernel
theorem dd_T_widenGuess_54 : decode bb_T_widenGuess 54 = .ok (.lload_n 3, 1) := by decide +kernel
theorem dd_T_widenGuess_55 : decode bb_T_widenGuess 55 = .ok (.lsub, 1) := by decide +kernel
theorem dd_T_widenGuess_56 : decode bb_T_widenGuess 56 = .ok (.ldc2_w 109, 3) := by decide +kernel
theorem dd_T_widenGuess_59 : decode bb_T_widenGuess 59 = .ok (.ldiv, 1) := by decide +kernel
theorem dd_T_widenGuess_60 : decode bb_T_widenGuess 60 = .ok (.lconst 1, 1) := by decide +kernel
theorem dd_T_widenGuess_61 : decode bb_T_widenGuess 61 = .ok (.ladd, 1) := by decide +kernel
theorem dd_T_widenGuess_62 : decode bb_T_widenGuess 62 = .ok (.lstore 7, 2) := by decide +kernel
theorem dd_T_widenGuess_64 : decode bb_T_widenGuess 64 = .ok (.aload_n 0, 1) := by decide +kernel
theorem dd_T_widenGuess_65 : decode bb_T_widenGuess 65 = .ok (.getfield 39, 3) := by decide +kernel
theorem dd_T_widenGuess_68 : decode bb_T_widenGuess 68 = .ok (.lload_n 3, 1) := by decide +kernel
theorem dd_T_widenGuess_69 : decode bb_T_widenGuess 69 = .ok (.lload 7, 2) := by decide +kernel
theorem dd_T_widenGuess_71 : decode bb_T_widenGuess 71 = .ok (.lsub, 1) := by decide +kernel
theorem dd_T_widenGuess_72 : decode bb_T_widenGuess 72 = .ok (.lload 5, 2) := by decide +kernel
theorem dd_T_widenGuess_74 : decode bb_T_widenGuess 74 = .ok (.lload 7, 2) := by decide +kernel
theorem dd_T_widenGuess_76 : decode bb_T_widenGuess 76 = .ok (.ladd, 1) := by decide +kernel
theorem dd_T_widenGuess_77 : decode bb_T_widenGuess 77 = .ok (.invokevirtual 111, 3) := by decide +kernel
theorem dd_T_widenGuess_80 : decode bb_T_widenGuess 80 = .ok (.aload_n 0, 1) := by decide +kernel
theorem dd_T_widenGuess_81 : decode bb_T_widenGuess 81 = .ok (.getfield 30, 3) := by decide +kernel
theorem dd_T_widenGuess_84 : decode bb_T_widenGuess 84 = .ok (.iload_n 2, 1) := by decide +kernel
theorem dd_T_widenGuess_85 : decode bb_T_widenGuess 85 = .ok (.aload_n 0, 1) := by decide +kernel
theorem dd_T_widenGuess_86 : decode bb_T_widenGuess 86 = .ok (.getfield 39, 3) := by decide +kernel
theorem dd_T_widenGuess_89 : decode bb_T_widenGuess 89 = .ok (.invokevirtual 91, 3) := by decide +kernel
theorem dd_T_widenGuess_92 : decode bb_T_widenGuess 92 = .ok (.iinc 2 1, 3) := by decide +kernel
theorem dd_T_widenGuess_95 : decode bb_T_widenGuess 95 = .ok (.goto (-93), 3) := by decide +kernel
theorem dd_T_widenGuess_98 : decode bb_T_widenGuess 98 = .ok (.return_, 1) := by decide +kernel
theorem dd_I_set_0 : decode bb_I_set 0 = .ok (.aload_n 0, 1) := by decide +kernel
theorem dd_I_set_1 : decode bb_I_set 1 = .ok (.lload_n 1, 1) := by decide +kernel
theorem dd_I_set_2 : decode bb_I_set 2 = .ok (.putfield 15, 3) := by decide +kernel
theorem dd_I_set_5 : decode bb_I_set 5 = .ok (.aload_n 0, 1) := by decide +kernel
theorem dd_I_set_6 : decode bb_I_set 6 = .ok (.lload_n 3, 1) := by decide +kernel
theorem dd_I_set_7 : decode bb_I_set 7 = .ok (.putfield 19, 3) := by decide +kernel
theorem dd_I_set_10 : decode bb_I_set 10 = .ok (.aload_n 0, 1) := by decide +kernel
theorem dd_I_set_11 : decode bb_I_set 11 = .ok (.invokevirtual 22, 3) := by decide +kernel
theorem dd_I_set_14 : decode bb_I_set 14 = .ok (.return_, 1) := by decide +kernel
theorem dd_T_narrow_0 : decode bb_T_narrow 0 = .ok (.aload_n 0, 1) := by decide +kernel
theorem dd_T_narrow_1 : decode bb_T_narrow 1 = .ok (.getfield 26, 3) := by decide +kernel
theorem dd_T_narrow_4 : decode bb_T_narrow 4 = .ok (.aload_n 1, 1) := by decide +kernel
theorem dd_T_narrow_5 : decode bb_T_narrow 5 = .ok (.aload_n 0, 1) := by decide +kernel
theorem dd_T_narrow_6 : decode bb_T_narrow 6 = .ok (.getfield 14, 3) := by decide +kernel
theorem dd_T_narrow_9 : decode bb_T_narrow 9 = .ok (.iload 4, 2) := by decide +kernel
theorem dd_T_narrow_11 : decode bb_T_narrow 11 = .ok (.iconst 1, 1) := by decide +kernel
theorem dd_T_narrow_12 : decode bb_T_narrow 12 = .ok (.iadd, 1) := by decide +kernel
theorem dd_T_narrow_13 : decode bb_T_narrow 13 = .ok (.invokevirtual 114, 3) := by decide +kernel
theorem dd_T_narrow_16 : decode bb_T_narrow 16 = .ok (.ifCond .ne 5, 3) := by decide +kernel
theorem dd_T_narrow_19 : decode bb_T_narrow 19 = .ok (.iconst 2, 1) := by decide +kernel
theorem dd_T_narrow_20 : decode bb_T_narrow 20 = .ok (.ireturn, 1) := by decide +kernel
theorem dd_T_narrow_21 : decode bb_T_narrow 21 = .ok (.iconst 0, 1) := by decide +kernel
theorem dd_T_narrow_22 : decode bb_T_narrow 22 = .ok (.istore 5, 2) := by decide +kernel
theorem dd_T_narrow_24 : decode bb_T_narrow 24 = .ok (.iload 5, 2) := by decide +kernel
theorem dd_T_narrow_26 : decode bb_T_narrow 26 = .ok (.aload_n 1, 1) := by decide +kernel
theorem dd_T_narrow_27 : decode bb_T_narrow 27 = .ok (.getfield 58, 3) := by decide +kernel
theorem dd_T_narrow_30 : decode bb_T_narrow 30 = .ok (.if_icmp .ge 45, 3) := by decide +kernel
theorem dd_T_narrow_33 : decode bb_T_narrow 33 = .ok (.aload_n 0, 1) := by decide +kernel
theorem dd_T_narrow_34 : decode bb_T_narrow 34 = .ok (.getfield 39, 3) := by decide +kernel
theorem dd_T_narrow_37 : decode bb_T_narrow 37 = .ok (.aload_n 0, 1) := by decide +kernel
theorem dd_T_narrow_38 : decode bb_T_narrow 38 = .ok (.getfield 26, 3) := by decide +kernel
theorem dd_T_narrow_41 : decode bb_T_narrow 41 = .ok (.getfield 117, 3) := by decide +kernel
theorem dd_T_narrow_44 : decode bb_T_narrow 44 = .ok (.iload 5, 2) := by decide +kernel
theorem dd_T_narrow_46 : decode bb_T_narrow 46 = .ok (.iload 4, 2) := by decide +kernel
theorem dd_T_narrow_48 : decode bb_T_narrow 48 = .ok (.iconst 1, 1) := by decide +kernel
theorem dd_T_narrow_49 : decode bb_T_narrow 49 = .ok (.iadd, 1) := by decide +kernel
theorem dd_T_narrow_50 : decode bb_T_narrow 50 = .ok (.invokestatic 120, 3) := by decide +kernel
theorem dd_T_narrow_53 : decode bb_T_narrow 53 = .ok (.invokevirtual 124, 3) := by decide +kernel
theorem dd_T_narrow_56 : decode bb_T_narrow 56 = .ok (.aload_n 0, 1) := by decide +kernel
theorem dd_T_narrow_57 : decode bb_T_narrow 57 = .ok (.getfield 33, 3) := by decide +kernel
theorem dd_T_narrow_60 : decode bb_T_narrow 60 = .ok (.iload 5, 2) := by decide +kernel
theorem dd_T_narrow_62 : decode bb_T_narrow 62 = .ok (.aload_n 0, 1) := by decide +kernel
theorem dd_T_narrow_63 : decode bb_T_narrow 63 = .ok (.getfield 39, 3) := by decide +kernel
theorem dd_T_narrow_66 : decode bb_T_narrow 66 = .ok (.invokevirtual 91, 3) := by decide +kernel
theorem dd_T_narrow_69 : decode bb_T_narrow 69 = .ok (.iinc 5 1, 3) := by decide +kernel
theorem dd_T_narrow_72 : decode bb_T_narrow 72 = .ok (.goto (-48), 3) := by decide +kernel
theorem dd_T_narrow_75 : decode bb_T_narrow 75 = .ok (.aload_n 0, 1) := by decide +kernel
theorem dd_T_narrow_76 : decode bb_T_narrow 76 = .ok (.getfield 26, 3) := by decide +kernel
theorem dd_T_narrow_79 : decode bb_T_narrow 79 = .ok (.aload_n 1, 1) := by decide +kernel
theorem dd_T_narrow_80 : decode bb_T_narrow 80 = .ok (.aload_n 2, 1) := by decide +kernel
theorem dd_T_narrow_81 : decode bb_T_narrow 81 = .ok (.iload 4, 2) := by decide +kernel
theorem dd_T_narrow_83 : decode bb_T_narrow 83 = .ok (.invokevirtual 114, 3) := by decide +kernel
theorem dd_T_narrow_86 : decode bb_T_narrow 86 = .ok (.ifCond .ne 5, 3) := by decide +kernel
theorem dd_T_narrow_89 : decode bb_T_narrow 89 = .ok (.iconst 2, 1) := by decide +kernel
theorem dd_T_narrow_90 : decode bb_T_narrow 90 = .ok (.ireturn, 1) := by decide +kernel
theorem dd_T_narrow_91 : decode bb_T_narrow 91 = .ok (.iconst 0, 1) := by decide +kernel
theorem dd_T_narrow_92 : decode bb_T_narrow 92 = .ok (.istore 5, 2) := by decide +kernel
theorem dd_T_narrow_94 : decode bb_T_narrow 94 = .ok (.iload 5, 2) := by decide +kernel
theorem dd_T_narrow_96 : decode bb_T_narrow 96 = .ok (.aload_n 1, 1) := by decide +kernel
theorem dd_T_narrow_97 : decode bb_T_narrow 97 = .ok (.getfield 58, 3) := by decide +kernel
theorem dd_T_narrow_100 : decode bb_T_narrow 100 = .ok (.if_icmp .ge 24, 3) := by decide +kernel
theorem dd_T_narrow_103 : decode bb_T_narrow 103 = .ok (.aload_n 0, 1) := by decide +kernel
theorem dd_T_narrow_104 : decode bb_T_narrow 104 = .ok (.iload 5, 2) := by decide +kernel
theorem dd_T_narrow_106 : decode bb_T_narrow 106 = .ok (.iload_n 3, 1) := by decide +kernel
theorem dd_T_narrow_107 : decode bb_T_narrow 107 = .ok (.iload 4, 2) := by decide +kernel
theorem dd_T_narrow_109 : decode bb_T_narrow 109 = .ok (.invokevirtual 128, 3) := by decide +kernel
theorem dd_T_narrow_112 : decode bb_T_narrow 112 = .ok (.aload_n 0, 1) := by decide +kernel
theorem dd_T_narrow_113 : decode bb_T_narrow 113 = .ok (.iload 5, 2) := by decide +kernel
theorem dd_T_narrow_115 : decode bb_T_narrow 115 = .ok (.invokevirtual 132, 3) := by decide +kernel
theorem dd_T_narrow_118 : decode bb_T_narrow 118 = .ok (.iinc 5 1, 3) := by decide +kernel
theorem dd_T_narrow_121 : decode bb_T_narrow 121 = .ok (.goto (-27), 3) := by decide +kernel
theorem dd_T_narrow_124 : decode bb_T_narrow 124 = .ok (.aload_n 0, 1) := by decide +kernel
theorem dd_T_narrow_125 : decode bb_T_narrow 125 = .ok (.getfield 39, 3) := by decide +kernel
theorem dd_T_narrow_128 : decode bb_T_narrow 128 = .ok (.getfield 54, 3) := by decide +kernel
theorem dd_T_narrow_131 : decode bb_T_narrow 131 = .ok (.ifCond .eq 7, 3) := by decide +kernel
theorem dd_T_narrow_134 : decode bb_T_narrow 134 = .ok (.iconst 2, 1) := by decide +kernel
theorem dd_T_narrow_135 : decode bb_T_narrow 135 = .ok (.goto 4, 3) := by decide +kernel
theorem dd_T_narrow_138 : decode bb_T_narrow 138 = .ok (.iconst 0, 1) := by decide +kernel
theorem dd_T_narrow_139 : decode bb_T_narrow 139 = .ok (.ireturn, 1) := by decide +kernel
theorem dd_C_fill_0 : decode bb_C_fill 0 = .ok (.aload_n 0, 1) := by decide +kernel
theorem dd_C_fill_1 : decode bb_C_fill 1 = .ok (.getfield 26, 3) := by decide +kernel
theorem dd_C_fill_4 : decode bb_C_fill 4 = .ok (.invokevirtual 30, 3) := by decide +kernel
theorem dd_C_fill_7 : decode bb_C_fill 7 = .ok (.iconst 0, 1) := by decide +kernel
theorem dd_C_fill_8 : decode bb_C_fill 8 = .ok (.istore 4, 2) := by decide +kernel
theorem dd_C_fill_10 : decode bb_C_fill 10 = .ok (.iload 4, 2) := by decide +kernel
theorem dd_C_fill_12 : decode bb_C_fill 12 = .ok (.aload_n 1, 1) := by decide +kernel
theorem dd_C_fill_13 : decode bb_C_fill 13 = .ok (.getfield 33, 3) := by decide +kernel
theorem dd_C_fill_16 : decode bb_C_fill 16 = .ok (.if_icmp .ge 36, 3) := by decide +kernel
theorem dd_C_fill_19 : decode bb_C_fill 19 = .ok (.aload_n 0, 1) := by decide +kernel
theorem dd_C_fill_20 : decode bb_C_fill 20 = .ok (.getfield 26, 3) := by decide +kernel
theorem dd_C_fill_23 : decode bb_C_fill 23 = .ok (.aload_n 2, 1) := by decide +kernel
theorem dd_C_fill_24 : decode bb_C_fill 24 = .ok (.iload 4, 2) := by decide +kernel
theorem dd_C_fill_26 : decode bb_C_fill 26 = .ok (.invokevirtual 39, 3) := by decide +kernel
theorem dd_C_fill_29 : decode bb_C_fill 29 = .ok (.aload_n 0, 1) := by decide +kernel
theorem dd_C_fill_30 : decode bb_C_fill 30 = .ok (.getfield 16, 3) := by decide +kernel
theorem dd_C_fill_33 : decode bb_C_fill 33 = .ok (.iload 4, 2) := by decide +kernel
theorem dd_C_fill_35 : decode bb_C_fill 35 = .ok (.iconst 0, 1) := by decide +kernel
theorem dd_C_fill_36 : decode bb_C_fill 36 = .ok (.invokestatic 43, 3) := by decide +kernel
theorem dd_C_fill_39 : decode bb_C_fill 39 = .ok (.aload_n 0, 1) := by decide +kernel
theorem dd_C_fill_40 : decode bb_C_fill 40 = .ok (.getfield 26, 3) := by decide +kernel
theorem dd_C_fill_43 : decode bb_C_fill 43 = .ok (.invokevirtual 47, 3) := by decide +kernel
theorem dd_C_fill_46 : decode bb_C_fill 46 = .ok (.iinc 4 1, 3) := by decide +kernel
theorem dd_C_fill_49 : decode bb_C_fill 49 = .ok (.goto (-39), 3) := by decide +kernel
theorem dd_C_fill_52 : decode bb_C_fill 52 = .ok (.iconst 0, 1) := by decide +kernel
theorem dd_C_fill_53 : decode bb_C_fill 53 = .ok (.istore 4, 2) := by decide +kernel
theorem dd_C_fill_55 : decode bb_C_fill 55 = .ok (.iload 4, 2) := by decide +kernel
theorem dd_C_fill_57 : decode bb_C_fill 57 = .ok (.iload_n 3, 1) := by decide +kernel
theorem dd_C_fill_58 : decode bb_C_fill 58 = .ok (.if_icmp .ge 86, 3) := by decide +kernel
theorem dd_C_fill_61 : decode bb_C_fill 61 = .ok (.aload_n 0, 1) := by decide +kernel
theorem dd_C_fill_62 : decode bb_C_fill 62 = .ok (.getfield 26, 3) := by decide +kernel
theorem dd_C_fill_65 : decode bb_C_fill 65 = .ok (.getfield 51, 3) := by decide +kernel
theorem dd_C_fill_68 : decode bb_C_fill 68 = .ok (.ifCond .ne 76, 3) := by decide +kernel
theorem dd_C_fill_71 : decode bb_C_fill 71 = .ok (.iconst 0, 1) := by decide +kernel
theorem dd_C_fill_72 : decode bb_C_fill 72 = .ok (.istore 5, 2) := by decide +kernel
theorem dd_C_fill_74 : decode bb_C_fill 74 = .ok (.iload 5, 2) := by decide +kernel
theorem dd_C_fill_76 : decode bb_C_fill 76 = .ok (.aload_n 1, 1) := by decide +kernel
theorem dd_C_fill_77 : decode bb_C_fill 77 = .ok (.getfield 33, 3) := by decide +kernel
theorem dd_C_fill_80 : decode bb_C_fill 80 = .ok (.if_icmp .ge 58, 3) := by decide +kernel
theorem dd_C_fill_83 : decode bb_C_fill 83 = .ok (.aload_n 0, 1) := by decide +kernel
theorem dd_C_fill_84 : decode bb_C_fill 84 = .ok (.aload_n 1, 1) := by decide +kernel
theorem dd_C_fill_85 : decode bb_C_fill 85 = .ok (.getfield 55, 3) := by decide +kernel
theorem dd_C_fill_88 : decode bb_C_fill 88 = .ok (.iload 5, 2) := by decide +kernel
theorem dd_C_fill_90 : decode bb_C_fill 90 = .ok (.aaload, 1) := by decide +kernel
theorem dd_C_fill_91 : decode bb_C_fill 91 = .ok (.iload 5, 2) := by decide +kernel
theorem dd_C_fill_93 : decode bb_C_fill 93 = .ok (.bipush 84, 2) := by decide +kernel
theorem dd_C_fill_95 : decode bb_C_fill 95 = .ok (.imul, 1) := by decide +kernel
theorem dd_C_fill_96 : decode bb_C_fill 96 = .ok (.iload 4, 2) := by decide +kernel
theorem dd_C_fill_98 : decode bb_C_fill 98 = .ok (.invokevirtual 59, 3) := by decide +kernel
theorem dd_C_fill_101 : decode bb_C_fill 101 = .ok (.aload_n 0, 1) := by decide +kernel
theorem dd_C_fill_102 : decode bb_C_fill 102 = .ok (.getfield 26, 3) := by decide +kernel
theorem dd_C_fill_105 : decode bb_C_fill 105 = .ok (.iload 4, 2) := by decide +kernel
theorem dd_C_fill_107 : decode bb_C_fill 107 = .ok (.iconst 1, 1) := by decide +kernel
theorem dd_C_fill_108 : decode bb_C_fill 108 = .ok (.iadd, 1) := by decide +kernel
theorem dd_C_fill_109 : decode bb_C_fill 109 = .ok (.invokevirtual 63, 3) := by decide +kernel
theorem dd_C_fill_112 : decode bb_C_fill 112 = .ok (.aload_n 0, 1) := by decide +kernel
theorem dd_C_fill_113 : decode bb_C_fill 113 = .ok (.getfield 16, 3) := by decide +kernel
theorem dd_C_fill_116 : decode bb_C_fill 116 = .ok (.iload 5, 2) := by decide +kernel
theorem dd_C_fill_118 : decode bb_C_fill 118 = .ok (.iload 4, 2) := by decide +kernel
theorem dd_C_fill_120 : decode bb_C_fill 120 = .ok (.iconst 1, 1) := by decide +kernel
theorem dd_C_fill_121 : decode bb_C_fill 121 = .ok (.iadd, 1) := by decide +kernel
theorem dd_C_fill_122 : decode bb_C_fill 122 = .ok (.invokestatic 43, 3) := by decide +kernel
theorem dd_C_fill_125 : decode bb_C_fill 125 = .ok (.aload_n 0, 1) := by decide +kernel
theorem dd_C_fill_126 : decode bb_C_fill 126 = .ok (.getfield 26, 3) := by decide +kernel
theorem dd_C_fill_129 : decode bb_C_fill 129 = .ok (.invokevirtual 47, 3) := by decide +kernel
theorem dd_C_fill_132 : decode bb_C_fill 132 = .ok (.iinc 5 1, 3) := by decide +kernel
theorem dd_C_fill_135 : decode bb_C_fill 135 = .ok (.goto (-61), 3) := by decide +kernel
theorem dd_C_fill_138 : decode bb_C_fill 138 = .ok (.iinc 4 1, 3) := by decide +kernel
theorem dd_C_fill_141 : decode bb_C_fill 141 = .ok (.goto (-86), 3) := by decide +kernel
theorem dd_C_fill_144 : decode bb_C_fill 144 = .ok (.aload_n 0, 1) := by decide +kernel
theorem dd_C_fill_145 : decode bb_C_fill 145 = .ok (.getfield 26, 3) := by decide +kernel
theorem dd_C_fill_148 : decode bb_C_fill 148 = .ok (.getfield 51, 3) := by decide +kernel
theorem dd_C_fill_151 : decode bb_C_fill 151 = .ok (.ifCond .ne 7, 3) := by decide +kernel
theorem dd_C_fill_154 : decode bb_C_fill 154 = .ok (.iconst 1, 1) := by decide +kernel
theorem dd_C_fill_155 : decode bb_C_fill 155 = .ok (.goto 4, 3) := by decide +kernel
theorem dd_C_fill_158 : decode bb_C_fill 158 = .ok (.iconst 0, 1) := by decide +kernel
theorem dd_C_fill_159 : decode bb_C_fill 159 = .ok (.ireturn, 1) := by decide +kernel
theorem dd_C_placeOf_0 : decode bb_C_placeOf 0 = .ok (.iload_n 0, 1) := by decide +kernel
theorem dd_C_placeOf_1 : decode bb_C_placeOf 1 = .ok (.bipush 10, 2) := by decide +kernel
theorem dd_C_placeOf_3 : decode bb_C_placeOf 3 = .ok (.imul, 1) := by decide +kernel
theorem dd_C_placeOf_4 : decode bb_C_placeOf 4 = .ok (.iload_n 1, 1) := by decide +kernel
theorem dd_C_placeOf_5 : decode bb_C_placeOf 5 = .ok (.iadd, 1) := by decide +kernel
theorem dd_C_placeOf_6 : decode bb_C_placeOf 6 = .ok (.ireturn, 1) := by decide +kernel
theorem dd_C_numberOfSide_0 : decode bb_C_numberOfSide 0 = .ok (.lconst 0, 1) := by decide +kernel
theorem dd_C_numberOfSide_1 : decode bb_C_numberOfSide 1 = .ok (.lstore 4, 2) := by decide +kernel
theorem dd_C_numberOfSide_3 : decode bb_C_numberOfSide 3 = .ok (.lconst 0, 1) := by decide +kernel
theorem dd_C_numberOfSide_4 : decode bb_C_numberOfSide 4 = .ok (.lstore 6, 2) := by decide +kernel
theorem dd_C_numberOfSide_6 : decode bb_C_numberOfSide 6 = .ok (.iconst 0, 1) := by decide +kernel
theorem dd_C_numberOfSide_7 : decode bb_C_numberOfSide 7 = .ok (.istore 8, 2) := by decide +kernel
theorem dd_C_numberOfSide_9 : decode bb_C_numberOfSide 9 = .ok (.iload 8, 2) := by decide +kernel
theorem dd_C_numberOfSide_11 : decode bb_C_numberOfSide 11 = .ok (.aload_n 1, 1) := by decide +kernel
theorem dd_C_numberOfSide_12 : decode bb_C_numberOfSide 12 = .ok (.getfield 66, 3) := by decide +kernel
theorem dd_C_numberOfSide_15 : decode bb_C_numberOfSide 15 = .ok (.if_icmp .ge 130, 3) := by decide +kernel
theorem dd_C_numberOfSide_18 : decode bb_C_numberOfSide 18 = .ok (.iload_n 2, 1) := by decide +kernel
theorem dd_C_numberOfSide_19 : decode bb_C_numberOfSide 19 = .ok (.iload 8, 2) := by decide +kernel
theorem dd_C_numberOfSide_21 : decode bb_C_numberOfSide 21 = .ok (.bipush 7, 2) := by decide +kernel
theorem dd_C_numberOfSide_23 : decode bb_C_numberOfSide 23 = .ok (.imul, 1) := by decide +kernel
theorem dd_C_numberOfSide_24 : decode bb_C_numberOfSide 24 = .ok (.iadd, 1) := by decide +kernel
theorem dd_C_numberOfSide_25 : decode bb_C_numberOfSide 25 = .ok (.istore 9, 2) := by decide +kernel
theorem dd_C_numberOfSide_27 : decode bb_C_numberOfSide 27 = .ok (.aload_n 0, 1) := by decide +kernel
theorem dd_C_numberOfSide_28 : decode bb_C_numberOfSide 28 = .ok (.aload_n 1, 1) := by decide +kernel
theorem dd_C_numberOfSide_29 : decode bb_C_numberOfSide 29 = .ok (.iload 8, 2) := by decide +kernel
theorem dd_C_numberOfSide_31 : decode bb_C_numberOfSide 31 = .ok (.iload 9, 2) := by decide +kernel
theorem dd_C_numberOfSide_33 : decode bb_C_numberOfSide 33 = .ok (.iload_n 3, 1) := by decide +kernel
theorem dd_C_numberOfSide_34 : decode bb_C_numberOfSide 34 = .ok (.invokevirtual 71, 3) := by decide +kernel
theorem dd_C_numberOfSide_37 : decode bb_C_numberOfSide 37 = .ok (.iconst 0, 1) := by decide +kernel
theorem dd_C_numberOfSide_38 : decode bb_C_numberOfSide 38 = .ok (.istore 10, 2) := by decide +kernel
theorem dd_C_numberOfSide_40 : decode bb_C_numberOfSide 40 = .ok (.iconst 0, 1) := by decide +kernel
theorem dd_C_numberOfSide_41 : decode bb_C_numberOfSide 41 = .ok (.istore 11, 2) := by decide +kernel
theorem dd_C_numberOfSide_43 : decode bb_C_numberOfSide 43 = .ok (.iload 11, 2) := by decide +kernel
theorem dd_C_numberOfSide_45 : decode bb_C_numberOfSide 45 = .ok (.iconst 3, 1) := by decide +kernel
theorem dd_C_numberOfSide_46 : decode bb_C_numberOfSide 46 = .ok (.if_icmp .ge 64, 3) := by decide +kernel
theorem dd_C_numberOfSide_49 : decode bb_C_numberOfSide 49 = .ok (.aload_n 1, 1) := by decide +kernel
theorem dd_C_numberOfSide_50 : decode bb_C_numberOfSide 50 = .ok (.iload 8, 2) := by decide +kernel
theorem dd_C_numberOfSide_52 : decode bb_C_numberOfSide 52 = .ok (.iload 11, 2) := by decide +kernel
theorem dd_C_numberOfSide_54 : decode bb_C_numberOfSide 54 = .ok (.invokevirtual 75, 3) := by decide +kernel
theorem dd_C_numberOfSide_57 : decode bb_C_numberOfSide 57 = .ok (.istore 12, 2) := by decide +kernel
theorem dd_C_numberOfSide_59 : decode bb_C_numberOfSide 59 = .ok (.iload 12, 2) := by decide +kernel
theorem dd_C_numberOfSide_61 : decode bb_C_numberOfSide 61 = .ok (.ifCond .le 43, 3) := by decide +kernel
theorem dd_C_numberOfSide_64 : decode bb_C_numberOfSide 64 = .ok (.aload_n 0, 1) := by decide +kernel
theorem dd_C_numberOfSide_65 : decode bb_C_numberOfSide 65 = .ok (.iload 9, 2) := by decide +kernel
theorem dd_C_numberOfSide_67 : decode bb_C_numberOfSide 67 = .ok (.iload 10, 2) := by decide +kernel
theorem dd_C_numberOfSide_69 : decode bb_C_numberOfSide 69 = .ok (.iload 11, 2) := by decide +kernel
theorem dd_C_numberOfSide_71 : decode bb_C_numberOfSide 71 = .ok (.iload_n 3, 1) := by decide +kernel
theorem dd_C_numberOfSide_72 : decode bb_C_numberOfSide 72 = .ok (.invokevirtual 78, 3) := by decide +kernel
theorem dd_C_numberOfSide_75 : decode bb_C_numberOfSide 75 = .ok (.iinc 9 1, 3) := by decide +kernel
theorem dd_C_numberOfSide_78 : decode bb_C_numberOfSide 78 = .ok (.aload_n 0, 1) := by decide +kernel
theorem dd_C_numberOfSide_79 : decode bb_C_numberOfSide 79 = .ok (.getfield 20, 3) := by decide +kernel
theorem dd_C_numberOfSide_82 : decode bb_C_numberOfSide 82 = .ok (.iload 9, 2) := by decide +kernel
theorem dd_C_numberOfSide_84 : decode bb_C_numberOfSide 84 = .ok (.iload_n 3, 1) := by decide +kernel
theorem dd_C_numberOfSide_85 : decode bb_C_numberOfSide 85 = .ok (.invokestatic 43, 3) := by decide +kernel
theorem dd_C_numberOfSide_88 : decode bb_C_numberOfSide 88 = .ok (.aload_n 0, 1) := by decide +kernel
theorem dd_C_numberOfSide_89 : decode bb_C_numberOfSide 89 = .ok (.getfield 26, 3) := by decide +kernel
theorem dd_C_numberOfSide_92 : decode bb_C_numberOfSide 92 = .ok (.invokevirtual 47, 3) := by decide +kernel
theorem dd_C_numberOfSide_95 : decode bb_C_numberOfSide 95 = .ok (.iload_n 3, 1) := by decide +kernel
theorem dd_C_numberOfSide_96 : decode bb_C_numberOfSide 96 = .ok (.istore 10, 2) := by decide +kernel
theorem dd_C_numberOfSide_98 : decode bb_C_numberOfSide 98 = .ok (.iinc 12 (-1), 3) := by decide +kernel
theorem dd_C_numberOfSide_101 : decode bb_C_numberOfSide 101 = .ok (.goto (-42), 3) := by decide +kernel
theorem dd_C_numberOfSide_104 : decode bb_C_numberOfSide 104 = .ok (.iinc 11 1, 3) := by decide +kernel
theorem dd_C_numberOfSide_107 : decode bb_C_numberOfSide 107 = .ok (.goto (-64), 3) := by decide +kernel
theorem dd_C_numberOfSide_110 : decode bb_C_numberOfSide 110 = .ok (.aload_n 0, 1) := by decide +kernel
theorem dd_C_numberOfSide_111 : decode bb_C_numberOfSide 111 = .ok (.getfield 26, 3) := by decide +kernel
theorem dd_C_numberOfSide_114 : decode bb_C_numberOfSide 114 = .ok (.lload 4, 2) := by decide +kernel
theorem dd_C_numberOfSide_116 : decode bb_C_numberOfSide 116 = .ok (.lload 6, 2) := by decide +kernel
theorem dd_C_numberOfSide_118 : decode bb_C_numberOfSide 118 = .ok (.invokevirtual 82, 3) := by decide +kernel
theorem dd_C_numberOfSide_121 : decode bb_C_numberOfSide 121 = .ok (.aload_n 0, 1) := by decide +kernel
theorem dd_C_numberOfSide_122 : decode bb_C_numberOfSide 122 = .ok (.getfield 26, 3) := by decide +kernel
theorem dd_C_numberOfSide_125 : decode bb_C_numberOfSide 125 = .ok (.getfield 86, 3) := by decide +kernel
theorem dd_C_numberOfSide_128 : decode bb_C_numberOfSide 128 = .ok (.lstore 4, 2) := by decide +kernel
theorem dd_C_numberOfSide_130 : decode bb_C_numberOfSide 130 = .ok (.aload_n 0, 1) := by decide +kernel
theorem dd_C_numberOfSide_131 : decode bb_C_numberOfSide 131 = .ok (.getfield 26, 3) := by decide +kernel
theorem dd_C_numberOfSide_134 : decode bb_C_numberOfSide 134 = .ok (.getfield 90, 3) := by decide +kernel
theorem dd_C_numberOfSide_137 : decode bb_C_numberOfSide 137 = .ok (.lstore 6, 2) := by decide +kernel
theorem dd_C_numberOfSide_139 : decode bb_C_numberOfSide 139 = .ok (.iinc 8 1, 3) := by decide +kernel
theorem dd_C_numberOfSide_142 : decode bb_C_numberOfSide 142 = .ok (.goto (-133), 3) := by decide +kernel
theorem dd_C_numberOfSide_145 : decode bb_C_numberOfSide 145 = .ok (.return_, 1) := by decide +kernel
theorem dd_C_startTerm_0 : decode bb_C_startTerm 0 = .ok (.iload 4, 2) := by decide +kernel
theorem dd_C_startTerm_2 : decode bb_C_startTerm 2 = .ok (.ifCond .ne 18, 3) := by decide +kernel
theorem dd_C_startTerm_5 : decode bb_C_startTerm 5 = .ok (.aload_n 0, 1) := by decide +kernel
theorem dd_C_startTerm_6 : decode bb_C_startTerm 6 = .ok (.getfield 26, 3) := by decide +kernel
theorem dd_C_startTerm_9 : decode bb_C_startTerm 9 = .ok (.aload_n 1, 1) := by decide +kernel
theorem dd_C_startTerm_10 : decode bb_C_startTerm 10 = .ok (.getfield 93, 3) := by decide +kernel
theorem dd_C_startTerm_13 : decode bb_C_startTerm 13 = .ok (.iload_n 2, 1) := by decide +kernel
theorem dd_C_startTerm_14 : decode bb_C_startTerm 14 = .ok (.invokevirtual 39, 3) := by decide +kernel
theorem dd_C_startTerm_17 : decode bb_C_startTerm 17 = .ok (.goto 12, 3) := by decide +kernel
theorem dd_C_startTerm_20 : decode bb_C_startTerm 20 = .ok (.aload_n 0, 1) := by decide +kernel
theorem dd_C_startTerm_21 : decode bb_C_startTerm 21 = .ok (.getfield 26, 3) := by decide +kernel
theorem dd_C_startTerm_24 : decode bb_C_startTerm 24 = .ok (.lconst 0, 1) := by decide +kernel
theorem dd_C_startTerm_25 : decode bb_C_startTerm 25 = .ok (.lconst 0, 1) := by decide +kernel
theorem dd_C_startTerm_26 : decode bb_C_startTerm 26 = .ok (.invokevirtual 96, 3) := by decide +kernel
theorem dd_C_startTerm_29 : decode bb_C_startTerm 29 = .ok (.aload_n 0, 1) := by decide +kernel
theorem dd_C_startTerm_30 : decode bb_C_startTerm 30 = .ok (.getfield 20, 3) := by decide +kernel
theorem dd_C_startTerm_33 : decode bb_C_startTerm 33 = .ok (.iload_n 3, 1) := by decide +kernel
theorem dd_C_startTerm_34 : decode bb_C_startTerm 34 = .ok (.iload 4, 2) := by decide +kernel
theorem dd_C_startTerm_36 : decode bb_C_startTerm 36 = .ok (.invokestatic 43, 3) := by decide +kernel
theorem dd_C_startTerm_39 : decode bb_C_startTerm 39 = .ok (.aload_n 0, 1) := by decide +kernel
theorem dd_C_startTerm_40 : decode bb_C_startTerm 40 = .ok (.getfield 26, 3) := by decide +kernel
theorem dd_C_startTerm_43 : decode bb_C_startTerm 43 = .ok (.invokevirtual 47, 3) := by decide +kernel
theorem dd_C_startTerm_46 : decode bb_C_startTerm 46 = .ok (.return_, 1) := by decide +kernel
theorem dd_C_numberOfProduct_0 : decode bb_C_numberOfProduct 0 = .ok (.lconst 0, 1) := by decide +kernel
theorem dd_C_numberOfProduct_1 : decode bb_C_numberOfProduct 1 = .ok (.lstore 5, 2) := by decide +kernel
theorem dd_C_numberOfProduct_3 : decode bb_C_numberOfProduct 3 = .ok (.lconst 0, 1) := by decide +kernel
theorem dd_C_numberOfProduct_4 : decode bb_C_numberOfProduct 4 = .ok (.lstore 7, 2) := by decide +kernel
theorem dd_C_numberOfProduct_6 : decode bb_C_numberOfProduct 6 = .ok (.iconst 0, 1) := by decide +kernel
theorem dd_C_numberOfProduct_7 : decode bb_C_numberOfProduct 7 = .ok (.istore 9, 2) := by decide +kernel
theorem dd_C_numberOfProduct_9 : decode bb_C_numberOfProduct 9 = .ok (.iload 9, 2) := by decide +kernel
theorem dd_C_numberOfProduct_11 : decode bb_C_numberOfProduct 11 = .ok (.iload_n 2, 1) := by decide +kernel
theorem dd_C_numberOfProduct_12 : decode bb_C_numberOfProduct 12 = .ok (.if_icmp .gt 93, 3) := by decide +kernel
theorem dd_C_numberOfProduct_15 : decode bb_C_numberOfProduct 15 = .ok (.aload_n 0, 1) := by decide +kernel
theorem dd_C_numberOfProduct_16 : decode bb_C_numberOfProduct 16 = .ok (.getfield 26, 3) := by decide +kernel
theorem dd_C_numberOfProduct_19 : decode bb_C_numberOfProduct 19 = .ok (.aload_n 0, 1) := by decide +kernel
theorem dd_C_numberOfProduct_20 : decode bb_C_numberOfProduct 20 = .ok (.getfield 20, 3) := by decide +kernel
theorem dd_C_numberOfProduct_23 : decode bb_C_numberOfProduct 23 = .ok (.iload_n 1, 1) := by decide +kernel
theorem dd_C_numberOfProduct_24 : decode bb_C_numberOfProduct 24 = .ok (.iload 9, 2) := by decide +kernel
theorem dd_C_numberOfProduct_26 : decode bb_C_numberOfProduct 26 = .ok (.invokestatic 43, 3) := by decide +kernel
theorem dd_C_numberOfProduct_29 : decode bb_C_numberOfProduct 29 = .ok (.invokevirtual 39, 3) := by decide +kernel
theorem dd_C_numberOfProduct_32 : decode bb_C_numberOfProduct 32 = .ok (.iload_n 3, 1) := by decide +kernel
theorem dd_C_numberOfProduct_33 : decode bb_C_numberOfProduct 33 = .ok (.iload 4, 2) := by decide +kernel
theorem dd_C_numberOfProduct_35 : decode bb_C_numberOfProduct 35 = .ok (.iload 9, 2) := by decide +kernel
theorem dd_C_numberOfProduct_37 : decode bb_C_numberOfProduct 37 = .ok (.isub, 1) := by decide +kernel
theorem dd_C_numberOfProduct_38 : decode bb_C_numberOfProduct 38 = .ok (.invokestatic 43, 3) := by decide +kernel
theorem dd_C_numberOfProduct_41 : decode bb_C_numberOfProduct 41 = .ok (.istore 10, 2) := by decide +kernel
theorem dd_C_numberOfProduct_43 : decode bb_C_numberOfProduct 43 = .ok (.aload_n 0, 1) := by decide +kernel
theorem dd_C_numberOfProduct_44 : decode bb_C_numberOfProduct 44 = .ok (.getfield 26, 3) := by decide +kernel
theorem dd_C_numberOfProduct_47 : decode bb_C_numberOfProduct 47 = .ok (.aload_n 0, 1) := by decide +kernel
theorem dd_C_numberOfProduct_48 : decode bb_C_numberOfProduct 48 = .ok (.getfield 16, 3) := by decide +kernel
theorem dd_C_numberOfProduct_51 : decode bb_C_numberOfProduct 51 = .ok (.getfield 99, 3) := by decide +kernel
theorem dd_C_numberOfProduct_54 : decode bb_C_numberOfProduct 54 = .ok (.iload 10, 2) := by decide +kernel
theorem dd_C_numberOfProduct_56 : decode bb_C_numberOfProduct 56 = .ok (.laload, 1) := by decide +kernel
theorem dd_C_numberOfProduct_57 : decode bb_C_numberOfProduct 57 = .ok (.aload_n 0, 1) := by decide +kernel
theorem dd_C_numberOfProduct_58 : decode bb_C_numberOfProduct 58 = .ok (.getfield 16, 3) := by decide +kernel
theorem dd_C_numberOfProduct_61 : decode bb_C_numberOfProduct 61 = .ok (.getfield 102, 3) := by decide +kernel
theorem dd_C_numberOfProduct_64 : decode bb_C_numberOfProduct 64 = .ok (.iload 10, 2) := by decide +kernel
theorem dd_C_numberOfProduct_66 : decode bb_C_numberOfProduct 66 = .ok (.laload, 1) := by decide +kernel
theorem dd_C_numberOfProduct_67 : decode bb_C_numberOfProduct 67 = .ok (.invokevirtual 104, 3) := by decide +kernel
theorem dd_C_numberOfProduct_70 : decode bb_C_numberOfProduct 70 = .ok (.aload_n 0, 1) := by decide +kernel
theorem dd_C_numberOfProduct_71 : decode bb_C_numberOfProduct 71 = .ok (.getfield 26, 3) := by decide +kernel
theorem dd_C_numberOfProduct_74 : decode bb_C_numberOfProduct 74 = .ok (.lload 5, 2) := by decide +kernel
theorem dd_C_numberOfProduct_76 : decode bb_C_numberOfProduct 76 = .ok (.lload 7, 2) := by decide +kernel
theorem dd_C_numberOfProduct_78 : decode bb_C_numberOfProduct 78 = .ok (.invokevirtual 82, 3) := by decide +kernel
theorem dd_C_numberOfProduct_81 : decode bb_C_numberOfProduct 81 = .ok (.aload_n 0, 1) := by decide +kernel
theorem dd_C_numberOfProduct_82 : decode bb_C_numberOfProduct 82 = .ok (.getfield 26, 3) := by decide +kernel
theorem dd_C_numberOfProduct_85 : decode bb_C_numberOfProduct 85 = .ok (.getfield 86, 3) := by decide +kernel
theorem dd_C_numberOfProduct_88 : decode bb_C_numberOfProduct 88 = .ok (.lstore 5, 2) := by decide +kernel
theorem dd_C_numberOfProduct_90 : decode bb_C_numberOfProduct 90 = .ok (.aload_n 0, 1) := by decide +kernel
theorem dd_C_numberOfProduct_91 : decode bb_C_numberOfProduct 91 = .ok (.getfield 26, 3) := by decide +kernel
theorem dd_C_numberOfProduct_94 : decode bb_C_numberOfProduct 94 = .ok (.getfield 90, 3) := by decide +kernel
theorem dd_C_numberOfProduct_97 : decode bb_C_numberOfProduct 97 = .ok (.lstore 7, 2) := by decide +kernel
theorem dd_C_numberOfProduct_99 : decode bb_C_numberOfProduct 99 = .ok (.iinc 9 1, 3) := by decide +kernel
theorem dd_C_numberOfProduct_102 : decode bb_C_numberOfProduct 102 = .ok (.goto (-93), 3) := by decide +kernel
theorem dd_C_numberOfProduct_105 : decode bb_C_numberOfProduct 105 = .ok (.return_, 1) := by decide +kernel
theorem dd_I_over_0 : decode bb_I_over 0 = .ok (.aload_n 0, 1) := by decide +kernel
theorem dd_I_over_1 : decode bb_I_over 1 = .ok (.aload_n 0, 1) := by decide +kernel
theorem dd_I_over_2 : decode bb_I_over 2 = .ok (.getfield 15, 3) := by decide +kernel
theorem dd_I_over_5 : decode bb_I_over 5 = .ok (.iload_n 1, 1) := by decide +kernel
theorem dd_I_over_6 : decode bb_I_over 6 = .ok (.i2l, 1) := by decide +kernel
theorem dd_I_over_7 : decode bb_I_over 7 = .ok (.invokestatic 41, 3) := by decide +kernel
theorem dd_I_over_10 : decode bb_I_over 10 = .ok (.putfield 15, 3) := by decide +kernel
theorem dd_I_over_13 : decode bb_I_over 13 = .ok (.aload_n 0, 1) := by decide +kernel
theorem dd_I_over_14 : decode bb_I_over 14 = .ok (.aload_n 0, 1) := by decide +kernel
theorem dd_I_over_15 : decode bb_I_over 15 = .ok (.getfield 19, 3) := by decide +kernel
theorem dd_I_over_18 : decode bb_I_over 18 = .ok (.lneg, 1) := by decide +kernel
theorem dd_I_over_19 : decode bb_I_over 19 = .ok (.iload_n 1, 1) := by decide +kernel
theorem dd_I_over_20 : decode bb_I_over 20 = .ok (.i2l, 1) := by decide +kernel
theorem dd_I_over_21 : decode bb_I_over 21 = .ok (.invokestatic 41, 3) := by decide +kernel
theorem dd_I_over_24 : decode bb_I_over 24 = .ok (.lneg, 1) := by decide +kernel
theorem dd_I_over_25 : decode bb_I_over 25 = .ok (.putfield 19, 3) := by decide +kernel
theorem dd_I_over_28 : decode bb_I_over 28 = .ok (.return_, 1) := by decide +kernel
theorem dd_T_addUpSeries_0 : decode bb_T_addUpSeries 0 = .ok (.aload_n 0, 1) := by decide +kernel
theorem dd_T_addUpSeries_1 : decode bb_T_addUpSeries 1 = .ok (.getfield 39, 3) := by decide +kernel
theorem dd_T_addUpSeries_4 : decode bb_T_addUpSeries 4 = .ok (.aload_n 0, 1) := by decide +kernel
theorem dd_T_addUpSeries_5 : decode bb_T_addUpSeries 5 = .ok (.getfield 33, 3) := by decide +kernel
theorem dd_T_addUpSeries_8 : decode bb_T_addUpSeries 8 = .ok (.iload_n 1, 1) := by decide +kernel
theorem dd_T_addUpSeries_9 : decode bb_T_addUpSeries 9 = .ok (.invokevirtual 124, 3) := by decide +kernel
theorem dd_T_addUpSeries_12 : decode bb_T_addUpSeries 12 = .ok (.iload_n 3, 1) := by decide +kernel
theorem dd_T_addUpSeries_13 : decode bb_T_addUpSeries 13 = .ok (.istore 4, 2) := by decide +kernel
theorem dd_T_addUpSeries_15 : decode bb_T_addUpSeries 15 = .ok (.iload 4, 2) := by decide +kernel
theorem dd_T_addUpSeries_17 : decode bb_T_addUpSeries 17 = .ok (.ifCond .lt 61, 3) := by decide +kernel
theorem dd_T_addUpSeries_20 : decode bb_T_addUpSeries 20 = .ok (.iload_n 1, 1) := by decide +kernel
theorem dd_T_addUpSeries_21 : decode bb_T_addUpSeries 21 = .ok (.iload 4, 2) := by decide +kernel
theorem dd_T_addUpSeries_23 : decode bb_T_addUpSeries 23 = .ok (.invokestatic 120, 3) := by decide +kernel
theorem dd_T_addUpSeries_26 : decode bb_T_addUpSeries 26 = .ok (.istore 5, 2) := by decide +kernel
theorem dd_T_addUpSeries_28 : decode bb_T_addUpSeries 28 = .ok (.aload_n 0, 1) := by decide +kernel
theorem dd_T_addUpSeries_29 : decode bb_T_addUpSeries 29 = .ok (.getfield 39, 3) := by decide +kernel
theorem dd_T_addUpSeries_32 : decode bb_T_addUpSeries 32 = .ok (.iload_n 2, 1) := by decide +kernel
theorem dd_T_addUpSeries_33 : decode bb_T_addUpSeries 33 = .ok (.i2l, 1) := by decide +kernel
theorem dd_T_addUpSeries_34 : decode bb_T_addUpSeries 34 = .ok (.iload_n 2, 1) := by decide +kernel
theorem dd_T_addUpSeries_35 : decode bb_T_addUpSeries 35 = .ok (.i2l, 1) := by decide +kernel
theorem dd_T_addUpSeries_36 : decode bb_T_addUpSeries 36 = .ok (.invokevirtual 77, 3) := by decide +kernel
theorem dd_T_addUpSeries_39 : decode bb_T_addUpSeries 39 = .ok (.aload_n 0, 1) := by decide +kernel
theorem dd_T_addUpSeries_40 : decode bb_T_addUpSeries 40 = .ok (.getfield 39, 3) := by decide +kernel
theorem dd_T_addUpSeries_43 : decode bb_T_addUpSeries 43 = .ok (.aload_n 0, 1) := by decide +kernel
theorem dd_T_addUpSeries_44 : decode bb_T_addUpSeries 44 = .ok (.getfield 26, 3) := by decide +kernel
theorem dd_T_addUpSeries_47 : decode bb_T_addUpSeries 47 = .ok (.getfield 117, 3) := by decide +kernel
theorem dd_T_addUpSeries_50 : decode bb_T_addUpSeries 50 = .ok (.getfield 81, 3) := by decide +kernel
theorem dd_T_addUpSeries_53 : decode bb_T_addUpSeries 53 = .ok (.iload 5, 2) := by decide +kernel
theorem dd_T_addUpSeries_55 : decode bb_T_addUpSeries 55 = .ok (.laload, 1) := by decide +kernel
theorem dd_T_addUpSeries_56 : decode bb_T_addUpSeries 56 = .ok (.aload_n 0, 1) := by decide +kernel
theorem dd_T_addUpSeries_57 : decode bb_T_addUpSeries 57 = .ok (.getfield 26, 3) := by decide +kernel
theorem dd_T_addUpSeries_60 : decode bb_T_addUpSeries 60 = .ok (.getfield 117, 3) := by decide +kernel
theorem dd_T_addUpSeries_63 : decode bb_T_addUpSeries 63 = .ok (.getfield 85, 3) := by decide +kernel
theorem dd_T_addUpSeries_66 : decode bb_T_addUpSeries 66 = .ok (.iload 5, 2) := by decide +kernel
theorem dd_T_addUpSeries_68 : decode bb_T_addUpSeries 68 = .ok (.laload, 1) := by decide +kernel
theorem dd_T_addUpSeries_69 : decode bb_T_addUpSeries 69 = .ok (.invokevirtual 88, 3) := by decide +kernel
theorem dd_T_addUpSeries_72 : decode bb_T_addUpSeries 72 = .ok (.iinc 4 (-1), 3) := by decide +kernel
theorem dd_T_addUpSeries_75 : decode bb_T_addUpSeries 75 = .ok (.goto (-60), 3) := by decide +kernel
theorem dd_T_addUpSeries_78 : decode bb_T_addUpSeries 78 = .ok (.return_, 1) := by decide +kernel
theorem dd_T_keepCommonPart_0 : decode bb_T_keepCommonPart 0 = .ok (.aload_n 0, 1) := by decide +kernel
theorem dd_T_keepCommonPart_1 : decode bb_T_keepCommonPart 1 = .ok (.getfield 39, 3) := by decide +kernel
theorem dd_T_keepCommonPart_4 : decode bb_T_keepCommonPart 4 = .ok (.getfield 95, 3) := by decide +kernel
theorem dd_T_keepCommonPart_7 : decode bb_T_keepCommonPart 7 = .ok (.aload_n 0, 1) := by decide +kernel
theorem dd_T_keepCommonPart_8 : decode bb_T_keepCommonPart 8 = .ok (.getfield 14, 3) := by decide +kernel
theorem dd_T_keepCommonPart_11 : decode bb_T_keepCommonPart 11 = .ok (.getfield 81, 3) := by decide +kernel
theorem dd_T_keepCommonPart_14 : decode bb_T_keepCommonPart 14 = .ok (.iload_n 1, 1) := by decide +kernel
theorem dd_T_keepCommonPart_15 : decode bb_T_keepCommonPart 15 = .ok (.laload, 1) := by decide +kernel
theorem dd_T_keepCommonPart_16 : decode bb_T_keepCommonPart 16 = .ok (.invokestatic 106, 3) := by decide +kernel
theorem dd_T_keepCommonPart_19 : decode bb_T_keepCommonPart 19 = .ok (.lstore_n 2, 1) := by decide +kernel
theorem dd_T_keepCommonPart_20 : decode bb_T_keepCommonPart 20 = .ok (.aload_n 0, 1) := by decide +kernel
theorem dd_T_keepCommonPart_21 : decode bb_T_keepCommonPart 21 = .ok (.getfield 39, 3) := by decide +kernel
theorem dd_T_keepCommonPart_24 : decode bb_T_keepCommonPart 24 = .ok (.getfield 98, 3) := by decide +kernel
theorem dd_T_keepCommonPart_27 : decode bb_T_keepCommonPart 27 = .ok (.aload_n 0, 1) := by decide +kernel
theorem dd_T_keepCommonPart_28 : decode bb_T_keepCommonPart 28 = .ok (.getfield 14, 3) := by decide +kernel
theorem dd_T_keepCommonPart_31 : decode bb_T_keepCommonPart 31 = .ok (.getfield 85, 3) := by decide +kernel
theorem dd_T_keepCommonPart_34 : decode bb_T_keepCommonPart 34 = .ok (.iload_n 1, 1) := by decide +kernel
theorem dd_T_keepCommonPart_35 : decode bb_T_keepCommonPart 35 = .ok (.laload, 1) := by decide +kernel
theorem dd_T_keepCommonPart_36 : decode bb_T_keepCommonPart 36 = .ok (.invokestatic 100, 3) := by decide +kernel
theorem dd_T_keepCommonPart_39 : decode bb_T_keepCommonPart 39 = .ok (.lstore 4, 2) := by decide +kernel
theorem dd_T_keepCommonPart_41 : decode bb_T_keepCommonPart 41 = .ok (.lload_n 2, 1) := by decide +kernel
theorem dd_T_keepCommonPart_42 : decode bb_T_keepCommonPart 42 = .ok (.lload 4, 2) := by decide +kernel
theorem dd_T_keepCommonPart_44 : decode bb_T_keepCommonPart 44 = .ok (.lcmp, 1) := by decide +kernel
theorem dd_T_keepCommonPart_45 : decode bb_T_keepCommonPart 45 = .ok (.ifCond .gt 7, 3) := by decide +kernel
theorem dd_T_keepCommonPart_48 : decode bb_T_keepCommonPart 48 = .ok (.iconst 1, 1) := by decide +kernel
theorem dd_T_keepCommonPart_49 : decode bb_T_keepCommonPart 49 = .ok (.goto 4, 3) := by decide +kernel
theorem dd_T_keepCommonPart_52 : decode bb_T_keepCommonPart 52 = .ok (.iconst 0, 1) := by decide +kernel
theorem dd_T_keepCommonPart_53 : decode bb_T_keepCommonPart 53 = .ok (.istore 6, 2) := by decide +kernel
theorem dd_T_keepCommonPart_55 : decode bb_T_keepCommonPart 55 = .ok (.aload_n 0, 1) := by decide +kernel
theorem dd_T_keepCommonPart_56 : decode bb_T_keepCommonPart 56 = .ok (.getfield 20, 3) := by decide +kernel
theorem dd_T_keepCommonPart_59 : decode bb_T_keepCommonPart 59 = .ok (.getfield 81, 3) := by decide +kernel
theorem dd_T_keepCommonPart_62 : decode bb_T_keepCommonPart 62 = .ok (.iload_n 1, 1) := by decide +kernel
theorem dd_T_keepCommonPart_63 : decode bb_T_keepCommonPart 63 = .ok (.iload 6, 2) := by decide +kernel
theorem dd_T_keepCommonPart_65 : decode bb_T_keepCommonPart 65 = .ok (.ifCond .eq 7, 3) := by decide +kernel
theorem dd_T_keepCommonPart_68 : decode bb_T_keepCommonPart 68 = .ok (.lload_n 2, 1) := by decide +kernel
theorem dd_T_keepCommonPart_69 : decode bb_T_keepCommonPart 69 = .ok (.goto 12, 3) := by decide +kernel
theorem dd_T_keepCommonPart_72 : decode bb_T_keepCommonPart 72 = .ok (.aload_n 0, 1) := by decide +kernel
theorem dd_T_keepCommonPart_73 : decode bb_T_keepCommonPart 73 = .ok (.getfield 14, 3) := by decide +kernel
theorem dd_T_keepCommonPart_76 : decode bb_T_keepCommonPart 76 = .ok (.getfield 81, 3) := by decide +kernel
theorem dd_T_keepCommonPart_79 : decode bb_T_keepCommonPart 79 = .ok (.iload_n 1, 1) := by decide +kernel
theorem dd_T_keepCommonPart_80 : decode bb_T_keepCommonPart 80 = .ok (.laload, 1) := by decide +kernel
theorem dd_T_keepCommonPart_81 : decode bb_T_keepCommonPart 81 = .ok (.lastore, 1) := by decide +kernel
theorem dd_T_keepCommonPart_82 : decode bb_T_keepCommonPart 82 = .ok (.aload_n 0, 1) := by decide +kernel
theorem dd_T_keepCommonPart_83 : decode bb_T_keepCommonPart 83 = .ok (.getfield 20, 3) := by decide +kernel
theorem dd_T_keepCommonPart_86 : decode bb_T_keepCommonPart 86 = .ok (.getfield 85, 3) := by decide +kernel
theorem dd_T_keepCommonPart_89 : decode bb_T_keepCommonPart 89 = .ok (.iload_n 1, 1) := by decide +kernel
theorem dd_T_keepCommonPart_90 : decode bb_T_keepCommonPart 90 = .ok (.iload 6, 2) := by decide +kernel
theorem dd_T_keepCommonPart_92 : decode bb_T_keepCommonPart 92 = .ok (.ifCond .eq 8, 3) := by decide +kernel
theorem dd_T_keepCommonPart_95 : decode bb_T_keepCommonPart 95 = .ok (.lload 4, 2) := by decide +kernel
theorem dd_T_keepCommonPart_97 : decode bb_T_keepCommonPart 97 = .ok (.goto 12, 3) := by decide +kernel
theorem dd_T_keepCommonPart_100 : decode bb_T_keepCommonPart 100 = .ok (.aload_n 0, 1) := by decide +kernel
theorem dd_T_keepCommonPart_101 : decode bb_T_keepCommonPart 101 = .ok (.getfield 14, 3) := by decide +kernel
theorem dd_T_keepCommonPart_104 : decode bb_T_keepCommonPart 104 = .ok (.getfield 85, 3) := by decide +kernel
theorem dd_T_keepCommonPart_107 : decode bb_T_keepCommonPart 107 = .ok (.iload_n 1, 1) := by decide +kernel
theorem dd_T_keepCommonPart_108 : decode bb_T_keepCommonPart 108 = .ok (.laload, 1) := by decide +kernel
theorem dd_T_keepCommonPart_109 : decode bb_T_keepCommonPart 109 = .ok (.lastore, 1) := by decide +kernel
theorem dd_T_keepCommonPart_110 : decode bb_T_keepCommonPart 110 = .ok (.return_, 1) := by decide +kernel
theorem dd_U_adaptShift_0 : decode bb_U_adaptShift 0 = .ok (.aload_n 0, 1) := by decide +kernel
theorem dd_U_adaptShift_1 : decode bb_U_adaptShift 1 = .ok (.iload_n 1, 1) := by decide +kernel
theorem dd_U_adaptShift_2 : decode bb_U_adaptShift 2 = .ok (.aload_n 0, 1) := by decide +kernel
theorem dd_U_adaptShift_3 : decode bb_U_adaptShift 3 = .ok (.getfield 25, 3) := by decide +kernel
theorem dd_U_adaptShift_6 : decode bb_U_adaptShift 6 = .ok (.if_icmp .le 7, 3) := by decide +kernel
theorem dd_U_adaptShift_9 : decode bb_U_adaptShift 9 = .ok (.iconst 0, 1) := by decide +kernel
theorem dd_U_adaptShift_10 : decode bb_U_adaptShift 10 = .ok (.goto 9, 3) := by decide +kernel
theorem dd_U_adaptShift_13 : decode bb_U_adaptShift 13 = .ok (.aload_n 0, 1) := by decide +kernel
theorem dd_U_adaptShift_14 : decode bb_U_adaptShift 14 = .ok (.getfield 60, 3) := by decide +kernel
theorem dd_U_adaptShift_17 : decode bb_U_adaptShift 17 = .ok (.iconst 1, 1) := by decide +kernel
theorem dd_U_adaptShift_18 : decode bb_U_adaptShift 18 = .ok (.iadd, 1) := by decide +kernel
theorem dd_U_adaptShift_19 : decode bb_U_adaptShift 19 = .ok (.putfield 60, 3) := by decide +kernel
theorem dd_U_adaptShift_22 : decode bb_U_adaptShift 22 = .ok (.aload_n 0, 1) := by decide +kernel
theorem dd_U_adaptShift_23 : decode bb_U_adaptShift 23 = .ok (.iload_n 1, 1) := by decide +kernel
theorem dd_U_adaptShift_24 : decode bb_U_adaptShift 24 = .ok (.putfield 25, 3) := by decide +kernel
theorem dd_U_adaptShift_27 : decode bb_U_adaptShift 27 = .ok (.aload_n 0, 1) := by decide +kernel
theorem dd_U_adaptShift_28 : decode bb_U_adaptShift 28 = .ok (.getfield 60, 3) := by decide +kernel
theorem dd_U_adaptShift_31 : decode bb_U_adaptShift 31 = .ok (.iconst 3, 1) := by decide +kernel
theorem dd_U_adaptShift_32 : decode bb_U_adaptShift 32 = .ok (.if_icmp .ne 29, 3) := by decide +kernel
theorem dd_U_adaptShift_35 : decode bb_U_adaptShift 35 = .ok (.aload_n 0, 1) := by decide +kernel
theorem dd_U_adaptShift_36 : decode bb_U_adaptShift 36 = .ok (.iconst 0, 1) := by decide +kernel
theorem dd_U_adaptShift_37 : decode bb_U_adaptShift 37 = .ok (.putfield 60, 3) := by decide +kernel
theorem dd_U_adaptShift_40 : decode bb_U_adaptShift 40 = .ok (.aload_n 0, 1) := by decide +kernel
theorem dd_U_adaptShift_41 : decode bb_U_adaptShift 41 = .ok (.getfield 25, 3) := by decide +kernel
theorem dd_U_adaptShift_44 : decode bb_U_adaptShift 44 = .ok (.aload_n 0, 1) := by decide +kernel
theorem dd_U_adaptShift_45 : decode bb_U_adaptShift 45 = .ok (.getfield 19, 3) := by decide +kernel
theorem dd_U_adaptShift_48 : decode bb_U_adaptShift 48 = .ok (.if_icmp .le 13, 3) := by decide +kernel
theorem dd_U_adaptShift_51 : decode bb_U_adaptShift 51 = .ok (.aload_n 0, 1) := by decide +kernel
theorem dd_U_adaptShift_52 : decode bb_U_adaptShift 52 = .ok (.dup, 1) := by decide +kernel
theorem dd_U_adaptShift_53 : decode bb_U_adaptShift 53 = .ok (.getfield 25, 3) := by decide +kernel
theorem dd_U_adaptShift_56 : decode bb_U_adaptShift 56 = .ok (.iconst 1, 1) := by decide +kernel
theorem dd_U_adaptShift_57 : decode bb_U_adaptShift 57 = .ok (.isub, 1) := by decide +kernel
theorem dd_U_adaptShift_58 : decode bb_U_adaptShift 58 = .ok (.putfield 25, 3) := by decide +kernel
theorem dd_U_adaptShift_61 : decode bb_U_adaptShift 61 = .ok (.return_, 1) := by decide +kernel
theorem dd_L_box_0 : decode bb_L_box 0 = .ok (.aload 4, 2) := by decide +kernel
theorem dd_L_box_2 : decode bb_L_box 2 = .ok (.iconst 0, 1) := by decide +kernel
theorem dd_L_box_3 : decode bb_L_box 3 = .ok (.aload_n 0, 1) := by decide +kernel
theorem dd_L_box_4 : decode bb_L_box 4 = .ok (.iload_n 1, 1) := by decide +kernel
theorem dd_L_box_5 : decode bb_L_box 5 = .ok (.iload_n 2, 1) := by decide +kernel
theorem dd_L_box_6 : decode bb_L_box 6 = .ok (.iload_n 3, 1) := by decide +kernel
theorem dd_L_box_7 : decode bb_L_box 7 = .ok (.invokevirtual 23, 3) := by decide +kernel
theorem dd_L_box_10 : decode bb_L_box 10 = .ok (.i2l, 1) := by decide +kernel
theorem dd_L_box_11 : decode bb_L_box 11 = .ok (.lastore, 1) := by decide +kernel
theorem dd_L_box_12 : decode bb_L_box 12 = .ok (.goto 7, 3) := by decide +kernel
theorem dd_L_box_15 : decode bb_L_box 15 = .ok (.astore 5, 2) := by decide +kernel
theorem dd_L_box_17 : decode bb_L_box 17 = .ok (.iconst 1, 1) := by decide +kernel
theorem dd_L_box_18 : decode bb_L_box 18 = .ok (.ireturn, 1) := by decide +kernel
theorem dd_L_box_19 : decode bb_L_box 19 = .ok (.iconst 0, 1) := by decide +kernel
theorem dd_L_box_20 : decode bb_L_box 20 = .ok (.ireturn, 1) := by decide +kernel
theorem dd_F_box_0 : decode bb_F_box 0 = .ok (.aload_n 0, 1) := by decide +kernel
theorem dd_F_box_1 : decode bb_F_box 1 = .ok (.getfield 33, 3) := by decide +kernel
theorem dd_F_box_4 : decode bb_F_box 4 = .ok (.getfield 122, 3) := by decide +kernel
theorem dd_F_box_7 : decode bb_F_box 7 = .ok (.iload_n 1, 1) := by decide +kernel
theorem dd_F_box_8 : decode bb_F_box 8 = .ok (.invokevirtual 140, 3) := by decide +kernel
theorem dd_F_box_11 : decode bb_F_box 11 = .ok (.ifCond .eq 12, 3) := by decide +kernel
theorem dd_F_box_14 : decode bb_F_box 14 = .ok (.aload_n 0, 1) := by decide +kernel
theorem dd_F_box_15 : decode bb_F_box 15 = .ok (.iload_n 2, 1) := by decide +kernel
theorem dd_F_box_16 : decode bb_F_box 16 = .ok (.iload_n 3, 1) := by decide +kernel
theorem dd_F_box_17 : decode bb_F_box 17 = .ok (.invokevirtual 144, 3) := by decide +kernel
theorem dd_F_box_20 : decode bb_F_box 20 = .ok (.ifCond .ne 13, 3) := by decide +kernel
theorem dd_F_box_23 : decode bb_F_box 23 = .ok (.new 148, 3) := by decide +kernel
theorem dd_F_box_26 : decode bb_F_box 26 = .ok (.dup, 1) := by decide +kernel
theorem dd_F_box_27 : decode bb_F_box 27 = .ok (.ldc 150, 2) := by decide +kernel
theorem dd_F_box_29 : decode bb_F_box 29 = .ok (.invokespecial 152, 3) := by decide +kernel
theorem dd_F_box_32 : decode bb_F_box 32 = .ok (.athrow, 1) := by decide +kernel
theorem dd_F_box_33 : decode bb_F_box 33 = .ok (.aload_n 0, 1) := by decide +kernel
theorem dd_F_box_34 : decode bb_F_box 34 = .ok (.getfield 33, 3) := by decide +kernel
theorem dd_F_box_37 : decode bb_F_box 37 = .ok (.getfield 122, 3) := by decide +kernel
theorem dd_F_box_40 : decode bb_F_box 40 = .ok (.iload_n 1, 1) := by decide +kernel
theorem dd_F_box_41 : decode bb_F_box 41 = .ok (.iload_n 2, 1) := by decide +kernel
theorem dd_F_box_42 : decode bb_F_box 42 = .ok (.iload_n 3, 1) := by decide +kernel
theorem dd_F_box_43 : decode bb_F_box 43 = .ok (.invokevirtual 153, 3) := by decide +kernel
theorem dd_F_box_46 : decode bb_F_box 46 = .ok (.ireturn, 1) := by decide +kernel
theorem dd_H_hasBox_0 : decode bb_H_hasBox 0 = .ok (.iload_n 1, 1) := by decide +kernel
theorem dd_H_hasBox_1 : decode bb_H_hasBox 1 = .ok (.ifCond .lt 22, 3) := by decide +kernel
theorem dd_H_hasBox_4 : decode bb_H_hasBox 4 = .ok (.iload_n 1, 1) := by decide +kernel
theorem dd_H_hasBox_5 : decode bb_H_hasBox 5 = .ok (.aload_n 0, 1) := by decide +kernel
theorem dd_H_hasBox_6 : decode bb_H_hasBox 6 = .ok (.getfield 21, 3) := by decide +kernel
theorem dd_H_hasBox_9 : decode bb_H_hasBox 9 = .ok (.if_icmp .ge 14, 3) := by decide +kernel
theorem dd_H_hasBox_12 : decode bb_H_hasBox 12 = .ok (.iload_n 1, 1) := by decide +kernel
theorem dd_H_hasBox_13 : decode bb_H_hasBox 13 = .ok (.sipush 400, 3) := by decide +kernel
theorem dd_H_hasBox_16 : decode bb_H_hasBox 16 = .ok (.if_icmp .ge 7, 3) := by decide +kernel
theorem dd_H_hasBox_19 : decode bb_H_hasBox 19 = .ok (.iconst 1, 1) := by decide +kernel
theorem dd_H_hasBox_20 : decode bb_H_hasBox 20 = .ok (.goto 4, 3) := by decide +kernel
theorem dd_H_hasBox_23 : decode bb_H_hasBox 23 = .ok (.iconst 0, 1) := by decide +kernel
theorem dd_H_hasBox_24 : decode bb_H_hasBox 24 = .ok (.ireturn, 1) := by decide +kernel
theorem dd_F_hasBoxField_0 : decode bb_F_hasBoxField 0 = .ok (.iload_n 1, 1) := by decide +kernel
theorem dd_F_hasBoxField_1 : decode bb_F_hasBoxField 1 = .ok (.iconst 3, 1) := by decide +kernel
theorem dd_F_hasBoxField_2 : decode bb_F_hasBoxField 2 = .ok (.if_icmp .ne 18, 3) := by decide +kernel
theorem dd_F_hasBoxField_5 : decode bb_F_hasBoxField 5 = .ok (.iload_n 2, 1) := by decide +kernel
theorem dd_F_hasBoxField_6 : decode bb_F_hasBoxField 6 = .ok (.ifCond .eq 8, 3) := by decide +kernel
theorem dd_F_hasBoxField_9 : decode bb_F_hasBoxField 9 = .ok (.iload_n 2, 1) := by decide +kernel
theorem dd_F_hasBoxField_10 : decode bb_F_hasBoxField 10 = .ok (.iconst 1, 1) := by decide +kernel
theorem dd_F_hasBoxField_11 : decode bb_F_hasBoxField 11 = .ok (.if_icmp .ne 7, 3) := by decide +kernel
theorem dd_F_hasBoxField_14 : decode bb_F_hasBoxField 14 = .ok (.iconst 1, 1) := by decide +kernel
theorem dd_F_hasBoxField_15 : decode bb_F_hasBoxField 15 = .ok (.goto 4, 3) := by decide +kernel
theorem dd_F_hasBoxField_18 : decode bb_F_hasBoxField 18 = .ok (.iconst 0, 1) := by decide +kernel
theorem dd_F_hasBoxField_19 : decode bb_F_hasBoxField 19 = .ok (.ireturn, 1) := by decide +kernel
theorem dd_F_hasBoxField_20 : decode bb_F_hasBoxField 20 = .ok (.iload_n 1, 1) := by decide +kernel
theorem dd_F_hasBoxField_21 : decode bb_F_hasBoxField 21 = .ok (.ifCond .lt 27, 3) := by decide +kernel
theorem dd_F_hasBoxField_24 : decode bb_F_hasBoxField 24 = .ok (.iload_n 1, 1) := by decide +kernel
theorem dd_F_hasBoxField_25 : decode bb_F_hasBoxField 25 = .ok (.aload_n 0, 1) := by decide +kernel
theorem dd_F_hasBoxField_26 : decode bb_F_hasBoxField 26 = .ok (.getfield 23, 3) := by decide +kernel
theorem dd_F_hasBoxField_29 : decode bb_F_hasBoxField 29 = .ok (.getfield 70, 3) := by decide +kernel
theorem dd_F_hasBoxField_32 : decode bb_F_hasBoxField 32 = .ok (.if_icmp .ge 16, 3) := by decide +kernel
theorem dd_F_hasBoxField_35 : decode bb_F_hasBoxField 35 = .ok (.iload_n 2, 1) := by decide +kernel
theorem dd_F_hasBoxField_36 : decode bb_F_hasBoxField 36 = .ok (.ifCond .lt 12, 3) := by decide +kernel
theorem dd_F_hasBoxField_39 : decode bb_F_hasBoxField 39 = .ok (.iload_n 2, 1) := by decide +kernel
theorem dd_F_hasBoxField_40 : decode bb_F_hasBoxField 40 = .ok (.iconst 4, 1) := by decide +kernel
theorem dd_F_hasBoxField_41 : decode bb_F_hasBoxField 41 = .ok (.if_icmp .ge 7, 3) := by decide +kernel
theorem dd_F_hasBoxField_44 : decode bb_F_hasBoxField 44 = .ok (.iconst 1, 1) := by decide +kernel
theorem dd_F_hasBoxField_45 : decode bb_F_hasBoxField 45 = .ok (.goto 4, 3) := by decide +kernel
theorem dd_F_hasBoxField_48 : decode bb_F_hasBoxField 48 = .ok (.iconst 0, 1) := by decide +kernel
theorem dd_F_hasBoxField_49 : decode bb_F_hasBoxField 49 = .ok (.ireturn, 1) := by decide +kernel
theorem dd_H_boxField_0 : decode bb_H_boxField 0 = .ok (.aload_n 0, 1) := by decide +kernel
theorem dd_H_boxField_1 : decode bb_H_boxField 1 = .ok (.getfield 11, 3) := by decide +kernel
theorem dd_H_boxField_4 : decode bb_H_boxField 4 = .ok (.iload_n 1, 1) := by decide +kernel
theorem dd_H_boxField_5 : decode bb_H_boxField 5 = .ok (.bipush 14, 2) := by decide +kernel
theorem dd_H_boxField_7 : decode bb_H_boxField 7 = .ok (.imul, 1) := by decide +kernel
theorem dd_H_boxField_8 : decode bb_H_boxField 8 = .ok (.iload_n 2, 1) := by decide +kernel
theorem dd_H_boxField_9 : decode bb_H_boxField 9 = .ok (.iconst 4, 1) := by decide +kernel
theorem dd_H_boxField_10 : decode bb_H_boxField 10 = .ok (.imul, 1) := by decide +kernel
theorem dd_H_boxField_11 : decode bb_H_boxField 11 = .ok (.iadd, 1) := by decide +kernel
theorem dd_H_boxField_12 : decode bb_H_boxField 12 = .ok (.iload_n 3, 1) := by decide +kernel
theorem dd_H_boxField_13 : decode bb_H_boxField 13 = .ok (.iadd, 1) := by decide +kernel
theorem dd_H_boxField_14 : decode bb_H_boxField 14 = .ok (.iaload, 1) := by decide +kernel
theorem dd_H_boxField_15 : decode bb_H_boxField 15 = .ok (.ireturn, 1) := by decide +kernel
theorem dd_L_crossing_0 : decode bb_L_crossing 0 = .ok (.aload_n 3, 1) := by decide +kernel
theorem dd_L_crossing_1 : decode bb_L_crossing 1 = .ok (.iconst 0, 1) := by decide +kernel
theorem dd_L_crossing_2 : decode bb_L_crossing 2 = .ok (.aload_n 0, 1) := by decide +kernel
theorem dd_L_crossing_3 : decode bb_L_crossing 3 = .ok (.iload_n 1, 1) := by decide +kernel
theorem dd_L_crossing_4 : decode bb_L_crossing 4 = .ok (.iload_n 2, 1) := by decide +kernel
theorem dd_L_crossing_5 : decode bb_L_crossing 5 = .ok (.invokevirtual 29, 3) := by decide +kernel
theorem dd_L_crossing_8 : decode bb_L_crossing 8 = .ok (.i2l, 1) := by decide +kernel
theorem dd_L_crossing_9 : decode bb_L_crossing 9 = .ok (.lastore, 1) := by decide +kernel
theorem dd_L_crossing_10 : decode bb_L_crossing 10 = .ok (.goto 7, 3) := by decide +kernel
theorem dd_L_crossing_13 : decode bb_L_crossing 13 = .ok (.astore 4, 2) := by decide +kernel
theorem dd_L_crossing_15 : decode bb_L_crossing 15 = .ok (.iconst 1, 1) := by decide +kernel
theorem dd_L_crossing_16 : decode bb_L_crossing 16 = .ok (.ireturn, 1) := by decide +kernel
theorem dd_L_crossing_17 : decode bb_L_crossing 17 = .ok (.iconst 0, 1) := by decide +kernel
theorem dd_L_crossing_18 : decode bb_L_crossing 18 = .ok (.ireturn, 1) := by decide +kernel
theorem dd_F_crossing_0 : decode bb_F_crossing 0 = .ok (.aload_n 0, 1) := by decide +kernel
theorem dd_F_crossing_1 : decode bb_F_crossing 1 = .ok (.getfield 33, 3) := by decide +kernel
theorem dd_F_crossing_4 : decode bb_F_crossing 4 = .ok (.getfield 122, 3) := by decide +kernel
theorem dd_F_crossing_7 : decode bb_F_crossing 7 = .ok (.iload_n 1, 1) := by decide +kernel
theorem dd_F_crossing_8 : decode bb_F_crossing 8 = .ok (.invokevirtual 157, 3) := by decide +kernel
theorem dd_F_crossing_11 : decode bb_F_crossing 11 = .ok (.ifCond .eq 12, 3) := by decide +kernel
theorem dd_F_crossing_14 : decode bb_F_crossing 14 = .ok (.iload_n 2, 1) := by decide +kernel
theorem dd_F_crossing_15 : decode bb_F_crossing 15 = .ok (.ifCond .lt 8, 3) := by decide +kernel
theorem dd_F_crossing_18 : decode bb_F_crossing 18 = .ok (.iload_n 2, 1) := by decide +kernel
theorem dd_F_crossing_19 : decode bb_F_crossing 19 = .ok (.iconst 3, 1) := by decide +kernel
theorem dd_F_crossing_20 : decode bb_F_crossing 20 = .ok (.if_icmp .lt 13, 3) := by decide +kernel
theorem dd_F_crossing_23 : decode bb_F_crossing 23 = .ok (.new 148, 3) := by decide +kernel
theorem dd_F_crossing_26 : decode bb_F_crossing 26 = .ok (.dup, 1) := by decide +kernel
theorem dd_F_crossing_27 : decode bb_F_crossing 27 = .ok (.ldc 160, 2) := by decide +kernel
theorem dd_F_crossing_29 : decode bb_F_crossing 29 = .ok (.invokespecial 152, 3) := by decide +kernel
theorem dd_F_crossing_32 : decode bb_F_crossing 32 = .ok (.athrow, 1) := by decide +kernel
theorem dd_F_crossing_33 : decode bb_F_crossing 33 = .ok (.aload_n 0, 1) := by decide +kernel
theorem dd_F_crossing_34 : decode bb_F_crossing 34 = .ok (.getfield 33, 3) := by decide +kernel
theorem dd_F_crossing_37 : decode bb_F_crossing 37 = .ok (.getfield 122, 3) := by decide +kernel
theorem dd_F_crossing_40 : decode bb_F_crossing 40 = .ok (.iload_n 1, 1) := by decide +kernel
theorem dd_F_crossing_41 : decode bb_F_crossing 41 = .ok (.iload_n 2, 1) := by decide +kernel
theorem dd_F_crossing_42 : decode bb_F_crossing 42 = .ok (.invokevirtual 162, 3) := by decide +kernel
theorem dd_F_crossing_45 : decode bb_F_crossing 45 = .ok (.ireturn, 1) := by decide +kernel
theorem dd_H_hasCrossing_0 : decode bb_H_hasCrossing 0 = .ok (.iload_n 1, 1) := by decide +kernel
theorem dd_H_hasCrossing_1 : decode bb_H_hasCrossing 1 = .ok (.ifCond .lt 21, 3) := by decide +kernel
theorem dd_H_hasCrossing_4 : decode bb_H_hasCrossing 4 = .ok (.iload_n 1, 1) := by decide +kernel
theorem dd_H_hasCrossing_5 : decode bb_H_hasCrossing 5 = .ok (.aload_n 0, 1) := by decide +kernel
theorem dd_H_hasCrossing_6 : decode bb_H_hasCrossing 6 = .ok (.getfield 25, 3) := by decide +kernel
theorem dd_H_hasCrossing_9 : decode bb_H_hasCrossing 9 = .ok (.if_icmp .ge 13, 3) := by decide +kernel
theorem dd_H_hasCrossing_12 : decode bb_H_hasCrossing 12 = .ok (.iload_n 1, 1) := by decide +kernel
theorem dd_H_hasCrossing_13 : decode bb_H_hasCrossing 13 = .ok (.bipush 100, 2) := by decide +kernel
theorem dd_H_hasCrossing_15 : decode bb_H_hasCrossing 15 = .ok (.if_icmp .ge 7, 3) := by decide +kernel
theorem dd_H_hasCrossing_18 : decode bb_H_hasCrossing 18 = .ok (.iconst 1, 1) := by decide +kernel
theorem dd_H_hasCrossing_19 : decode bb_H_hasCrossing 19 = .ok (.goto 4, 3) := by decide +kernel
theorem dd_H_hasCrossing_22 : decode bb_H_hasCrossing 22 = .ok (.iconst 0, 1) := by decide +kernel
theorem dd_H_hasCrossing_23 : decode bb_H_hasCrossing 23 = .ok (.ireturn, 1) := by decide +kernel
theorem dd_H_crossingField_0 : decode bb_H_crossingField 0 = .ok (.aload_n 0, 1) := by decide +kernel
theorem dd_H_crossingField_1 : decode bb_H_crossingField 1 = .ok (.getfield 15, 3) := by decide +kernel
theorem dd_H_crossingField_4 : decode bb_H_crossingField 4 = .ok (.iload_n 1, 1) := by decide +kernel
theorem dd_H_crossingField_5 : decode bb_H_crossingField 5 = .ok (.iconst 3, 1) := by decide +kernel
theorem dd_H_crossingField_6 : decode bb_H_crossingField 6 = .ok (.imul, 1) := by decide +kernel
theorem dd_H_crossingField_7 : decode bb_H_crossingField 7 = .ok (.iload_n 2, 1) := by decide +kernel
theorem dd_H_crossingField_8 : decode bb_H_crossingField 8 = .ok (.iadd, 1) := by decide +kernel
theorem dd_H_crossingField_9 : decode bb_H_crossingField 9 = .ok (.iaload, 1) := by decide +kernel
theorem dd_H_crossingField_10 : decode bb_H_crossingField 10 = .ok (.ireturn, 1) := by decide +kernel
theorem dd_L_coefficient_0 : decode bb_L_coefficient 0 = .ok (.aload 4, 2) := by decide +kernel
theorem dd_L_coefficient_2 : decode bb_L_coefficient 2 = .ok (.iconst 0, 1) := by decide +kernel
theorem dd_L_coefficient_3 : decode bb_L_coefficient 3 = .ok (.aload_n 0, 1) := by decide +kernel
theorem dd_L_coefficient_4 : decode bb_L_coefficient 4 = .ok (.iload_n 1, 1) := by decide +kernel
theorem dd_L_coefficient_5 : decode bb_L_coefficient 5 = .ok (.iload_n 2, 1) := by decide +kernel
theorem dd_L_coefficient_6 : decode bb_L_coefficient 6 = .ok (.iload_n 3, 1) := by decide +kernel
theorem dd_L_coefficient_7 : decode bb_L_coefficient 7 = .ok (.invokevirtual 33, 3) := by decide +kernel
theorem dd_L_coefficient_10 : decode bb_L_coefficient 10 = .ok (.i2l, 1) := by decide +kernel
theorem dd_L_coefficient_11 : decode bb_L_coefficient 11 = .ok (.lastore, 1) := by decide +kernel
theorem dd_L_coefficient_12 : decode bb_L_coefficient 12 = .ok (.goto 11, 3) := by decide +kernel
theorem dd_L_coefficient_15 : decode bb_L_coefficient 15 = .ok (.astore 5, 2) := by decide +kernel
theorem dd_L_coefficient_17 : decode bb_L_coefficient 17 = .ok (.iconst 1, 1) := by decide +kernel
theorem dd_L_coefficient_18 : decode bb_L_coefficient 18 = .ok (.ireturn, 1) := by decide +kernel
theorem dd_L_coefficient_19 : decode bb_L_coefficient 19 = .ok (.astore 5, 2) := by decide +kernel
theorem dd_L_coefficient_21 : decode bb_L_coefficient 21 = .ok (.iconst 2, 1) := by decide +kernel
theorem dd_L_coefficient_22 : decode bb_L_coefficient 22 = .ok (.ireturn, 1) := by decide +kernel
theorem dd_L_coefficient_23 : decode bb_L_coefficient 23 = .ok (.iconst 0, 1) := by decide +kernel
theorem dd_L_coefficient_24 : decode bb_L_coefficient 24 = .ok (.ireturn, 1) := by decide +kernel
theorem dd_F_coefficient_0 : decode bb_F_coefficient 0 = .ok (.iload_n 1, 1) := by decide +kernel
theorem dd_F_coefficient_1 : decode bb_F_coefficient 1 = .ok (.ifCond .lt 24, 3) := by decide +kernel
theorem dd_F_coefficient_4 : decode bb_F_coefficient 4 = .ok (.iload_n 1, 1) := by decide +kernel
theorem dd_F_coefficient_5 : decode bb_F_coefficient 5 = .ok (.aload_n 0, 1) := by decide +kernel
theorem dd_F_coefficient_6 : decode bb_F_coefficient 6 = .ok (.getfield 23, 3) := by decide +kernel
theorem dd_F_coefficient_9 : decode bb_F_coefficient 9 = .ok (.getfield 70, 3) := by decide +kernel
theorem dd_F_coefficient_12 : decode bb_F_coefficient 12 = .ok (.if_icmp .ge 13, 3) := by decide +kernel
theorem dd_F_coefficient_15 : decode bb_F_coefficient 15 = .ok (.iload_n 2, 1) := by decide +kernel
theorem dd_F_coefficient_16 : decode bb_F_coefficient 16 = .ok (.ifCond .lt 9, 3) := by decide +kernel
theorem dd_F_coefficient_19 : decode bb_F_coefficient 19 = .ok (.iload_n 2, 1) := by decide +kernel
theorem dd_F_coefficient_20 : decode bb_F_coefficient 20 = .ok (.bipush 10, 2) := by decide +kernel
theorem dd_F_coefficient_22 : decode bb_F_coefficient 22 = .ok (.if_icmp .lt 13, 3) := by decide +kernel
theorem dd_F_coefficient_25 : decode bb_F_coefficient 25 = .ok (.new 148, 3) := by decide +kernel
theorem dd_F_coefficient_28 : decode bb_F_coefficient 28 = .ok (.dup, 1) := by decide +kernel
theorem dd_F_coefficient_29 : decode bb_F_coefficient 29 = .ok (.ldc 166, 2) := by decide +kernel
theorem dd_F_coefficient_31 : decode bb_F_coefficient 31 = .ok (.invokespecial 152, 3) := by decide +kernel
theorem dd_F_coefficient_34 : decode bb_F_coefficient 34 = .ok (.athrow, 1) := by decide +kernel
theorem dd_F_coefficient_35 : decode bb_F_coefficient 35 = .ok (.aload_n 0, 1) := by decide +kernel
theorem dd_F_coefficient_36 : decode bb_F_coefficient 36 = .ok (.getfield 33, 3) := by decide +kernel
theorem dd_F_coefficient_39 : decode bb_F_coefficient 39 = .ok (.getfield 168, 3) := by decide +kernel
theorem dd_F_coefficient_42 : decode bb_F_coefficient 42 = .ok (.getfield 172, 3) := by decide +kernel
theorem dd_F_coefficient_45 : decode bb_F_coefficient 45 = .ok (.astore 4, 2) := by decide +kernel
theorem dd_F_coefficient_47 : decode bb_F_coefficient 47 = .ok (.aload 4, 2) := by decide +kernel
theorem dd_F_coefficient_49 : decode bb_F_coefficient 49 = .ok (.aload_n 0, 1) := by decide +kernel
theorem dd_F_coefficient_50 : decode bb_F_coefficient 50 = .ok (.getfield 23, 3) := by decide +kernel
theorem dd_F_coefficient_53 : decode bb_F_coefficient 53 = .ok (.aload_n 0, 1) := by decide +kernel
theorem dd_F_coefficient_54 : decode bb_F_coefficient 54 = .ok (.getfield 33, 3) := by decide +kernel
theorem dd_F_coefficient_57 : decode bb_F_coefficient 57 = .ok (.getfield 178, 3) := by decide +kernel
theorem dd_F_coefficient_60 : decode bb_F_coefficient 60 = .ok (.iload_n 2, 1) := by decide +kernel
theorem dd_F_coefficient_61 : decode bb_F_coefficient 61 = .ok (.invokevirtual 181, 3) := by decide +kernel
theorem dd_F_coefficient_64 : decode bb_F_coefficient 64 = .ok (.ifCond .ne 13, 3) := by decide +kernel
theorem dd_F_coefficient_67 : decode bb_F_coefficient 67 = .ok (.new 114, 3) := by decide +kernel
theorem dd_F_coefficient_70 : decode bb_F_coefficient 70 = .ok (.dup, 1) := by decide +kernel
theorem dd_F_coefficient_71 : decode bb_F_coefficient 71 = .ok (.ldc 187, 2) := by decide +kernel
theorem dd_F_coefficient_73 : decode bb_F_coefficient 73 = .ok (.invokespecial 118, 3) := by decide +kernel
theorem dd_F_coefficient_76 : decode bb_F_coefficient 76 = .ok (.athrow, 1) := by decide +kernel
theorem dd_F_coefficient_77 : decode bb_F_coefficient 77 = .ok (.iload_n 1, 1) := by decide +kernel
theorem dd_F_coefficient_78 : decode bb_F_coefficient 78 = .ok (.iload_n 2, 1) := by decide +kernel
theorem dd_F_coefficient_79 : decode bb_F_coefficient 79 = .ok (.invokestatic 189, 3) := by decide +kernel
theorem dd_F_coefficient_82 : decode bb_F_coefficient 82 = .ok (.istore 5, 2) := by decide +kernel
theorem dd_F_coefficient_84 : decode bb_F_coefficient 84 = .ok (.iload_n 3, 1) := by decide +kernel
theorem dd_F_coefficient_85 : decode bb_F_coefficient 85 = .ok (.ifCond .eq 17, 3) := by decide +kernel
theorem dd_F_coefficient_88 : decode bb_F_coefficient 88 = .ok (.aload 4, 2) := by decide +kernel
theorem dd_F_coefficient_90 : decode bb_F_coefficient 90 = .ok (.getfield 192, 3) := by decide +kernel
theorem dd_F_coefficient_93 : decode bb_F_coefficient 93 = .ok (.getfield 87, 3) := by decide +kernel
theorem dd_F_coefficient_96 : decode bb_F_coefficient 96 = .ok (.iload 5, 2) := by decide +kernel
theorem dd_F_coefficient_98 : decode bb_F_coefficient 98 = .ok (.laload, 1) := by decide +kernel
theorem dd_F_coefficient_99 : decode bb_F_coefficient 99 = .ok (.goto 14, 3) := by decide +kernel
theorem dd_F_coefficient_102 : decode bb_F_coefficient 102 = .ok (.aload 4, 2) := by decide +kernel
theorem dd_F_coefficient_104 : decode bb_F_coefficient 104 = .ok (.getfield 192, 3) := by decide +kernel
theorem dd_F_coefficient_107 : decode bb_F_coefficient 107 = .ok (.getfield 81, 3) := by decide +kernel
theorem dd_F_coefficient_110 : decode bb_F_coefficient 110 = .ok (.iload 5, 2) := by decide +kernel
theorem dd_F_coefficient_112 : decode bb_F_coefficient 112 = .ok (.laload, 1) := by decide +kernel
theorem dd_F_coefficient_113 : decode bb_F_coefficient 113 = .ok (.l2i, 1) := by decide +kernel
theorem dd_F_coefficient_114 : decode bb_F_coefficient 114 = .ok (.ireturn, 1) := by decide +kernel
theorem dd_M_init_0 : decode bb_M_init 0 = .ok (.aload_n 0, 1) := by decide +kernel
theorem dd_M_init_1 : decode bb_M_init 1 = .ok (.invokespecial 1, 3) := by decide +kernel
theorem dd_M_init_4 : decode bb_M_init 4 = .ok (.aload_n 0, 1) := by decide +kernel
theorem dd_M_init_5 : decode bb_M_init 5 = .ok (.sipush 240, 3) := by decide +kernel
theorem dd_M_init_8 : decode bb_M_init 8 = .ok (.newarray .int, 2) := by decide +kernel
theorem dd_M_init_10 : decode bb_M_init 10 = .ok (.putfield 7, 3) := by decide +kernel
theorem dd_M_init_13 : decode bb_M_init 13 = .ok (.aload_n 0, 1) := by decide +kernel
theorem dd_M_init_14 : decode bb_M_init 14 = .ok (.iconst (-1), 1) := by decide +kernel
theorem dd_M_init_15 : decode bb_M_init 15 = .ok (.putfield 13, 3) := by decide +kernel
theorem dd_M_init_18 : decode bb_M_init 18 = .ok (.aload_n 0, 1) := by decide +kernel
theorem dd_M_init_19 : decode bb_M_init 19 = .ok (.iconst 3, 1) := by decide +kernel
theorem dd_M_init_20 : decode bb_M_init 20 = .ok (.newarray .int, 2) := by decide +kernel
theorem dd_M_init_22 : decode bb_M_init 22 = .ok (.putfield 17, 3) := by decide +kernel
theorem dd_M_init_25 : decode bb_M_init 25 = .ok (.aload_n 0, 1) := by decide +kernel
theorem dd_M_init_26 : decode bb_M_init 26 = .ok (.iconst (-1), 1) := by decide +kernel
theorem dd_M_init_27 : decode bb_M_init 27 = .ok (.putfield 20, 3) := by decide +kernel
theorem dd_M_init_30 : decode bb_M_init 30 = .ok (.aload_n 0, 1) := by decide +kernel
theorem dd_M_init_31 : decode bb_M_init 31 = .ok (.iconst 4, 1) := by decide +kernel
theorem dd_M_init_32 : decode bb_M_init 32 = .ok (.newarray .int, 2) := by decide +kernel
theorem dd_M_init_34 : decode bb_M_init 34 = .ok (.putfield 23, 3) := by decide +kernel
theorem dd_M_init_37 : decode bb_M_init 37 = .ok (.aload_n 0, 1) := by decide +kernel
theorem dd_M_init_38 : decode bb_M_init 38 = .ok (.bipush 48, 2) := by decide +kernel
theorem dd_M_init_40 : decode bb_M_init 40 = .ok (.newarray .long, 2) := by decide +kernel
theorem dd_M_init_42 : decode bb_M_init 42 = .ok (.putfield 26, 3) := by decide +kernel
theorem dd_M_init_45 : decode bb_M_init 45 = .ok (.aload_n 0, 1) := by decide +kernel
theorem dd_M_init_46 : decode bb_M_init 46 = .ok (.bipush 48, 2) := by decide +kernel
theorem dd_M_init_48 : decode bb_M_init 48 = .ok (.newarray .long, 2) := by decide +kernel
theorem dd_M_init_50 : decode bb_M_init 50 = .ok (.putfield 30, 3) := by decide +kernel
theorem dd_M_init_53 : decode bb_M_init 53 = .ok (.aload_n 0, 1) := by decide +kernel
theorem dd_M_init_54 : decode bb_M_init 54 = .ok (.sipush 144, 3) := by decide +kernel
theorem dd_M_init_57 : decode bb_M_init 57 = .ok (.newarray .int, 2) := by decide +kernel
theorem dd_M_init_59 : decode bb_M_init 59 = .ok (.putfield 33, 3) := by decide +kernel
theorem dd_M_init_62 : decode bb_M_init 62 = .ok (.aload_n 0, 1) := by decide +kernel
theorem dd_M_init_63 : decode bb_M_init 63 = .ok (.iconst 4, 1) := by decide +kernel
theorem dd_M_init_64 : decode bb_M_init 64 = .ok (.newarray .int, 2) := by decide +kernel
theorem dd_M_init_66 : decode bb_M_init 66 = .ok (.putfield 36, 3) := by decide +kernel
theorem dd_M_init_69 : decode bb_M_init 69 = .ok (.aload_n 0, 1) := by decide +kernel
theorem dd_M_init_70 : decode bb_M_init 70 = .ok (.bipush 48, 2) := by decide +kernel
theorem dd_M_init_72 : decode bb_M_init 72 = .ok (.newarray .long, 2) := by decide +kernel
theorem dd_M_init_74 : decode bb_M_init 74 = .ok (.putfield 39, 3) := by decide +kernel
theorem dd_M_init_77 : decode bb_M_init 77 = .ok (.aload_n 0, 1) := by decide +kernel
theorem dd_M_init_78 : decode bb_M_init 78 = .ok (.bipush 48, 2) := by decide +kernel
theorem dd_M_init_80 : decode bb_M_init 80 = .ok (.newarray .long, 2) := by decide +kernel
theorem dd_M_init_82 : decode bb_M_init 82 = .ok (.putfield 42, 3) := by decide +kernel
theorem dd_M_init_85 : decode bb_M_init 85 = .ok (.aload_n 0, 1) := by decide +kernel
theorem dd_M_init_86 : decode bb_M_init 86 = .ok (.sipush 144, 3) := by decide +kernel
theorem dd_M_init_89 : decode bb_M_init 89 = .ok (.newarray .int, 2) := by decide +kernel
theorem dd_M_init_91 : decode bb_M_init 91 = .ok (.putfield 45, 3) := by decide +kernel
theorem dd_M_init_94 : decode bb_M_init 94 = .ok (.aload_n 0, 1) := by decide +kernel
theorem dd_M_init_95 : decode bb_M_init 95 = .ok (.iconst 4, 1) := by decide +kernel
theorem dd_M_init_96 : decode bb_M_init 96 = .ok (.putfield 48, 3) := by decide +kernel
theorem dd_M_init_99 : decode bb_M_init 99 = .ok (.aload_n 0, 1) := by decide +kernel
theorem dd_M_init_100 : decode bb_M_init 100 = .ok (.ldc 51, 2) := by decide +kernel
theorem dd_M_init_102 : decode bb_M_init 102 = .ok (.putfield 52, 3) := by decide +kernel
theorem dd_M_init_105 : decode bb_M_init 105 = .ok (.aload_n 0, 1) := by decide +kernel
theorem dd_M_init_106 : decode bb_M_init 106 = .ok (.iconst 4, 1) := by decide +kernel
theorem dd_M_init_107 : decode bb_M_init 107 = .ok (.putfield 55, 3) := by decide +kernel
theorem dd_M_init_110 : decode bb_M_init 110 = .ok (.aload_n 0, 1) := by decide +kernel
theorem dd_M_init_111 : decode bb_M_init 111 = .ok (.iconst 3, 1) := by decide +kernel
theorem dd_M_init_112 : decode bb_M_init 112 = .ok (.newarray .long, 2) := by decide +kernel
theorem dd_M_init_114 : decode bb_M_init 114 = .ok (.putfield 58, 3) := by decide +kernel
theorem dd_M_init_117 : decode bb_M_init 117 = .ok (.aload_n 0, 1) := by decide +kernel
theorem dd_M_init_118 : decode bb_M_init 118 = .ok (.iconst 3, 1) := by decide +kernel
theorem dd_M_init_119 : decode bb_M_init 119 = .ok (.newarray .long, 2) := by decide +kernel
theorem dd_M_init_121 : decode bb_M_init 121 = .ok (.putfield 61, 3) := by decide +kernel
theorem dd_M_init_124 : decode bb_M_init 124 = .ok (.aload_n 0, 1) := by decide +kernel
theorem dd_M_init_125 : decode bb_M_init 125 = .ok (.iconst 3, 1) := by decide +kernel
theorem dd_M_init_126 : decode bb_M_init 126 = .ok (.newarray .long, 2) := by decide +kernel
theorem dd_M_init_128 : decode bb_M_init 128 = .ok (.putfield 64, 3) := by decide +kernel
theorem dd_M_init_131 : decode bb_M_init 131 = .ok (.aload_n 0, 1) := by decide +kernel
theorem dd_M_init_132 : decode bb_M_init 132 = .ok (.iconst 3, 1) := by decide +kernel
theorem dd_M_init_133 : decode bb_M_init 133 = .ok (.newarray .long, 2) := by decide +kernel
theorem dd_M_init_135 : decode bb_M_init 135 = .ok (.putfield 67, 3) := by decide +kernel
theorem dd_M_init_138 : decode bb_M_init 138 = .ok (.aload_n 0, 1) := by decide +kernel
theorem dd_M_init_139 : decode bb_M_init 139 = .ok (.iconst 4, 1) := by decide +kernel
theorem dd_M_init_140 : decode bb_M_init 140 = .ok (.putfield 70, 3) := by decide +kernel
theorem dd_M_init_143 : decode bb_M_init 143 = .ok (.aload_n 0, 1) := by decide +kernel
theorem dd_M_init_144 : decode bb_M_init 144 = .ok (.sipush 1200, 3) := by decide +kernel
theorem dd_M_init_147 : decode bb_M_init 147 = .ok (.newarray .int, 2) := by decide +kernel
theorem dd_M_init_149 : decode bb_M_init 149 = .ok (.putfield 73, 3) := by decide +kernel
theorem dd_M_init_152 : decode bb_M_init 152 = .ok (.aload_n 0, 1) := by decide +kernel
theorem dd_M_init_153 : decode bb_M_init 153 = .ok (.sipush 1200, 3) := by decide +kernel
theorem dd_M_init_156 : decode bb_M_init 156 = .ok (.newarray .int, 2) := by decide +kernel
theorem dd_M_init_158 : decode bb_M_init 158 = .ok (.putfield 76, 3) := by decide +kernel
theorem dd_M_init_161 : decode bb_M_init 161 = .ok (.aload_n 0, 1) := by decide +kernel
theorem dd_M_init_162 : decode bb_M_init 162 = .ok (.sipush 1200, 3) := by decide +kernel
theorem dd_M_init_165 : decode bb_M_init 165 = .ok (.newarray .int, 2) := by decide +kernel
theorem dd_M_init_167 : decode bb_M_init 167 = .ok (.putfield 79, 3) := by decide +kernel
theorem dd_M_init_170 : decode bb_M_init 170 = .ok (.aload_n 0, 1) := by decide +kernel
theorem dd_M_init_171 : decode bb_M_init 171 = .ok (.sipush 1200, 3) := by decide +kernel
theorem dd_M_init_174 : decode bb_M_init 174 = .ok (.newarray .int, 2) := by decide +kernel
theorem dd_M_init_176 : decode bb_M_init 176 = .ok (.putfield 82, 3) := by decide +kernel
theorem dd_M_init_179 : decode bb_M_init 179 = .ok (.aload_n 0, 1) := by decide +kernel
theorem dd_M_init_180 : decode bb_M_init 180 = .ok (.sipush 400, 3) := by decide +kernel
theorem dd_M_init_183 : decode bb_M_init 183 = .ok (.newarray .int, 2) := by decide +kernel
theorem dd_M_init_185 : decode bb_M_init 185 = .ok (.putfield 85, 3) := by decide +kernel
theorem dd_M_init_188 : decode bb_M_init 188 = .ok (.aload_n 0, 1) := by decide +kernel
theorem dd_M_init_189 : decode bb_M_init 189 = .ok (.sipush 400, 3) := by decide +kernel
theorem dd_M_init_192 : decode bb_M_init 192 = .ok (.newarray .int, 2) := by decide +kernel
theorem dd_M_init_194 : decode bb_M_init 194 = .ok (.putfield 88, 3) := by decide +kernel
theorem dd_M_init_197 : decode bb_M_init 197 = .ok (.aload_n 0, 1) := by decide +kernel
theorem dd_M_init_198 : decode bb_M_init 198 = .ok (.sipush 300, 3) := by decide +kernel
theorem dd_M_init_201 : decode bb_M_init 201 = .ok (.newarray .int, 2) := by decide +kernel
theorem dd_M_init_203 : decode bb_M_init 203 = .ok (.putfield 91, 3) := by decide +kernel
theorem dd_M_init_206 : decode bb_M_init 206 = .ok (.aload_n 0, 1) := by decide +kernel
theorem dd_M_init_207 : decode bb_M_init 207 = .ok (.iconst 3, 1) := by decide +kernel
theorem dd_M_init_208 : decode bb_M_init 208 = .ok (.newarray .long, 2) := by decide +kernel
theorem dd_M_init_210 : decode bb_M_init 210 = .ok (.putfield 94, 3) := by decide +kernel
theorem dd_M_init_213 : decode bb_M_init 213 = .ok (.aload_n 0, 1) := by decide +kernel
theorem dd_M_init_214 : decode bb_M_init 214 = .ok (.iconst 3, 1) := by decide +kernel
theorem dd_M_init_215 : decode bb_M_init 215 = .ok (.newarray .long, 2) := by decide +kernel
theorem dd_M_init_217 : decode bb_M_init 217 = .ok (.putfield 97, 3) := by decide +kernel
theorem dd_M_init_220 : decode bb_M_init 220 = .ok (.aload_n 0, 1) := by decide +kernel
theorem dd_M_init_221 : decode bb_M_init 221 = .ok (.iconst 3, 1) := by decide +kernel
theorem dd_M_init_222 : decode bb_M_init 222 = .ok (.newarray .long, 2) := by decide +kernel
theorem dd_M_init_224 : decode bb_M_init 224 = .ok (.putfield 100, 3) := by decide +kernel
theorem dd_M_init_227 : decode bb_M_init 227 = .ok (.aload_n 0, 1) := by decide +kernel
theorem dd_M_init_228 : decode bb_M_init 228 = .ok (.iconst 3, 1) := by decide +kernel
theorem dd_M_init_229 : decode bb_M_init 229 = .ok (.newarray .long, 2) := by decide +kernel
theorem dd_M_init_231 : decode bb_M_init 231 = .ok (.putfield 103, 3) := by decide +kernel
theorem dd_M_init_234 : decode bb_M_init 234 = .ok (.aload_n 0, 1) := by decide +kernel
theorem dd_M_init_235 : decode bb_M_init 235 = .ok (.bipush 60, 2) := by decide +kernel
theorem dd_M_init_237 : decode bb_M_init 237 = .ok (.newarray .long, 2) := by decide +kernel
theorem dd_M_init_239 : decode bb_M_init 239 = .ok (.putfield 106, 3) := by decide +kernel
theorem dd_M_init_242 : decode bb_M_init 242 = .ok (.aload_n 0, 1) := by decide +kernel
theorem dd_M_init_243 : decode bb_M_init 243 = .ok (.bipush 60, 2) := by decide +kernel
theorem dd_M_init_245 : decode bb_M_init 245 = .ok (.newarray .long, 2) := by decide +kernel
theorem dd_M_init_247 : decode bb_M_init 247 = .ok (.putfield 109, 3) := by decide +kernel
theorem dd_M_init_250 : decode bb_M_init 250 = .ok (.aload_n 0, 1) := by decide +kernel
theorem dd_M_init_251 : decode bb_M_init 251 = .ok (.sipush 2520, 3) := by decide +kernel
theorem dd_M_init_254 : decode bb_M_init 254 = .ok (.newarray .long, 2) := by decide +kernel
theorem dd_M_init_256 : decode bb_M_init 256 = .ok (.putfield 112, 3) := by decide +kernel
theorem dd_M_init_259 : decode bb_M_init 259 = .ok (.aload_n 0, 1) := by decide +kernel
theorem dd_M_init_260 : decode bb_M_init 260 = .ok (.sipush 2520, 3) := by decide +kernel
theorem dd_M_init_263 : decode bb_M_init 263 = .ok (.newarray .long, 2) := by decide +kernel
theorem dd_M_init_265 : decode bb_M_init 265 = .ok (.putfield 115, 3) := by decide +kernel
theorem dd_M_init_268 : decode bb_M_init 268 = .ok (.return_, 1) := by decide +kernel
theorem dd_M_thrown_0 : decode bb_M_thrown 0 = .ok (.aload_n 0, 1) := by decide +kernel
theorem dd_M_thrown_1 : decode bb_M_thrown 1 = .ok (.getfield 118, 3) := by decide +kernel
theorem dd_M_thrown_4 : decode bb_M_thrown 4 = .ok (.ireturn, 1) := by decide +kernel
theorem dd_M_type_0 : decode bb_M_type 0 = .ok (.aload_n 0, 1) := by decide +kernel
theorem dd_M_type_1 : decode bb_M_type 1 = .ok (.iconst 0, 1) := by decide +kernel
theorem dd_M_type_2 : decode bb_M_type 2 = .ok (.putfield 118, 3) := by decide +kernel
theorem dd_M_type_5 : decode bb_M_type 5 = .ok (.iload_n 3, 1) := by decide +kernel
theorem dd_M_type_6 : decode bb_M_type 6 = .ok (.iconst 1, 1) := by decide +kernel
theorem dd_M_type_7 : decode bb_M_type 7 = .ok (.if_icmp .lt 21, 3) := by decide +kernel
theorem dd_M_type_10 : decode bb_M_type 10 = .ok (.iload_n 3, 1) := by decide +kernel
theorem dd_M_type_11 : decode bb_M_type 11 = .ok (.bipush 8, 2) := by decide +kernel
theorem dd_M_type_13 : decode bb_M_type 13 = .ok (.if_icmp .gt 15, 3) := by decide +kernel
theorem dd_M_type_16 : decode bb_M_type 16 = .ok (.aload_n 0, 1) := by decide +kernel
theorem dd_M_type_17 : decode bb_M_type 17 = .ok (.getfield 148, 3) := by decide +kernel
theorem dd_M_type_20 : decode bb_M_type 20 = .ok (.iload_n 3, 1) := by decide +kernel
theorem dd_M_type_21 : decode bb_M_type 21 = .ok (.iadd, 1) := by decide +kernel
theorem dd_M_type_22 : decode bb_M_type 22 = .ok (.sipush 240, 3) := by decide +kernel
theorem dd_M_type_25 : decode bb_M_type 25 = .ok (.if_icmp .le 5, 3) := by decide +kernel
theorem dd_M_type_28 : decode bb_M_type 28 = .ok (.iconst 0, 1) := by decide +kernel
theorem dd_M_type_29 : decode bb_M_type 29 = .ok (.ireturn, 1) := by decide +kernel
theorem dd_M_type_30 : decode bb_M_type 30 = .ok (.iconst 0, 1) := by decide +kernel
theorem dd_M_type_31 : decode bb_M_type 31 = .ok (.istore 4, 2) := by decide +kernel
theorem dd_M_type_33 : decode bb_M_type 33 = .ok (.iload 4, 2) := by decide +kernel
theorem dd_M_type_35 : decode bb_M_type 35 = .ok (.iload_n 3, 1) := by decide +kernel
theorem dd_M_type_36 : decode bb_M_type 36 = .ok (.if_icmp .ge 39, 3) := by decide +kernel
theorem dd_M_type_39 : decode bb_M_type 39 = .ok (.lload_n 1, 1) := by decide +kernel
theorem dd_M_type_40 : decode bb_M_type 40 = .ok (.bipush 8, 2) := by decide +kernel
theorem dd_M_type_42 : decode bb_M_type 42 = .ok (.iload 4, 2) := by decide +kernel
theorem dd_M_type_44 : decode bb_M_type 44 = .ok (.imul, 1) := by decide +kernel
theorem dd_M_type_45 : decode bb_M_type 45 = .ok (.lshr, 1) := by decide +kernel
theorem dd_M_type_46 : decode bb_M_type 46 = .ok (.ldc2_w 151, 3) := by decide +kernel
theorem dd_M_type_49 : decode bb_M_type 49 = .ok (.land, 1) := by decide +kernel
theorem dd_M_type_50 : decode bb_M_type 50 = .ok (.l2i, 1) := by decide +kernel
theorem dd_M_type_51 : decode bb_M_type 51 = .ok (.istore 5, 2) := by decide +kernel
theorem dd_M_type_53 : decode bb_M_type 53 = .ok (.iload 5, 2) := by decide +kernel
theorem dd_M_type_55 : decode bb_M_type 55 = .ok (.bipush 33, 2) := by decide +kernel
theorem dd_M_type_57 : decode bb_M_type 57 = .ok (.if_icmp .lt 10, 3) := by decide +kernel
theorem dd_M_type_60 : decode bb_M_type 60 = .ok (.iload 5, 2) := by decide +kernel
theorem dd_M_type_62 : decode bb_M_type 62 = .ok (.bipush 126, 2) := by decide +kernel
theorem dd_M_type_64 : decode bb_M_type 64 = .ok (.if_icmp .le 5, 3) := by decide +kernel
theorem dd_M_type_67 : decode bb_M_type 67 = .ok (.iconst 0, 1) := by decide +kernel
theorem dd_M_type_68 : decode bb_M_type 68 = .ok (.ireturn, 1) := by decide +kernel
theorem dd_M_type_69 : decode bb_M_type 69 = .ok (.iinc 4 1, 3) := by decide +kernel
theorem dd_M_type_72 : decode bb_M_type 72 = .ok (.goto (-39), 3) := by decide +kernel
theorem dd_M_type_75 : decode bb_M_type 75 = .ok (.iload_n 3, 1) := by decide +kernel
theorem dd_M_type_76 : decode bb_M_type 76 = .ok (.iconst 1, 1) := by decide +kernel
theorem dd_M_type_77 : decode bb_M_type 77 = .ok (.isub, 1) := by decide +kernel
theorem dd_M_type_78 : decode bb_M_type 78 = .ok (.istore 4, 2) := by decide +kernel
theorem dd_M_type_80 : decode bb_M_type 80 = .ok (.iload 4, 2) := by decide +kernel
theorem dd_M_type_82 : decode bb_M_type 82 = .ok (.ifCond .lt 40, 3) := by decide +kernel
theorem dd_M_type_85 : decode bb_M_type 85 = .ok (.aload_n 0, 1) := by decide +kernel
theorem dd_M_type_86 : decode bb_M_type 86 = .ok (.getfield 7, 3) := by decide +kernel
theorem dd_M_type_89 : decode bb_M_type 89 = .ok (.aload_n 0, 1) := by decide +kernel
theorem dd_M_type_90 : decode bb_M_type 90 = .ok (.getfield 148, 3) := by decide +kernel
theorem dd_M_type_93 : decode bb_M_type 93 = .ok (.lload_n 1, 1) := by decide +kernel
theorem dd_M_type_94 : decode bb_M_type 94 = .ok (.bipush 8, 2) := by decide +kernel
theorem dd_M_type_96 : decode bb_M_type 96 = .ok (.iload 4, 2) := by decide +kernel
theorem dd_M_type_98 : decode bb_M_type 98 = .ok (.imul, 1) := by decide +kernel
theorem dd_M_type_99 : decode bb_M_type 99 = .ok (.lshr, 1) := by decide +kernel
theorem dd_M_type_100 : decode bb_M_type 100 = .ok (.ldc2_w 151, 3) := by decide +kernel
theorem dd_M_type_103 : decode bb_M_type 103 = .ok (.land, 1) := by decide +kernel
theorem dd_M_type_104 : decode bb_M_type 104 = .ok (.l2i, 1) := by decide +kernel
theorem dd_M_type_105 : decode bb_M_type 105 = .ok (.iastore, 1) := by decide +kernel
theorem dd_M_type_106 : decode bb_M_type 106 = .ok (.aload_n 0, 1) := by decide +kernel
theorem dd_M_type_107 : decode bb_M_type 107 = .ok (.dup, 1) := by decide +kernel
theorem dd_M_type_108 : decode bb_M_type 108 = .ok (.getfield 148, 3) := by decide +kernel
theorem dd_M_type_111 : decode bb_M_type 111 = .ok (.iconst 1, 1) := by decide +kernel
