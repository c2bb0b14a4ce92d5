theorem dd_F_init_0 : decode bb_F_init 0 = .ok (.aload_n 0, 1) := by decide +kernel
theorem dd_F_init_1 : decode bb_F_init 1 = .ok (.invokespecial 3, 3) := by decide +kernel
theorem dd_F_init_4 : decode bb_F_init 4 = .ok (.aload_n 0, 1) := by decide +kernel
theorem dd_F_init_5 : decode bb_F_init 5 = .ok (.iconst (-1), 1) := by decide +kernel
theorem dd_F_init_6 : decode bb_F_init 6 = .ok (.putfield 9, 3) := by decide +kernel
theorem dd_F_init_9 : decode bb_F_init 9 = .ok (.aload_n 0, 1) := by decide +kernel
theorem dd_F_init_10 : decode bb_F_init 10 = .ok (.new 13, 3) := by decide +kernel
theorem dd_F_init_13 : decode bb_F_init 13 = .ok (.dup, 1) := by decide +kernel
theorem dd_F_init_14 : decode bb_F_init 14 = .ok (.invokespecial 15, 3) := by decide +kernel
theorem dd_F_init_17 : decode bb_F_init 17 = .ok (.putfield 16, 3) := by decide +kernel
theorem dd_F_init_20 : decode bb_F_init 20 = .ok (.aload_n 0, 1) := by decide +kernel
theorem dd_F_init_21 : decode bb_F_init 21 = .ok (.new 20, 3) := by decide +kernel
theorem dd_F_init_24 : decode bb_F_init 24 = .ok (.dup, 1) := by decide +kernel
theorem dd_F_init_25 : decode bb_F_init 25 = .ok (.invokespecial 22, 3) := by decide +kernel
theorem dd_F_init_28 : decode bb_F_init 28 = .ok (.putfield 23, 3) := by decide +kernel
theorem dd_F_init_31 : decode bb_F_init 31 = .ok (.aload_n 0, 1) := by decide +kernel
theorem dd_F_init_32 : decode bb_F_init 32 = .ok (.new 20, 3) := by decide +kernel
theorem dd_F_init_35 : decode bb_F_init 35 = .ok (.dup, 1) := by decide +kernel
theorem dd_F_init_36 : decode bb_F_init 36 = .ok (.invokespecial 22, 3) := by decide +kernel
theorem dd_F_init_39 : decode bb_F_init 39 = .ok (.putfield 27, 3) := by decide +kernel
theorem dd_F_init_42 : decode bb_F_init 42 = .ok (.aload_n 0, 1) := by decide +kernel
theorem dd_F_init_43 : decode bb_F_init 43 = .ok (.new 30, 3) := by decide +kernel
theorem dd_F_init_46 : decode bb_F_init 46 = .ok (.dup, 1) := by decide +kernel
theorem dd_F_init_47 : decode bb_F_init 47 = .ok (.invokespecial 32, 3) := by decide +kernel
theorem dd_F_init_50 : decode bb_F_init 50 = .ok (.putfield 33, 3) := by decide +kernel
theorem dd_F_init_53 : decode bb_F_init 53 = .ok (.return_, 1) := by decide +kernel
theorem dd_P_init_0 : decode bb_P_init 0 = .ok (.aload_n 0, 1) := by decide +kernel
theorem dd_P_init_1 : decode bb_P_init 1 = .ok (.invokespecial 3, 3) := by decide +kernel
theorem dd_P_init_4 : decode bb_P_init 4 = .ok (.aload_n 0, 1) := by decide +kernel
theorem dd_P_init_5 : decode bb_P_init 5 = .ok (.sipush 240, 3) := by decide +kernel
theorem dd_P_init_8 : decode bb_P_init 8 = .ok (.newarray .byte, 2) := by decide +kernel
theorem dd_P_init_10 : decode bb_P_init 10 = .ok (.putfield 9, 3) := by decide +kernel
theorem dd_P_init_13 : decode bb_P_init 13 = .ok (.aload_n 0, 1) := by decide +kernel
theorem dd_P_init_14 : decode bb_P_init 14 = .ok (.iconst 0, 1) := by decide +kernel
theorem dd_P_init_15 : decode bb_P_init 15 = .ok (.putfield 15, 3) := by decide +kernel
theorem dd_P_init_18 : decode bb_P_init 18 = .ok (.aload_n 0, 1) := by decide +kernel
theorem dd_P_init_19 : decode bb_P_init 19 = .ok (.iconst 0, 1) := by decide +kernel
theorem dd_P_init_20 : decode bb_P_init 20 = .ok (.putfield 19, 3) := by decide +kernel
theorem dd_P_init_23 : decode bb_P_init 23 = .ok (.aload_n 0, 1) := by decide +kernel
theorem dd_P_init_24 : decode bb_P_init 24 = .ok (.iconst (-1), 1) := by decide +kernel
theorem dd_P_init_25 : decode bb_P_init 25 = .ok (.putfield 22, 3) := by decide +kernel
theorem dd_P_init_28 : decode bb_P_init 28 = .ok (.aload_n 0, 1) := by decide +kernel
theorem dd_P_init_29 : decode bb_P_init 29 = .ok (.iconst 1, 1) := by decide +kernel
theorem dd_P_init_30 : decode bb_P_init 30 = .ok (.putfield 25, 3) := by decide +kernel
theorem dd_P_init_33 : decode bb_P_init 33 = .ok (.aload_n 0, 1) := by decide +kernel
theorem dd_P_init_34 : decode bb_P_init 34 = .ok (.iconst 1, 1) := by decide +kernel
theorem dd_P_init_35 : decode bb_P_init 35 = .ok (.putfield 28, 3) := by decide +kernel
theorem dd_P_init_38 : decode bb_P_init 38 = .ok (.aload_n 0, 1) := by decide +kernel
theorem dd_P_init_39 : decode bb_P_init 39 = .ok (.iconst 3, 1) := by decide +kernel
theorem dd_P_init_40 : decode bb_P_init 40 = .ok (.newarray .int, 2) := by decide +kernel
theorem dd_P_init_42 : decode bb_P_init 42 = .ok (.putfield 31, 3) := by decide +kernel
theorem dd_P_init_45 : decode bb_P_init 45 = .ok (.return_, 1) := by decide +kernel
theorem dd_B_init_0 : decode bb_B_init 0 = .ok (.aload_n 0, 1) := by decide +kernel
theorem dd_B_init_1 : decode bb_B_init 1 = .ok (.invokespecial 3, 3) := by decide +kernel
theorem dd_B_init_4 : decode bb_B_init 4 = .ok (.aload_n 0, 1) := by decide +kernel
theorem dd_B_init_5 : decode bb_B_init 5 = .ok (.iconst 3, 1) := by decide +kernel
theorem dd_B_init_6 : decode bb_B_init 6 = .ok (.anewarray 9, 3) := by decide +kernel
theorem dd_B_init_9 : decode bb_B_init 9 = .ok (.putfield 11, 3) := by decide +kernel
theorem dd_B_init_12 : decode bb_B_init 12 = .ok (.iconst 0, 1) := by decide +kernel
theorem dd_B_init_13 : decode bb_B_init 13 = .ok (.istore_n 1, 1) := by decide +kernel
theorem dd_B_init_14 : decode bb_B_init 14 = .ok (.iload_n 1, 1) := by decide +kernel
theorem dd_B_init_15 : decode bb_B_init 15 = .ok (.iconst 3, 1) := by decide +kernel
theorem dd_B_init_16 : decode bb_B_init 16 = .ok (.if_icmp .ge 22, 3) := by decide +kernel
theorem dd_B_init_19 : decode bb_B_init 19 = .ok (.aload_n 0, 1) := by decide +kernel
theorem dd_B_init_20 : decode bb_B_init 20 = .ok (.getfield 11, 3) := by decide +kernel
theorem dd_B_init_23 : decode bb_B_init 23 = .ok (.iload_n 1, 1) := by decide +kernel
theorem dd_B_init_24 : decode bb_B_init 24 = .ok (.new 9, 3) := by decide +kernel
theorem dd_B_init_27 : decode bb_B_init 27 = .ok (.dup, 1) := by decide +kernel
theorem dd_B_init_28 : decode bb_B_init 28 = .ok (.invokespecial 17, 3) := by decide +kernel
theorem dd_B_init_31 : decode bb_B_init 31 = .ok (.aastore, 1) := by decide +kernel
theorem dd_B_init_32 : decode bb_B_init 32 = .ok (.iinc 1 1, 3) := by decide +kernel
theorem dd_B_init_35 : decode bb_B_init 35 = .ok (.goto (-21), 3) := by decide +kernel
theorem dd_B_init_38 : decode bb_B_init 38 = .ok (.aload_n 0, 1) := by decide +kernel
theorem dd_B_init_39 : decode bb_B_init 39 = .ok (.new 9, 3) := by decide +kernel
theorem dd_B_init_42 : decode bb_B_init 42 = .ok (.dup, 1) := by decide +kernel
theorem dd_B_init_43 : decode bb_B_init 43 = .ok (.invokespecial 17, 3) := by decide +kernel
theorem dd_B_init_46 : decode bb_B_init 46 = .ok (.putfield 18, 3) := by decide +kernel
theorem dd_B_init_49 : decode bb_B_init 49 = .ok (.aload_n 0, 1) := by decide +kernel
theorem dd_B_init_50 : decode bb_B_init 50 = .ok (.iconst 0, 1) := by decide +kernel
theorem dd_B_init_51 : decode bb_B_init 51 = .ok (.putfield 22, 3) := by decide +kernel
theorem dd_B_init_54 : decode bb_B_init 54 = .ok (.aload_n 0, 1) := by decide +kernel
theorem dd_B_init_55 : decode bb_B_init 55 = .ok (.iconst 0, 1) := by decide +kernel
theorem dd_B_init_56 : decode bb_B_init 56 = .ok (.putfield 26, 3) := by decide +kernel
theorem dd_B_init_59 : decode bb_B_init 59 = .ok (.return_, 1) := by decide +kernel
theorem dd_Y_init_0 : decode bb_Y_init 0 = .ok (.aload_n 0, 1) := by decide +kernel
theorem dd_Y_init_1 : decode bb_Y_init 1 = .ok (.invokespecial 3, 3) := by decide +kernel
theorem dd_Y_init_4 : decode bb_Y_init 4 = .ok (.aload_n 0, 1) := by decide +kernel
theorem dd_Y_init_5 : decode bb_Y_init 5 = .ok (.new 9, 3) := by decide +kernel
theorem dd_Y_init_8 : decode bb_Y_init 8 = .ok (.dup, 1) := by decide +kernel
theorem dd_Y_init_9 : decode bb_Y_init 9 = .ok (.bipush 12, 2) := by decide +kernel
theorem dd_Y_init_11 : decode bb_Y_init 11 = .ok (.invokespecial 11, 3) := by decide +kernel
theorem dd_Y_init_14 : decode bb_Y_init 14 = .ok (.putfield 14, 3) := by decide +kernel
theorem dd_Y_init_17 : decode bb_Y_init 17 = .ok (.aload_n 0, 1) := by decide +kernel
theorem dd_Y_init_18 : decode bb_Y_init 18 = .ok (.bipush 36, 2) := by decide +kernel
theorem dd_Y_init_20 : decode bb_Y_init 20 = .ok (.newarray .int, 2) := by decide +kernel
theorem dd_Y_init_22 : decode bb_Y_init 22 = .ok (.putfield 20, 3) := by decide +kernel
theorem dd_Y_init_25 : decode bb_Y_init 25 = .ok (.aload_n 0, 1) := by decide +kernel
theorem dd_Y_init_26 : decode bb_Y_init 26 = .ok (.iconst 0, 1) := by decide +kernel
theorem dd_Y_init_27 : decode bb_Y_init 27 = .ok (.putfield 24, 3) := by decide +kernel
theorem dd_Y_init_30 : decode bb_Y_init 30 = .ok (.return_, 1) := by decide +kernel
theorem dd_R_init_0 : decode bb_R_init 0 = .ok (.aload_n 0, 1) := by decide +kernel
theorem dd_R_init_1 : decode bb_R_init 1 = .ok (.invokespecial 1, 3) := by decide +kernel
theorem dd_R_init_4 : decode bb_R_init 4 = .ok (.aload_n 0, 1) := by decide +kernel
theorem dd_R_init_5 : decode bb_R_init 5 = .ok (.iload_n 1, 1) := by decide +kernel
theorem dd_R_init_6 : decode bb_R_init 6 = .ok (.newarray .long, 2) := by decide +kernel
theorem dd_R_init_8 : decode bb_R_init 8 = .ok (.putfield 7, 3) := by decide +kernel
theorem dd_R_init_11 : decode bb_R_init 11 = .ok (.aload_n 0, 1) := by decide +kernel
theorem dd_R_init_12 : decode bb_R_init 12 = .ok (.iload_n 1, 1) := by decide +kernel
theorem dd_R_init_13 : decode bb_R_init 13 = .ok (.newarray .long, 2) := by decide +kernel
theorem dd_R_init_15 : decode bb_R_init 15 = .ok (.putfield 13, 3) := by decide +kernel
theorem dd_R_init_18 : decode bb_R_init 18 = .ok (.return_, 1) := by decide +kernel
theorem dd_U_init_0 : decode bb_U_init 0 = .ok (.aload_n 0, 1) := by decide +kernel
theorem dd_U_init_1 : decode bb_U_init 1 = .ok (.invokespecial 3, 3) := by decide +kernel
theorem dd_U_init_4 : decode bb_U_init 4 = .ok (.aload_n 0, 1) := by decide +kernel
theorem dd_U_init_5 : decode bb_U_init 5 = .ok (.iconst 4, 1) := by decide +kernel
theorem dd_U_init_6 : decode bb_U_init 6 = .ok (.putfield 9, 3) := by decide +kernel
theorem dd_U_init_9 : decode bb_U_init 9 = .ok (.aload_n 0, 1) := by decide +kernel
theorem dd_U_init_10 : decode bb_U_init 10 = .ok (.ldc 15, 2) := by decide +kernel
theorem dd_U_init_12 : decode bb_U_init 12 = .ok (.putfield 16, 3) := by decide +kernel
theorem dd_U_init_15 : decode bb_U_init 15 = .ok (.aload_n 0, 1) := by decide +kernel
theorem dd_U_init_16 : decode bb_U_init 16 = .ok (.iconst 4, 1) := by decide +kernel
theorem dd_U_init_17 : decode bb_U_init 17 = .ok (.putfield 19, 3) := by decide +kernel
theorem dd_U_init_20 : decode bb_U_init 20 = .ok (.aload_n 0, 1) := by decide +kernel
theorem dd_U_init_21 : decode bb_U_init 21 = .ok (.iconst 0, 1) := by decide +kernel
theorem dd_U_init_22 : decode bb_U_init 22 = .ok (.putfield 22, 3) := by decide +kernel
theorem dd_U_init_25 : decode bb_U_init 25 = .ok (.aload_n 0, 1) := by decide +kernel
theorem dd_U_init_26 : decode bb_U_init 26 = .ok (.aload_n 0, 1) := by decide +kernel
theorem dd_U_init_27 : decode bb_U_init 27 = .ok (.getfield 19, 3) := by decide +kernel
theorem dd_U_init_30 : decode bb_U_init 30 = .ok (.putfield 25, 3) := by decide +kernel
theorem dd_U_init_33 : decode bb_U_init 33 = .ok (.aload_n 0, 1) := by decide +kernel
theorem dd_U_init_34 : decode bb_U_init 34 = .ok (.iconst 0, 1) := by decide +kernel
theorem dd_U_init_35 : decode bb_U_init 35 = .ok (.putfield 28, 3) := by decide +kernel
theorem dd_U_init_38 : decode bb_U_init 38 = .ok (.aload_n 0, 1) := by decide +kernel
theorem dd_U_init_39 : decode bb_U_init 39 = .ok (.iconst 0, 1) := by decide +kernel
theorem dd_U_init_40 : decode bb_U_init 40 = .ok (.putfield 31, 3) := by decide +kernel
theorem dd_U_init_43 : decode bb_U_init 43 = .ok (.aload_n 0, 1) := by decide +kernel
theorem dd_U_init_44 : decode bb_U_init 44 = .ok (.new 34, 3) := by decide +kernel
theorem dd_U_init_47 : decode bb_U_init 47 = .ok (.dup, 1) := by decide +kernel
theorem dd_U_init_48 : decode bb_U_init 48 = .ok (.iconst 3, 1) := by decide +kernel
theorem dd_U_init_49 : decode bb_U_init 49 = .ok (.invokespecial 36, 3) := by decide +kernel
theorem dd_U_init_52 : decode bb_U_init 52 = .ok (.putfield 39, 3) := by decide +kernel
theorem dd_U_init_55 : decode bb_U_init 55 = .ok (.aload_n 0, 1) := by decide +kernel
theorem dd_U_init_56 : decode bb_U_init 56 = .ok (.new 34, 3) := by decide +kernel
theorem dd_U_init_59 : decode bb_U_init 59 = .ok (.dup, 1) := by decide +kernel
theorem dd_U_init_60 : decode bb_U_init 60 = .ok (.iconst 3, 1) := by decide +kernel
theorem dd_U_init_61 : decode bb_U_init 61 = .ok (.invokespecial 36, 3) := by decide +kernel
theorem dd_U_init_64 : decode bb_U_init 64 = .ok (.putfield 43, 3) := by decide +kernel
theorem dd_U_init_67 : decode bb_U_init 67 = .ok (.aload_n 0, 1) := by decide +kernel
theorem dd_U_init_68 : decode bb_U_init 68 = .ok (.new 46, 3) := by decide +kernel
theorem dd_U_init_71 : decode bb_U_init 71 = .ok (.dup, 1) := by decide +kernel
theorem dd_U_init_72 : decode bb_U_init 72 = .ok (.invokespecial 48, 3) := by decide +kernel
theorem dd_U_init_75 : decode bb_U_init 75 = .ok (.putfield 49, 3) := by decide +kernel
theorem dd_U_init_78 : decode bb_U_init 78 = .ok (.aload_n 0, 1) := by decide +kernel
theorem dd_U_init_79 : decode bb_U_init 79 = .ok (.new 53, 3) := by decide +kernel
theorem dd_U_init_82 : decode bb_U_init 82 = .ok (.dup, 1) := by decide +kernel
theorem dd_U_init_83 : decode bb_U_init 83 = .ok (.invokespecial 55, 3) := by decide +kernel
theorem dd_U_init_86 : decode bb_U_init 86 = .ok (.putfield 56, 3) := by decide +kernel
theorem dd_U_init_89 : decode bb_U_init 89 = .ok (.aload_n 0, 1) := by decide +kernel
theorem dd_U_init_90 : decode bb_U_init 90 = .ok (.iconst 0, 1) := by decide +kernel
theorem dd_U_init_91 : decode bb_U_init 91 = .ok (.putfield 60, 3) := by decide +kernel
theorem dd_U_init_94 : decode bb_U_init 94 = .ok (.aload_n 0, 1) := by decide +kernel
theorem dd_U_init_95 : decode bb_U_init 95 = .ok (.new 63, 3) := by decide +kernel
theorem dd_U_init_98 : decode bb_U_init 98 = .ok (.dup, 1) := by decide +kernel
theorem dd_U_init_99 : decode bb_U_init 99 = .ok (.invokespecial 65, 3) := by decide +kernel
theorem dd_U_init_102 : decode bb_U_init 102 = .ok (.putfield 66, 3) := by decide +kernel
theorem dd_U_init_105 : decode bb_U_init 105 = .ok (.return_, 1) := by decide +kernel
theorem dd_H_init_0 : decode bb_H_init 0 = .ok (.aload_n 0, 1) := by decide +kernel
theorem dd_H_init_1 : decode bb_H_init 1 = .ok (.invokespecial 5, 3) := by decide +kernel
theorem dd_H_init_4 : decode bb_H_init 4 = .ok (.aload_n 0, 1) := by decide +kernel
theorem dd_H_init_5 : decode bb_H_init 5 = .ok (.sipush 5600, 3) := by decide +kernel
theorem dd_H_init_8 : decode bb_H_init 8 = .ok (.newarray .int, 2) := by decide +kernel
theorem dd_H_init_10 : decode bb_H_init 10 = .ok (.putfield 11, 3) := by decide +kernel
theorem dd_H_init_13 : decode bb_H_init 13 = .ok (.aload_n 0, 1) := by decide +kernel
theorem dd_H_init_14 : decode bb_H_init 14 = .ok (.sipush 300, 3) := by decide +kernel
theorem dd_H_init_17 : decode bb_H_init 17 = .ok (.newarray .int, 2) := by decide +kernel
theorem dd_H_init_19 : decode bb_H_init 19 = .ok (.putfield 15, 3) := by decide +kernel
theorem dd_H_init_22 : decode bb_H_init 22 = .ok (.aload_n 0, 1) := by decide +kernel
theorem dd_H_init_23 : decode bb_H_init 23 = .ok (.invokevirtual 18, 3) := by decide +kernel
theorem dd_H_init_26 : decode bb_H_init 26 = .ok (.return_, 1) := by decide +kernel
theorem dd_H_clear_0 : decode bb_H_clear 0 = .ok (.aload_n 0, 1) := by decide +kernel
theorem dd_H_clear_1 : decode bb_H_clear 1 = .ok (.iconst 0, 1) := by decide +kernel
theorem dd_H_clear_2 : decode bb_H_clear 2 = .ok (.putfield 21, 3) := by decide +kernel
theorem dd_H_clear_5 : decode bb_H_clear 5 = .ok (.aload_n 0, 1) := by decide +kernel
theorem dd_H_clear_6 : decode bb_H_clear 6 = .ok (.iconst 0, 1) := by decide +kernel
theorem dd_H_clear_7 : decode bb_H_clear 7 = .ok (.putfield 25, 3) := by decide +kernel
theorem dd_H_clear_10 : decode bb_H_clear 10 = .ok (.aload_n 0, 1) := by decide +kernel
theorem dd_H_clear_11 : decode bb_H_clear 11 = .ok (.iconst 0, 1) := by decide +kernel
theorem dd_H_clear_12 : decode bb_H_clear 12 = .ok (.putfield 28, 3) := by decide +kernel
theorem dd_H_clear_15 : decode bb_H_clear 15 = .ok (.aload_n 0, 1) := by decide +kernel
theorem dd_H_clear_16 : decode bb_H_clear 16 = .ok (.iconst (-1), 1) := by decide +kernel
theorem dd_H_clear_17 : decode bb_H_clear 17 = .ok (.putfield 31, 3) := by decide +kernel
theorem dd_H_clear_20 : decode bb_H_clear 20 = .ok (.return_, 1) := by decide +kernel
theorem dd_T_init_0 : decode bb_T_init 0 = .ok (.aload_n 0, 1) := by decide +kernel
theorem dd_T_init_1 : decode bb_T_init 1 = .ok (.invokespecial 3, 3) := by decide +kernel
theorem dd_T_init_4 : decode bb_T_init 4 = .ok (.aload_n 0, 1) := by decide +kernel
theorem dd_T_init_5 : decode bb_T_init 5 = .ok (.new 9, 3) := by decide +kernel
theorem dd_T_init_8 : decode bb_T_init 8 = .ok (.dup, 1) := by decide +kernel
theorem dd_T_init_9 : decode bb_T_init 9 = .ok (.iconst 3, 1) := by decide +kernel
theorem dd_T_init_10 : decode bb_T_init 10 = .ok (.invokespecial 11, 3) := by decide +kernel
theorem dd_T_init_13 : decode bb_T_init 13 = .ok (.putfield 14, 3) := by decide +kernel
theorem dd_T_init_16 : decode bb_T_init 16 = .ok (.aload_n 0, 1) := by decide +kernel
theorem dd_T_init_17 : decode bb_T_init 17 = .ok (.new 9, 3) := by decide +kernel
theorem dd_T_init_20 : decode bb_T_init 20 = .ok (.dup, 1) := by decide +kernel
theorem dd_T_init_21 : decode bb_T_init 21 = .ok (.iconst 3, 1) := by decide +kernel
theorem dd_T_init_22 : decode bb_T_init 22 = .ok (.invokespecial 11, 3) := by decide +kernel
theorem dd_T_init_25 : decode bb_T_init 25 = .ok (.putfield 20, 3) := by decide +kernel
theorem dd_T_init_28 : decode bb_T_init 28 = .ok (.aload_n 0, 1) := by decide +kernel
theorem dd_T_init_29 : decode bb_T_init 29 = .ok (.new 23, 3) := by decide +kernel
theorem dd_T_init_32 : decode bb_T_init 32 = .ok (.dup, 1) := by decide +kernel
theorem dd_T_init_33 : decode bb_T_init 33 = .ok (.invokespecial 25, 3) := by decide +kernel
theorem dd_T_init_36 : decode bb_T_init 36 = .ok (.putfield 26, 3) := by decide +kernel
theorem dd_T_init_39 : decode bb_T_init 39 = .ok (.aload_n 0, 1) := by decide +kernel
theorem dd_T_init_40 : decode bb_T_init 40 = .ok (.new 9, 3) := by decide +kernel
theorem dd_T_init_43 : decode bb_T_init 43 = .ok (.dup, 1) := by decide +kernel
theorem dd_T_init_44 : decode bb_T_init 44 = .ok (.iconst 3, 1) := by decide +kernel
theorem dd_T_init_45 : decode bb_T_init 45 = .ok (.invokespecial 11, 3) := by decide +kernel
theorem dd_T_init_48 : decode bb_T_init 48 = .ok (.putfield 30, 3) := by decide +kernel
theorem dd_T_init_51 : decode bb_T_init 51 = .ok (.aload_n 0, 1) := by decide +kernel
theorem dd_T_init_52 : decode bb_T_init 52 = .ok (.new 9, 3) := by decide +kernel
theorem dd_T_init_55 : decode bb_T_init 55 = .ok (.dup, 1) := by decide +kernel
theorem dd_T_init_56 : decode bb_T_init 56 = .ok (.iconst 3, 1) := by decide +kernel
theorem dd_T_init_57 : decode bb_T_init 57 = .ok (.invokespecial 11, 3) := by decide +kernel
theorem dd_T_init_60 : decode bb_T_init 60 = .ok (.putfield 33, 3) := by decide +kernel
theorem dd_T_init_63 : decode bb_T_init 63 = .ok (.aload_n 0, 1) := by decide +kernel
theorem dd_T_init_64 : decode bb_T_init 64 = .ok (.new 36, 3) := by decide +kernel
theorem dd_T_init_67 : decode bb_T_init 67 = .ok (.dup, 1) := by decide +kernel
theorem dd_T_init_68 : decode bb_T_init 68 = .ok (.invokespecial 38, 3) := by decide +kernel
theorem dd_T_init_71 : decode bb_T_init 71 = .ok (.putfield 39, 3) := by decide +kernel
theorem dd_T_init_74 : decode bb_T_init 74 = .ok (.return_, 1) := by decide +kernel
theorem dd_C_init_0 : decode bb_C_init 0 = .ok (.aload_n 0, 1) := by decide +kernel
theorem dd_C_init_1 : decode bb_C_init 1 = .ok (.invokespecial 5, 3) := by decide +kernel
theorem dd_C_init_4 : decode bb_C_init 4 = .ok (.aload_n 0, 1) := by decide +kernel
theorem dd_C_init_5 : decode bb_C_init 5 = .ok (.new 11, 3) := by decide +kernel
theorem dd_C_init_8 : decode bb_C_init 8 = .ok (.dup, 1) := by decide +kernel
theorem dd_C_init_9 : decode bb_C_init 9 = .ok (.bipush 30, 2) := by decide +kernel
theorem dd_C_init_11 : decode bb_C_init 11 = .ok (.invokespecial 13, 3) := by decide +kernel
theorem dd_C_init_14 : decode bb_C_init 14 = .ok (.putfield 16, 3) := by decide +kernel
theorem dd_C_init_17 : decode bb_C_init 17 = .ok (.aload_n 0, 1) := by decide +kernel
theorem dd_C_init_18 : decode bb_C_init 18 = .ok (.new 11, 3) := by decide +kernel
theorem dd_C_init_21 : decode bb_C_init 21 = .ok (.dup, 1) := by decide +kernel
theorem dd_C_init_22 : decode bb_C_init 22 = .ok (.sipush 2520, 3) := by decide +kernel
theorem dd_C_init_25 : decode bb_C_init 25 = .ok (.invokespecial 13, 3) := by decide +kernel
theorem dd_C_init_28 : decode bb_C_init 28 = .ok (.putfield 20, 3) := by decide +kernel
theorem dd_C_init_31 : decode bb_C_init 31 = .ok (.aload_n 0, 1) := by decide +kernel
theorem dd_C_init_32 : decode bb_C_init 32 = .ok (.new 23, 3) := by decide +kernel
theorem dd_C_init_35 : decode bb_C_init 35 = .ok (.dup, 1) := by decide +kernel
theorem dd_C_init_36 : decode bb_C_init 36 = .ok (.invokespecial 25, 3) := by decide +kernel
theorem dd_C_init_39 : decode bb_C_init 39 = .ok (.putfield 26, 3) := by decide +kernel
theorem dd_C_init_42 : decode bb_C_init 42 = .ok (.return_, 1) := by decide +kernel
theorem dd_I_init_0 : decode bb_I_init 0 = .ok (.aload_n 0, 1) := by decide +kernel
theorem dd_I_init_1 : decode bb_I_init 1 = .ok (.invokespecial 3, 3) := by decide +kernel
theorem dd_I_init_4 : decode bb_I_init 4 = .ok (.return_, 1) := by decide +kernel
theorem dd_F_type_0 : decode bb_F_type 0 = .ok (.iload_n 3, 1) := by decide +kernel
theorem dd_F_type_1 : decode bb_F_type 1 = .ok (.iconst 1, 1) := by decide +kernel
theorem dd_F_type_2 : decode bb_F_type 2 = .ok (.if_icmp .lt 20, 3) := by decide +kernel
theorem dd_F_type_5 : decode bb_F_type 5 = .ok (.iload_n 3, 1) := by decide +kernel
theorem dd_F_type_6 : decode bb_F_type 6 = .ok (.bipush 8, 2) := by decide +kernel
theorem dd_F_type_8 : decode bb_F_type 8 = .ok (.if_icmp .gt 14, 3) := by decide +kernel
theorem dd_F_type_11 : decode bb_F_type 11 = .ok (.iload_n 3, 1) := by decide +kernel
theorem dd_F_type_12 : decode bb_F_type 12 = .ok (.aload_n 0, 1) := by decide +kernel
theorem dd_F_type_13 : decode bb_F_type 13 = .ok (.getfield 16, 3) := by decide +kernel
theorem dd_F_type_16 : decode bb_F_type 16 = .ok (.invokevirtual 37, 3) := by decide +kernel
theorem dd_F_type_19 : decode bb_F_type 19 = .ok (.if_icmp .le 5, 3) := by decide +kernel
theorem dd_F_type_22 : decode bb_F_type 22 = .ok (.iconst 0, 1) := by decide +kernel
theorem dd_F_type_23 : decode bb_F_type 23 = .ok (.ireturn, 1) := by decide +kernel
theorem dd_F_type_24 : decode bb_F_type 24 = .ok (.iconst 0, 1) := by decide +kernel
theorem dd_F_type_25 : decode bb_F_type 25 = .ok (.istore 4, 2) := by decide +kernel
theorem dd_F_type_27 : decode bb_F_type 27 = .ok (.iload 4, 2) := by decide +kernel
theorem dd_F_type_29 : decode bb_F_type 29 = .ok (.iload_n 3, 1) := by decide +kernel
theorem dd_F_type_30 : decode bb_F_type 30 = .ok (.if_icmp .ge 33, 3) := by decide +kernel
theorem dd_F_type_33 : decode bb_F_type 33 = .ok (.lload_n 1, 1) := by decide +kernel
theorem dd_F_type_34 : decode bb_F_type 34 = .ok (.iload 4, 2) := by decide +kernel
theorem dd_F_type_36 : decode bb_F_type 36 = .ok (.invokestatic 41, 3) := by decide +kernel
theorem dd_F_type_39 : decode bb_F_type 39 = .ok (.istore 5, 2) := by decide +kernel
theorem dd_F_type_41 : decode bb_F_type 41 = .ok (.iload 5, 2) := by decide +kernel
theorem dd_F_type_43 : decode bb_F_type 43 = .ok (.bipush 33, 2) := by decide +kernel
theorem dd_F_type_45 : decode bb_F_type 45 = .ok (.if_icmp .lt 10, 3) := by decide +kernel
theorem dd_F_type_48 : decode bb_F_type 48 = .ok (.iload 5, 2) := by decide +kernel
theorem dd_F_type_50 : decode bb_F_type 50 = .ok (.bipush 126, 2) := by decide +kernel
theorem dd_F_type_52 : decode bb_F_type 52 = .ok (.if_icmp .le 5, 3) := by decide +kernel
theorem dd_F_type_55 : decode bb_F_type 55 = .ok (.iconst 0, 1) := by decide +kernel
theorem dd_F_type_56 : decode bb_F_type 56 = .ok (.ireturn, 1) := by decide +kernel
theorem dd_F_type_57 : decode bb_F_type 57 = .ok (.iinc 4 1, 3) := by decide +kernel
theorem dd_F_type_60 : decode bb_F_type 60 = .ok (.goto (-33), 3) := by decide +kernel
theorem dd_F_type_63 : decode bb_F_type 63 = .ok (.iload_n 3, 1) := by decide +kernel
theorem dd_F_type_64 : decode bb_F_type 64 = .ok (.iconst 1, 1) := by decide +kernel
theorem dd_F_type_65 : decode bb_F_type 65 = .ok (.isub, 1) := by decide +kernel
theorem dd_F_type_66 : decode bb_F_type 66 = .ok (.istore 4, 2) := by decide +kernel
theorem dd_F_type_68 : decode bb_F_type 68 = .ok (.iload 4, 2) := by decide +kernel
theorem dd_F_type_70 : decode bb_F_type 70 = .ok (.ifCond .lt 22, 3) := by decide +kernel
theorem dd_F_type_73 : decode bb_F_type 73 = .ok (.aload_n 0, 1) := by decide +kernel
theorem dd_F_type_74 : decode bb_F_type 74 = .ok (.getfield 16, 3) := by decide +kernel
theorem dd_F_type_77 : decode bb_F_type 77 = .ok (.lload_n 1, 1) := by decide +kernel
theorem dd_F_type_78 : decode bb_F_type 78 = .ok (.iload 4, 2) := by decide +kernel
theorem dd_F_type_80 : decode bb_F_type 80 = .ok (.invokestatic 41, 3) := by decide +kernel
theorem dd_F_type_83 : decode bb_F_type 83 = .ok (.invokevirtual 45, 3) := by decide +kernel
theorem dd_F_type_86 : decode bb_F_type 86 = .ok (.iinc 4 (-1), 3) := by decide +kernel
theorem dd_F_type_89 : decode bb_F_type 89 = .ok (.goto (-21), 3) := by decide +kernel
theorem dd_F_type_92 : decode bb_F_type 92 = .ok (.iconst 1, 1) := by decide +kernel
theorem dd_F_type_93 : decode bb_F_type 93 = .ok (.ireturn, 1) := by decide +kernel
theorem dd_P_room_0 : decode bb_P_room 0 = .ok (.sipush 240, 3) := by decide +kernel
theorem dd_P_room_3 : decode bb_P_room 3 = .ok (.aload_n 0, 1) := by decide +kernel
theorem dd_P_room_4 : decode bb_P_room 4 = .ok (.getfield 15, 3) := by decide +kernel
theorem dd_P_room_7 : decode bb_P_room 7 = .ok (.isub, 1) := by decide +kernel
theorem dd_P_room_8 : decode bb_P_room 8 = .ok (.ireturn, 1) := by decide +kernel
theorem dd_F_byteOf_0 : decode bb_F_byteOf 0 = .ok (.lload_n 0, 1) := by decide +kernel
theorem dd_F_byteOf_1 : decode bb_F_byteOf 1 = .ok (.bipush 8, 2) := by decide +kernel
theorem dd_F_byteOf_3 : decode bb_F_byteOf 3 = .ok (.iload_n 2, 1) := by decide +kernel
theorem dd_F_byteOf_4 : decode bb_F_byteOf 4 = .ok (.imul, 1) := by decide +kernel
theorem dd_F_byteOf_5 : decode bb_F_byteOf 5 = .ok (.lushr, 1) := by decide +kernel
theorem dd_F_byteOf_6 : decode bb_F_byteOf 6 = .ok (.l2i, 1) := by decide +kernel
theorem dd_F_byteOf_7 : decode bb_F_byteOf 7 = .ok (.sipush 255, 3) := by decide +kernel
theorem dd_F_byteOf_10 : decode bb_F_byteOf 10 = .ok (.iand, 1) := by decide +kernel
theorem dd_F_byteOf_11 : decode bb_F_byteOf 11 = .ok (.ireturn, 1) := by decide +kernel
theorem dd_P_add_0 : decode bb_P_add 0 = .ok (.aload_n 0, 1) := by decide +kernel
theorem dd_P_add_1 : decode bb_P_add 1 = .ok (.getfield 15, 3) := by decide +kernel
theorem dd_P_add_4 : decode bb_P_add 4 = .ok (.sipush 240, 3) := by decide +kernel
theorem dd_P_add_7 : decode bb_P_add 7 = .ok (.if_icmp .ge 24, 3) := by decide +kernel
theorem dd_P_add_10 : decode bb_P_add 10 = .ok (.aload_n 0, 1) := by decide +kernel
theorem dd_P_add_11 : decode bb_P_add 11 = .ok (.getfield 9, 3) := by decide +kernel
theorem dd_P_add_14 : decode bb_P_add 14 = .ok (.aload_n 0, 1) := by decide +kernel
theorem dd_P_add_15 : decode bb_P_add 15 = .ok (.getfield 15, 3) := by decide +kernel
theorem dd_P_add_18 : decode bb_P_add 18 = .ok (.iload_n 1, 1) := by decide +kernel
theorem dd_P_add_19 : decode bb_P_add 19 = .ok (.i2b, 1) := by decide +kernel
theorem dd_P_add_20 : decode bb_P_add 20 = .ok (.bastore, 1) := by decide +kernel
theorem dd_P_add_21 : decode bb_P_add 21 = .ok (.aload_n 0, 1) := by decide +kernel
theorem dd_P_add_22 : decode bb_P_add 22 = .ok (.dup, 1) := by decide +kernel
theorem dd_P_add_23 : decode bb_P_add 23 = .ok (.getfield 15, 3) := by decide +kernel
theorem dd_P_add_26 : decode bb_P_add 26 = .ok (.iconst 1, 1) := by decide +kernel
theorem dd_P_add_27 : decode bb_P_add 27 = .ok (.iadd, 1) := by decide +kernel
theorem dd_P_add_28 : decode bb_P_add 28 = .ok (.putfield 15, 3) := by decide +kernel
theorem dd_P_add_31 : decode bb_P_add 31 = .ok (.return_, 1) := by decide +kernel
theorem dd_F_fault_0 : decode bb_F_fault 0 = .ok (.aload_n 0, 1) := by decide +kernel
theorem dd_F_fault_1 : decode bb_F_fault 1 = .ok (.getfield 9, 3) := by decide +kernel
theorem dd_F_fault_4 : decode bb_F_fault 4 = .ok (.ireturn, 1) := by decide +kernel
theorem dd_F_begin_0 : decode bb_F_begin 0 = .ok (.iload_n 1, 1) := by decide +kernel
theorem dd_F_begin_1 : decode bb_F_begin 1 = .ok (.ifCond .lt 37, 3) := by decide +kernel
theorem dd_F_begin_4 : decode bb_F_begin 4 = .ok (.iload_n 1, 1) := by decide +kernel
theorem dd_F_begin_5 : decode bb_F_begin 5 = .ok (.aload_n 0, 1) := by decide +kernel
theorem dd_F_begin_6 : decode bb_F_begin 6 = .ok (.getfield 23, 3) := by decide +kernel
theorem dd_F_begin_9 : decode bb_F_begin 9 = .ok (.getfield 70, 3) := by decide +kernel
theorem dd_F_begin_12 : decode bb_F_begin 12 = .ok (.if_icmp .ge 26, 3) := by decide +kernel
theorem dd_F_begin_15 : decode bb_F_begin 15 = .ok (.iload_n 2, 1) := by decide +kernel
theorem dd_F_begin_16 : decode bb_F_begin 16 = .ok (.iload_n 3, 1) := by decide +kernel
theorem dd_F_begin_17 : decode bb_F_begin 17 = .ok (.if_icmp .gt 21, 3) := by decide +kernel
theorem dd_F_begin_20 : decode bb_F_begin 20 = .ok (.iload_n 2, 1) := by decide +kernel
theorem dd_F_begin_21 : decode bb_F_begin 21 = .ok (.i2l, 1) := by decide +kernel
theorem dd_F_begin_22 : decode bb_F_begin 22 = .ok (.ldc2_w 73, 3) := by decide +kernel
theorem dd_F_begin_25 : decode bb_F_begin 25 = .ok (.lcmp, 1) := by decide +kernel
theorem dd_F_begin_26 : decode bb_F_begin 26 = .ok (.ifCond .lt 12, 3) := by decide +kernel
theorem dd_F_begin_29 : decode bb_F_begin 29 = .ok (.iload_n 3, 1) := by decide +kernel
theorem dd_F_begin_30 : decode bb_F_begin 30 = .ok (.i2l, 1) := by decide +kernel
theorem dd_F_begin_31 : decode bb_F_begin 31 = .ok (.ldc2_w 75, 3) := by decide +kernel
theorem dd_F_begin_34 : decode bb_F_begin 34 = .ok (.lcmp, 1) := by decide +kernel
theorem dd_F_begin_35 : decode bb_F_begin 35 = .ok (.ifCond .le 5, 3) := by decide +kernel
theorem dd_F_begin_38 : decode bb_F_begin 38 = .ok (.iconst 0, 1) := by decide +kernel
theorem dd_F_begin_39 : decode bb_F_begin 39 = .ok (.ireturn, 1) := by decide +kernel
theorem dd_F_begin_40 : decode bb_F_begin 40 = .ok (.aload_n 0, 1) := by decide +kernel
theorem dd_F_begin_41 : decode bb_F_begin 41 = .ok (.getfield 33, 3) := by decide +kernel
theorem dd_F_begin_44 : decode bb_F_begin 44 = .ok (.getfield 77, 3) := by decide +kernel
theorem dd_F_begin_47 : decode bb_F_begin 47 = .ok (.getfield 81, 3) := by decide +kernel
theorem dd_F_begin_50 : decode bb_F_begin 50 = .ok (.iload_n 1, 1) := by decide +kernel
theorem dd_F_begin_51 : decode bb_F_begin 51 = .ok (.iload_n 2, 1) := by decide +kernel
theorem dd_F_begin_52 : decode bb_F_begin 52 = .ok (.i2l, 1) := by decide +kernel
theorem dd_F_begin_53 : decode bb_F_begin 53 = .ok (.lastore, 1) := by decide +kernel
theorem dd_F_begin_54 : decode bb_F_begin 54 = .ok (.aload_n 0, 1) := by decide +kernel
theorem dd_F_begin_55 : decode bb_F_begin 55 = .ok (.getfield 33, 3) := by decide +kernel
theorem dd_F_begin_58 : decode bb_F_begin 58 = .ok (.getfield 77, 3) := by decide +kernel
theorem dd_F_begin_61 : decode bb_F_begin 61 = .ok (.getfield 87, 3) := by decide +kernel
theorem dd_F_begin_64 : decode bb_F_begin 64 = .ok (.iload_n 1, 1) := by decide +kernel
theorem dd_F_begin_65 : decode bb_F_begin 65 = .ok (.iload_n 3, 1) := by decide +kernel
theorem dd_F_begin_66 : decode bb_F_begin 66 = .ok (.i2l, 1) := by decide +kernel
theorem dd_F_begin_67 : decode bb_F_begin 67 = .ok (.lastore, 1) := by decide +kernel
theorem dd_F_begin_68 : decode bb_F_begin 68 = .ok (.aload_n 0, 1) := by decide +kernel
theorem dd_F_begin_69 : decode bb_F_begin 69 = .ok (.getfield 33, 3) := by decide +kernel
theorem dd_F_begin_72 : decode bb_F_begin 72 = .ok (.aload_n 0, 1) := by decide +kernel
theorem dd_F_begin_73 : decode bb_F_begin 73 = .ok (.getfield 23, 3) := by decide +kernel
theorem dd_F_begin_76 : decode bb_F_begin 76 = .ok (.invokevirtual 66, 3) := by decide +kernel
theorem dd_F_begin_79 : decode bb_F_begin 79 = .ok (.iconst 1, 1) := by decide +kernel
theorem dd_F_begin_80 : decode bb_F_begin 80 = .ok (.ireturn, 1) := by decide +kernel
theorem dd_U_restart_0 : decode bb_U_restart 0 = .ok (.aload_n 0, 1) := by decide +kernel
theorem dd_U_restart_1 : decode bb_U_restart 1 = .ok (.iconst 0, 1) := by decide +kernel
theorem dd_U_restart_2 : decode bb_U_restart 2 = .ok (.putfield 22, 3) := by decide +kernel
theorem dd_U_restart_5 : decode bb_U_restart 5 = .ok (.aload_n 0, 1) := by decide +kernel
theorem dd_U_restart_6 : decode bb_U_restart 6 = .ok (.aload_n 0, 1) := by decide +kernel
theorem dd_U_restart_7 : decode bb_U_restart 7 = .ok (.getfield 19, 3) := by decide +kernel
theorem dd_U_restart_10 : decode bb_U_restart 10 = .ok (.putfield 25, 3) := by decide +kernel
theorem dd_U_restart_13 : decode bb_U_restart 13 = .ok (.aload_n 0, 1) := by decide +kernel
theorem dd_U_restart_14 : decode bb_U_restart 14 = .ok (.iconst 0, 1) := by decide +kernel
theorem dd_U_restart_15 : decode bb_U_restart 15 = .ok (.putfield 28, 3) := by decide +kernel
theorem dd_U_restart_18 : decode bb_U_restart 18 = .ok (.aload_n 0, 1) := by decide +kernel
theorem dd_U_restart_19 : decode bb_U_restart 19 = .ok (.iconst 0, 1) := by decide +kernel
theorem dd_U_restart_20 : decode bb_U_restart 20 = .ok (.putfield 31, 3) := by decide +kernel
theorem dd_U_restart_23 : decode bb_U_restart 23 = .ok (.aload_n 0, 1) := by decide +kernel
theorem dd_U_restart_24 : decode bb_U_restart 24 = .ok (.iconst 0, 1) := by decide +kernel
theorem dd_U_restart_25 : decode bb_U_restart 25 = .ok (.putfield 60, 3) := by decide +kernel
theorem dd_U_restart_28 : decode bb_U_restart 28 = .ok (.aload_n 0, 1) := by decide +kernel
theorem dd_U_restart_29 : decode bb_U_restart 29 = .ok (.getfield 43, 3) := by decide +kernel
theorem dd_U_restart_32 : decode bb_U_restart 32 = .ok (.aload_n 0, 1) := by decide +kernel
theorem dd_U_restart_33 : decode bb_U_restart 33 = .ok (.getfield 39, 3) := by decide +kernel
theorem dd_U_restart_36 : decode bb_U_restart 36 = .ok (.invokevirtual 73, 3) := by decide +kernel
theorem dd_U_restart_39 : decode bb_U_restart 39 = .ok (.aload_n 0, 1) := by decide +kernel
theorem dd_U_restart_40 : decode bb_U_restart 40 = .ok (.getfield 49, 3) := by decide +kernel
theorem dd_U_restart_43 : decode bb_U_restart 43 = .ok (.invokevirtual 77, 3) := by decide +kernel
theorem dd_U_restart_46 : decode bb_U_restart 46 = .ok (.aload_n 1, 1) := by decide +kernel
theorem dd_U_restart_47 : decode bb_U_restart 47 = .ok (.getfield 78, 3) := by decide +kernel
theorem dd_U_restart_50 : decode bb_U_restart 50 = .ok (.ifCond .le 27, 3) := by decide +kernel
theorem dd_U_restart_53 : decode bb_U_restart 53 = .ok (.aload_n 0, 1) := by decide +kernel
theorem dd_U_restart_54 : decode bb_U_restart 54 = .ok (.getfield 49, 3) := by decide +kernel
theorem dd_U_restart_57 : decode bb_U_restart 57 = .ok (.aload_n 0, 1) := by decide +kernel
theorem dd_U_restart_58 : decode bb_U_restart 58 = .ok (.getfield 43, 3) := by decide +kernel
theorem dd_U_restart_61 : decode bb_U_restart 61 = .ok (.aload_n 0, 1) := by decide +kernel
theorem dd_U_restart_62 : decode bb_U_restart 62 = .ok (.getfield 43, 3) := by decide +kernel
theorem dd_U_restart_65 : decode bb_U_restart 65 = .ok (.aload_n 0, 1) := by decide +kernel
theorem dd_U_restart_66 : decode bb_U_restart 66 = .ok (.getfield 22, 3) := by decide +kernel
theorem dd_U_restart_69 : decode bb_U_restart 69 = .ok (.aload_n 0, 1) := by decide +kernel
theorem dd_U_restart_70 : decode bb_U_restart 70 = .ok (.aload_n 1, 1) := by decide +kernel
theorem dd_U_restart_71 : decode bb_U_restart 71 = .ok (.invokevirtual 83, 3) := by decide +kernel
theorem dd_U_restart_74 : decode bb_U_restart 74 = .ok (.invokevirtual 87, 3) := by decide +kernel
theorem dd_U_restart_77 : decode bb_U_restart 77 = .ok (.return_, 1) := by decide +kernel
theorem dd_R_copyFrom_0 : decode bb_R_copyFrom 0 = .ok (.aload_n 0, 1) := by decide +kernel
theorem dd_R_copyFrom_1 : decode bb_R_copyFrom 1 = .ok (.getfield 7, 3) := by decide +kernel
theorem dd_R_copyFrom_4 : decode bb_R_copyFrom 4 = .ok (.arraylength, 1) := by decide +kernel
theorem dd_R_copyFrom_5 : decode bb_R_copyFrom 5 = .ok (.aload_n 1, 1) := by decide +kernel
theorem dd_R_copyFrom_6 : decode bb_R_copyFrom 6 = .ok (.getfield 7, 3) := by decide +kernel
theorem dd_R_copyFrom_9 : decode bb_R_copyFrom 9 = .ok (.arraylength, 1) := by decide +kernel
theorem dd_R_copyFrom_10 : decode bb_R_copyFrom 10 = .ok (.invokestatic 23, 3) := by decide +kernel
theorem dd_R_copyFrom_13 : decode bb_R_copyFrom 13 = .ok (.istore_n 2, 1) := by decide +kernel
theorem dd_R_copyFrom_14 : decode bb_R_copyFrom 14 = .ok (.aload_n 1, 1) := by decide +kernel
theorem dd_R_copyFrom_15 : decode bb_R_copyFrom 15 = .ok (.getfield 7, 3) := by decide +kernel
theorem dd_R_copyFrom_18 : decode bb_R_copyFrom 18 = .ok (.iconst 0, 1) := by decide +kernel
theorem dd_R_copyFrom_19 : decode bb_R_copyFrom 19 = .ok (.aload_n 0, 1) := by decide +kernel
theorem dd_R_copyFrom_20 : decode bb_R_copyFrom 20 = .ok (.getfield 7, 3) := by decide +kernel
theorem dd_R_copyFrom_23 : decode bb_R_copyFrom 23 = .ok (.iconst 0, 1) := by decide +kernel
theorem dd_R_copyFrom_24 : decode bb_R_copyFrom 24 = .ok (.iload_n 2, 1) := by decide +kernel
theorem dd_R_copyFrom_25 : decode bb_R_copyFrom 25 = .ok (.invokestatic 29, 3) := by decide +kernel
theorem dd_R_copyFrom_28 : decode bb_R_copyFrom 28 = .ok (.aload_n 1, 1) := by decide +kernel
theorem dd_R_copyFrom_29 : decode bb_R_copyFrom 29 = .ok (.getfield 13, 3) := by decide +kernel
theorem dd_R_copyFrom_32 : decode bb_R_copyFrom 32 = .ok (.iconst 0, 1) := by decide +kernel
theorem dd_R_copyFrom_33 : decode bb_R_copyFrom 33 = .ok (.aload_n 0, 1) := by decide +kernel
theorem dd_R_copyFrom_34 : decode bb_R_copyFrom 34 = .ok (.getfield 13, 3) := by decide +kernel
theorem dd_R_copyFrom_37 : decode bb_R_copyFrom 37 = .ok (.iconst 0, 1) := by decide +kernel
theorem dd_R_copyFrom_38 : decode bb_R_copyFrom 38 = .ok (.iload_n 2, 1) := by decide +kernel
theorem dd_R_copyFrom_39 : decode bb_R_copyFrom 39 = .ok (.invokestatic 29, 3) := by decide +kernel
theorem dd_R_copyFrom_42 : decode bb_R_copyFrom 42 = .ok (.return_, 1) := by decide +kernel
theorem dd_U_signOver_0 : decode bb_U_signOver 0 = .ok (.aload_n 1, 1) := by decide +kernel
theorem dd_U_signOver_1 : decode bb_U_signOver 1 = .ok (.getfield 116, 3) := by decide +kernel
theorem dd_U_signOver_4 : decode bb_U_signOver 4 = .ok (.ifCond .ne 5, 3) := by decide +kernel
theorem dd_U_signOver_7 : decode bb_U_signOver 7 = .ok (.iconst 0, 1) := by decide +kernel
theorem dd_U_signOver_8 : decode bb_U_signOver 8 = .ok (.ireturn, 1) := by decide +kernel
theorem dd_U_signOver_9 : decode bb_U_signOver 9 = .ok (.aload_n 0, 1) := by decide +kernel
theorem dd_U_signOver_10 : decode bb_U_signOver 10 = .ok (.getfield 66, 3) := by decide +kernel
theorem dd_U_signOver_13 : decode bb_U_signOver 13 = .ok (.invokevirtual 120, 3) := by decide +kernel
theorem dd_U_signOver_16 : decode bb_U_signOver 16 = .ok (.aload_n 1, 1) := by decide +kernel
theorem dd_U_signOver_17 : decode bb_U_signOver 17 = .ok (.getfield 123, 3) := by decide +kernel
theorem dd_U_signOver_20 : decode bb_U_signOver 20 = .ok (.aload_n 0, 1) := by decide +kernel
theorem dd_U_signOver_21 : decode bb_U_signOver 21 = .ok (.getfield 43, 3) := by decide +kernel
theorem dd_U_signOver_24 : decode bb_U_signOver 24 = .ok (.aload_n 0, 1) := by decide +kernel
theorem dd_U_signOver_25 : decode bb_U_signOver 25 = .ok (.getfield 66, 3) := by decide +kernel
theorem dd_U_signOver_28 : decode bb_U_signOver 28 = .ok (.invokevirtual 127, 3) := by decide +kernel
theorem dd_U_signOver_31 : decode bb_U_signOver 31 = .ok (.aload_n 0, 1) := by decide +kernel
theorem dd_U_signOver_32 : decode bb_U_signOver 32 = .ok (.getfield 66, 3) := by decide +kernel
theorem dd_U_signOver_35 : decode bb_U_signOver 35 = .ok (.getfield 133, 3) := by decide +kernel
theorem dd_U_signOver_38 : decode bb_U_signOver 38 = .ok (.ifCond .eq 5, 3) := by decide +kernel
theorem dd_U_signOver_41 : decode bb_U_signOver 41 = .ok (.iconst 0, 1) := by decide +kernel
theorem dd_U_signOver_42 : decode bb_U_signOver 42 = .ok (.ireturn, 1) := by decide +kernel
theorem dd_U_signOver_43 : decode bb_U_signOver 43 = .ok (.aload_n 0, 1) := by decide +kernel
theorem dd_U_signOver_44 : decode bb_U_signOver 44 = .ok (.getfield 66, 3) := by decide +kernel
theorem dd_U_signOver_47 : decode bb_U_signOver 47 = .ok (.getfield 136, 3) := by decide +kernel
theorem dd_U_signOver_50 : decode bb_U_signOver 50 = .ok (.lconst 0, 1) := by decide +kernel
theorem dd_U_signOver_51 : decode bb_U_signOver 51 = .ok (.lcmp, 1) := by decide +kernel
theorem dd_U_signOver_52 : decode bb_U_signOver 52 = .ok (.ifCond .le 5, 3) := by decide +kernel
theorem dd_U_signOver_55 : decode bb_U_signOver 55 = .ok (.iconst 1, 1) := by decide +kernel
theorem dd_U_signOver_56 : decode bb_U_signOver 56 = .ok (.ireturn, 1) := by decide +kernel
theorem dd_U_signOver_57 : decode bb_U_signOver 57 = .ok (.aload_n 0, 1) := by decide +kernel
theorem dd_U_signOver_58 : decode bb_U_signOver 58 = .ok (.getfield 66, 3) := by decide +kernel
theorem dd_U_signOver_61 : decode bb_U_signOver 61 = .ok (.getfield 140, 3) := by decide +kernel
theorem dd_U_signOver_64 : decode bb_U_signOver 64 = .ok (.lconst 0, 1) := by decide +kernel
theorem dd_U_signOver_65 : decode bb_U_signOver 65 = .ok (.lcmp, 1) := by decide +kernel
theorem dd_U_signOver_66 : decode bb_U_signOver 66 = .ok (.ifCond .ge 7, 3) := by decide +kernel
theorem dd_U_signOver_69 : decode bb_U_signOver 69 = .ok (.iconst (-1), 1) := by decide +kernel
theorem dd_U_signOver_70 : decode bb_U_signOver 70 = .ok (.goto 4, 3) := by decide +kernel
theorem dd_U_signOver_73 : decode bb_U_signOver 73 = .ok (.iconst 0, 1) := by decide +kernel
theorem dd_U_signOver_74 : decode bb_U_signOver 74 = .ok (.ireturn, 1) := by decide +kernel
theorem dd_I_forgetBeyond_0 : decode bb_I_forgetBeyond 0 = .ok (.aload_n 0, 1) := by decide +kernel
theorem dd_I_forgetBeyond_1 : decode bb_I_forgetBeyond 1 = .ok (.iconst 0, 1) := by decide +kernel
theorem dd_I_forgetBeyond_2 : decode bb_I_forgetBeyond 2 = .ok (.putfield 9, 3) := by decide +kernel
theorem dd_I_forgetBeyond_5 : decode bb_I_forgetBeyond 5 = .ok (.return_, 1) := by decide +kernel
theorem dd_Y_value_0 : decode bb_Y_value 0 = .ok (.lconst 0, 1) := by decide +kernel
theorem dd_Y_value_1 : decode bb_Y_value 1 = .ok (.lstore_n 3, 1) := by decide +kernel
theorem dd_Y_value_2 : decode bb_Y_value 2 = .ok (.lconst 0, 1) := by decide +kernel
theorem dd_Y_value_3 : decode bb_Y_value 3 = .ok (.lstore 5, 2) := by decide +kernel
theorem dd_Y_value_5 : decode bb_Y_value 5 = .ok (.iconst 0, 1) := by decide +kernel
theorem dd_Y_value_6 : decode bb_Y_value 6 = .ok (.istore 7, 2) := by decide +kernel
theorem dd_Y_value_8 : decode bb_Y_value 8 = .ok (.iload 7, 2) := by decide +kernel
theorem dd_Y_value_10 : decode bb_Y_value 10 = .ok (.aload_n 0, 1) := by decide +kernel
theorem dd_Y_value_11 : decode bb_Y_value 11 = .ok (.getfield 24, 3) := by decide +kernel
theorem dd_Y_value_14 : decode bb_Y_value 14 = .ok (.if_icmp .ge 91, 3) := by decide +kernel
theorem dd_Y_value_17 : decode bb_Y_value 17 = .ok (.aload_n 2, 1) := by decide +kernel
theorem dd_Y_value_18 : decode bb_Y_value 18 = .ok (.aload_n 0, 1) := by decide +kernel
theorem dd_Y_value_19 : decode bb_Y_value 19 = .ok (.getfield 14, 3) := by decide +kernel
theorem dd_Y_value_22 : decode bb_Y_value 22 = .ok (.iload 7, 2) := by decide +kernel
theorem dd_Y_value_24 : decode bb_Y_value 24 = .ok (.invokevirtual 43, 3) := by decide +kernel
theorem dd_Y_value_27 : decode bb_Y_value 27 = .ok (.iconst 0, 1) := by decide +kernel
theorem dd_Y_value_28 : decode bb_Y_value 28 = .ok (.istore 8, 2) := by decide +kernel
theorem dd_Y_value_30 : decode bb_Y_value 30 = .ok (.iload 8, 2) := by decide +kernel
theorem dd_Y_value_32 : decode bb_Y_value 32 = .ok (.iconst 3, 1) := by decide +kernel
theorem dd_Y_value_33 : decode bb_Y_value 33 = .ok (.if_icmp .ge 48, 3) := by decide +kernel
theorem dd_Y_value_36 : decode bb_Y_value 36 = .ok (.aload_n 0, 1) := by decide +kernel
theorem dd_Y_value_37 : decode bb_Y_value 37 = .ok (.iload 7, 2) := by decide +kernel
theorem dd_Y_value_39 : decode bb_Y_value 39 = .ok (.iload 8, 2) := by decide +kernel
theorem dd_Y_value_41 : decode bb_Y_value 41 = .ok (.invokevirtual 49, 3) := by decide +kernel
theorem dd_Y_value_44 : decode bb_Y_value 44 = .ok (.istore 9, 2) := by decide +kernel
theorem dd_Y_value_46 : decode bb_Y_value 46 = .ok (.iload 9, 2) := by decide +kernel
theorem dd_Y_value_48 : decode bb_Y_value 48 = .ok (.ifCond .le 27, 3) := by decide +kernel
theorem dd_Y_value_51 : decode bb_Y_value 51 = .ok (.aload_n 2, 1) := by decide +kernel
theorem dd_Y_value_52 : decode bb_Y_value 52 = .ok (.aload_n 1, 1) := by decide +kernel
theorem dd_Y_value_53 : decode bb_Y_value 53 = .ok (.getfield 36, 3) := by decide +kernel
theorem dd_Y_value_56 : decode bb_Y_value 56 = .ok (.iload 8, 2) := by decide +kernel
theorem dd_Y_value_58 : decode bb_Y_value 58 = .ok (.laload, 1) := by decide +kernel
theorem dd_Y_value_59 : decode bb_Y_value 59 = .ok (.aload_n 1, 1) := by decide +kernel
theorem dd_Y_value_60 : decode bb_Y_value 60 = .ok (.getfield 40, 3) := by decide +kernel
theorem dd_Y_value_63 : decode bb_Y_value 63 = .ok (.iload 8, 2) := by decide +kernel
theorem dd_Y_value_65 : decode bb_Y_value 65 = .ok (.laload, 1) := by decide +kernel
theorem dd_Y_value_66 : decode bb_Y_value 66 = .ok (.invokevirtual 53, 3) := by decide +kernel
theorem dd_Y_value_69 : decode bb_Y_value 69 = .ok (.iinc 9 (-1), 3) := by decide +kernel
theorem dd_Y_value_72 : decode bb_Y_value 72 = .ok (.goto (-26), 3) := by decide +kernel
theorem dd_Y_value_75 : decode bb_Y_value 75 = .ok (.iinc 8 1, 3) := by decide +kernel
theorem dd_Y_value_78 : decode bb_Y_value 78 = .ok (.goto (-48), 3) := by decide +kernel
theorem dd_Y_value_81 : decode bb_Y_value 81 = .ok (.aload_n 2, 1) := by decide +kernel
theorem dd_Y_value_82 : decode bb_Y_value 82 = .ok (.lload_n 3, 1) := by decide +kernel
theorem dd_Y_value_83 : decode bb_Y_value 83 = .ok (.lload 5, 2) := by decide +kernel
theorem dd_Y_value_85 : decode bb_Y_value 85 = .ok (.invokevirtual 57, 3) := by decide +kernel
theorem dd_Y_value_88 : decode bb_Y_value 88 = .ok (.aload_n 2, 1) := by decide +kernel
theorem dd_Y_value_89 : decode bb_Y_value 89 = .ok (.getfield 60, 3) := by decide +kernel
theorem dd_Y_value_92 : decode bb_Y_value 92 = .ok (.lstore_n 3, 1) := by decide +kernel
theorem dd_Y_value_93 : decode bb_Y_value 93 = .ok (.aload_n 2, 1) := by decide +kernel
theorem dd_Y_value_94 : decode bb_Y_value 94 = .ok (.getfield 63, 3) := by decide +kernel
theorem dd_Y_value_97 : decode bb_Y_value 97 = .ok (.lstore 5, 2) := by decide +kernel
theorem dd_Y_value_99 : decode bb_Y_value 99 = .ok (.iinc 7 1, 3) := by decide +kernel
theorem dd_Y_value_102 : decode bb_Y_value 102 = .ok (.goto (-94), 3) := by decide +kernel
theorem dd_Y_value_105 : decode bb_Y_value 105 = .ok (.return_, 1) := by decide +kernel
theorem dd_I_take_0 : decode bb_I_take 0 = .ok (.aload_n 0, 1) := by decide +kernel
theorem dd_I_take_1 : decode bb_I_take 1 = .ok (.aload_n 1, 1) := by decide +kernel
theorem dd_I_take_2 : decode bb_I_take 2 = .ok (.getfield 25, 3) := by decide +kernel
theorem dd_I_take_5 : decode bb_I_take 5 = .ok (.iload_n 2, 1) := by decide +kernel
theorem dd_I_take_6 : decode bb_I_take 6 = .ok (.laload, 1) := by decide +kernel
theorem dd_I_take_7 : decode bb_I_take 7 = .ok (.putfield 15, 3) := by decide +kernel
theorem dd_I_take_10 : decode bb_I_take 10 = .ok (.aload_n 0, 1) := by decide +kernel
theorem dd_I_take_11 : decode bb_I_take 11 = .ok (.aload_n 1, 1) := by decide +kernel
theorem dd_I_take_12 : decode bb_I_take 12 = .ok (.getfield 30, 3) := by decide +kernel
theorem dd_I_take_15 : decode bb_I_take 15 = .ok (.iload_n 2, 1) := by decide +kernel
theorem dd_I_take_16 : decode bb_I_take 16 = .ok (.laload, 1) := by decide +kernel
theorem dd_I_take_17 : decode bb_I_take 17 = .ok (.putfield 19, 3) := by decide +kernel
theorem dd_I_take_20 : decode bb_I_take 20 = .ok (.return_, 1) := by decide +kernel
theorem dd_Y_power_0 : decode bb_Y_power 0 = .ok (.aload_n 0, 1) := by decide +kernel
theorem dd_Y_power_1 : decode bb_Y_power 1 = .ok (.getfield 20, 3) := by decide +kernel
theorem dd_Y_power_4 : decode bb_Y_power 4 = .ok (.iload_n 1, 1) := by decide +kernel
theorem dd_Y_power_5 : decode bb_Y_power 5 = .ok (.iconst 3, 1) := by decide +kernel
theorem dd_Y_power_6 : decode bb_Y_power 6 = .ok (.imul, 1) := by decide +kernel
theorem dd_Y_power_7 : decode bb_Y_power 7 = .ok (.iload_n 2, 1) := by decide +kernel
theorem dd_Y_power_8 : decode bb_Y_power 8 = .ok (.iadd, 1) := by decide +kernel
theorem dd_Y_power_9 : decode bb_Y_power 9 = .ok (.iaload, 1) := by decide +kernel
theorem dd_Y_power_10 : decode bb_Y_power 10 = .ok (.ireturn, 1) := by decide +kernel
theorem dd_I_times_0 : decode bb_I_times 0 = .ok (.aload_n 0, 1) := by decide +kernel
theorem dd_I_times_1 : decode bb_I_times 1 = .ok (.getfield 15, 3) := by decide +kernel
theorem dd_I_times_4 : decode bb_I_times 4 = .ok (.lload_n 1, 1) := by decide +kernel
theorem dd_I_times_5 : decode bb_I_times 5 = .ok (.lmul, 1) := by decide +kernel
theorem dd_I_times_6 : decode bb_I_times 6 = .ok (.lstore 5, 2) := by decide +kernel
theorem dd_I_times_8 : decode bb_I_times 8 = .ok (.aload_n 0, 1) := by decide +kernel
theorem dd_I_times_9 : decode bb_I_times 9 = .ok (.getfield 15, 3) := by decide +kernel
theorem dd_I_times_12 : decode bb_I_times 12 = .ok (.lload_n 3, 1) := by decide +kernel
theorem dd_I_times_13 : decode bb_I_times 13 = .ok (.lmul, 1) := by decide +kernel
theorem dd_I_times_14 : decode bb_I_times 14 = .ok (.lstore 7, 2) := by decide +kernel
theorem dd_I_times_16 : decode bb_I_times 16 = .ok (.aload_n 0, 1) := by decide +kernel
theorem dd_I_times_17 : decode bb_I_times 17 = .ok (.getfield 19, 3) := by decide +kernel
theorem dd_I_times_20 : decode bb_I_times 20 = .ok (.lload_n 1, 1) := by decide +kernel
theorem dd_I_times_21 : decode bb_I_times 21 = .ok (.lmul, 1) := by decide +kernel
theorem dd_I_times_22 : decode bb_I_times 22 = .ok (.lstore 9, 2) := by decide +kernel
theorem dd_I_times_24 : decode bb_I_times 24 = .ok (.aload_n 0, 1) := by decide +kernel
theorem dd_I_times_25 : decode bb_I_times 25 = .ok (.getfield 19, 3) := by decide +kernel
theorem dd_I_times_28 : decode bb_I_times 28 = .ok (.lload_n 3, 1) := by decide +kernel
theorem dd_I_times_29 : decode bb_I_times 29 = .ok (.lmul, 1) := by decide +kernel
theorem dd_I_times_30 : decode bb_I_times 30 = .ok (.lstore 11, 2) := by decide +kernel
theorem dd_I_times_32 : decode bb_I_times 32 = .ok (.lload 5, 2) := by decide +kernel
theorem dd_I_times_34 : decode bb_I_times 34 = .ok (.lload 7, 2) := by decide +kernel
theorem dd_I_times_36 : decode bb_I_times 36 = .ok (.invokestatic 32, 3) := by decide +kernel
theorem dd_I_times_39 : decode bb_I_times 39 = .ok (.lload 9, 2) := by decide +kernel
theorem dd_I_times_41 : decode bb_I_times 41 = .ok (.lload 11, 2) := by decide +kernel
theorem dd_I_times_43 : decode bb_I_times 43 = .ok (.invokestatic 32, 3) := by decide +kernel
theorem dd_I_times_46 : decode bb_I_times 46 = .ok (.invokestatic 32, 3) := by decide +kernel
theorem dd_I_times_49 : decode bb_I_times 49 = .ok (.lstore 13, 2) := by decide +kernel
theorem dd_I_times_51 : decode bb_I_times 51 = .ok (.lload 5, 2) := by decide +kernel
theorem dd_I_times_53 : decode bb_I_times 53 = .ok (.lload 7, 2) := by decide +kernel
theorem dd_I_times_55 : decode bb_I_times 55 = .ok (.invokestatic 38, 3) := by decide +kernel
theorem dd_I_times_58 : decode bb_I_times 58 = .ok (.lload 9, 2) := by decide +kernel
theorem dd_I_times_60 : decode bb_I_times 60 = .ok (.lload 11, 2) := by decide +kernel
theorem dd_I_times_62 : decode bb_I_times 62 = .ok (.invokestatic 38, 3) := by decide +kernel
theorem dd_I_times_65 : decode bb_I_times 65 = .ok (.invokestatic 38, 3) := by decide +kernel
theorem dd_I_times_68 : decode bb_I_times 68 = .ok (.lstore 15, 2) := by decide +kernel
theorem dd_I_times_70 : decode bb_I_times 70 = .ok (.aload_n 0, 1) := by decide +kernel
theorem dd_I_times_71 : decode bb_I_times 71 = .ok (.lload 13, 2) := by decide +kernel
theorem dd_I_times_73 : decode bb_I_times 73 = .ok (.bipush 20, 2) := by decide +kernel
theorem dd_I_times_75 : decode bb_I_times 75 = .ok (.lshr, 1) := by decide +kernel
theorem dd_I_times_76 : decode bb_I_times 76 = .ok (.putfield 15, 3) := by decide +kernel
theorem dd_I_times_79 : decode bb_I_times 79 = .ok (.aload_n 0, 1) := by decide +kernel
theorem dd_I_times_80 : decode bb_I_times 80 = .ok (.lload 15, 2) := by decide +kernel
theorem dd_I_times_82 : decode bb_I_times 82 = .ok (.lneg, 1) := by decide +kernel
theorem dd_I_times_83 : decode bb_I_times 83 = .ok (.bipush 20, 2) := by decide +kernel
theorem dd_I_times_85 : decode bb_I_times 85 = .ok (.lshr, 1) := by decide +kernel
theorem dd_I_times_86 : decode bb_I_times 86 = .ok (.lneg, 1) := by decide +kernel
theorem dd_I_times_87 : decode bb_I_times 87 = .ok (.putfield 19, 3) := by decide +kernel
theorem dd_I_times_90 : decode bb_I_times 90 = .ok (.aload_n 0, 1) := by decide +kernel
theorem dd_I_times_91 : decode bb_I_times 91 = .ok (.invokevirtual 22, 3) := by decide +kernel
theorem dd_I_times_94 : decode bb_I_times 94 = .ok (.return_, 1) := by decide +kernel
theorem dd_I_look_0 : decode bb_I_look 0 = .ok (.aload_n 0, 1) := by decide +kernel
theorem dd_I_look_1 : decode bb_I_look 1 = .ok (.getfield 15, 3) := by decide +kernel
theorem dd_I_look_4 : decode bb_I_look 4 = .ok (.ldc2_w 44, 3) := by decide +kernel
theorem dd_I_look_7 : decode bb_I_look 7 = .ok (.lcmp, 1) := by decide +kernel
theorem dd_I_look_8 : decode bb_I_look 8 = .ok (.ifCond .lt 14, 3) := by decide +kernel
theorem dd_I_look_11 : decode bb_I_look 11 = .ok (.aload_n 0, 1) := by decide +kernel
theorem dd_I_look_12 : decode bb_I_look 12 = .ok (.getfield 19, 3) := by decide +kernel
theorem dd_I_look_15 : decode bb_I_look 15 = .ok (.ldc2_w 46, 3) := by decide +kernel
theorem dd_I_look_18 : decode bb_I_look 18 = .ok (.lcmp, 1) := by decide +kernel
theorem dd_I_look_19 : decode bb_I_look 19 = .ok (.ifCond .le 18, 3) := by decide +kernel
theorem dd_I_look_22 : decode bb_I_look 22 = .ok (.aload_n 0, 1) := by decide +kernel
theorem dd_I_look_23 : decode bb_I_look 23 = .ok (.iconst 1, 1) := by decide +kernel
theorem dd_I_look_24 : decode bb_I_look 24 = .ok (.putfield 9, 3) := by decide +kernel
theorem dd_I_look_27 : decode bb_I_look 27 = .ok (.aload_n 0, 1) := by decide +kernel
theorem dd_I_look_28 : decode bb_I_look 28 = .ok (.lconst 0, 1) := by decide +kernel
theorem dd_I_look_29 : decode bb_I_look 29 = .ok (.putfield 15, 3) := by decide +kernel
theorem dd_I_look_32 : decode bb_I_look 32 = .ok (.aload_n 0, 1) := by decide +kernel
theorem dd_I_look_33 : decode bb_I_look 33 = .ok (.lconst 0, 1) := by decide +kernel
theorem dd_I_look_34 : decode bb_I_look 34 = .ok (.putfield 19, 3) := by decide +kernel
theorem dd_I_look_37 : decode bb_I_look 37 = .ok (.return_, 1) := by decide +kernel
theorem dd_I_sum_0 : decode bb_I_sum 0 = .ok (.aload_n 0, 1) := by decide +kernel
theorem dd_I_sum_1 : decode bb_I_sum 1 = .ok (.dup, 1) := by decide +kernel
theorem dd_I_sum_2 : decode bb_I_sum 2 = .ok (.getfield 15, 3) := by decide +kernel
theorem dd_I_sum_5 : decode bb_I_sum 5 = .ok (.lload_n 1, 1) := by decide +kernel
theorem dd_I_sum_6 : decode bb_I_sum 6 = .ok (.ladd, 1) := by decide +kernel
theorem dd_I_sum_7 : decode bb_I_sum 7 = .ok (.putfield 15, 3) := by decide +kernel
theorem dd_I_sum_10 : decode bb_I_sum 10 = .ok (.aload_n 0, 1) := by decide +kernel
theorem dd_I_sum_11 : decode bb_I_sum 11 = .ok (.dup, 1) := by decide +kernel
theorem dd_I_sum_12 : decode bb_I_sum 12 = .ok (.getfield 19, 3) := by decide +kernel
theorem dd_I_sum_15 : decode bb_I_sum 15 = .ok (.lload_n 3, 1) := by decide +kernel
theorem dd_I_sum_16 : decode bb_I_sum 16 = .ok (.ladd, 1) := by decide +kernel
theorem dd_I_sum_17 : decode bb_I_sum 17 = .ok (.putfield 19, 3) := by decide +kernel
theorem dd_I_sum_20 : decode bb_I_sum 20 = .ok (.aload_n 0, 1) := by decide +kernel
theorem dd_I_sum_21 : decode bb_I_sum 21 = .ok (.invokevirtual 22, 3) := by decide +kernel
theorem dd_I_sum_24 : decode bb_I_sum 24 = .ok (.return_, 1) := by decide +kernel
theorem dd_H_addBox_0 : decode bb_H_addBox 0 = .ok (.aload_n 0, 1) := by decide +kernel
theorem dd_H_addBox_1 : decode bb_H_addBox 1 = .ok (.getfield 21, 3) := by decide +kernel
theorem dd_H_addBox_4 : decode bb_H_addBox 4 = .ok (.sipush 400, 3) := by decide +kernel
theorem dd_H_addBox_7 : decode bb_H_addBox 7 = .ok (.if_icmp .ge 127, 3) := by decide +kernel
theorem dd_H_addBox_10 : decode bb_H_addBox 10 = .ok (.aload_n 0, 1) := by decide +kernel
theorem dd_H_addBox_11 : decode bb_H_addBox 11 = .ok (.getfield 21, 3) := by decide +kernel
theorem dd_H_addBox_14 : decode bb_H_addBox 14 = .ok (.bipush 14, 2) := by decide +kernel
theorem dd_H_addBox_16 : decode bb_H_addBox 16 = .ok (.imul, 1) := by decide +kernel
theorem dd_H_addBox_17 : decode bb_H_addBox 17 = .ok (.istore 5, 2) := by decide +kernel
theorem dd_H_addBox_19 : decode bb_H_addBox 19 = .ok (.iconst 0, 1) := by decide +kernel
theorem dd_H_addBox_20 : decode bb_H_addBox 20 = .ok (.istore 6, 2) := by decide +kernel
theorem dd_H_addBox_22 : decode bb_H_addBox 22 = .ok (.iload 6, 2) := by decide +kernel
theorem dd_H_addBox_24 : decode bb_H_addBox 24 = .ok (.iconst 3, 1) := by decide +kernel
theorem dd_H_addBox_25 : decode bb_H_addBox 25 = .ok (.if_icmp .ge 84, 3) := by decide +kernel
theorem dd_H_addBox_28 : decode bb_H_addBox 28 = .ok (.iload 5, 2) := by decide +kernel
theorem dd_H_addBox_30 : decode bb_H_addBox 30 = .ok (.iload 6, 2) := by decide +kernel
theorem dd_H_addBox_32 : decode bb_H_addBox 32 = .ok (.iconst 4, 1) := by decide +kernel
theorem dd_H_addBox_33 : decode bb_H_addBox 33 = .ok (.imul, 1) := by decide +kernel
theorem dd_H_addBox_34 : decode bb_H_addBox 34 = .ok (.iadd, 1) := by decide +kernel
theorem dd_H_addBox_35 : decode bb_H_addBox 35 = .ok (.istore 7, 2) := by decide +kernel
theorem dd_H_addBox_37 : decode bb_H_addBox 37 = .ok (.aload_n 0, 1) := by decide +kernel
theorem dd_H_addBox_38 : decode bb_H_addBox 38 = .ok (.getfield 11, 3) := by decide +kernel
theorem dd_H_addBox_41 : decode bb_H_addBox 41 = .ok (.iload 7, 2) := by decide +kernel
theorem dd_H_addBox_43 : decode bb_H_addBox 43 = .ok (.aload_n 1, 1) := by decide +kernel
theorem dd_H_addBox_44 : decode bb_H_addBox 44 = .ok (.getfield 34, 3) := by decide +kernel
theorem dd_H_addBox_47 : decode bb_H_addBox 47 = .ok (.iload 6, 2) := by decide +kernel
theorem dd_H_addBox_49 : decode bb_H_addBox 49 = .ok (.laload, 1) := by decide +kernel
theorem dd_H_addBox_50 : decode bb_H_addBox 50 = .ok (.l2i, 1) := by decide +kernel
theorem dd_H_addBox_51 : decode bb_H_addBox 51 = .ok (.iastore, 1) := by decide +kernel
theorem dd_H_addBox_52 : decode bb_H_addBox 52 = .ok (.aload_n 0, 1) := by decide +kernel
theorem dd_H_addBox_53 : decode bb_H_addBox 53 = .ok (.getfield 11, 3) := by decide +kernel
theorem dd_H_addBox_56 : decode bb_H_addBox 56 = .ok (.iload 7, 2) := by decide +kernel
theorem dd_H_addBox_58 : decode bb_H_addBox 58 = .ok (.iconst 1, 1) := by decide +kernel
theorem dd_H_addBox_59 : decode bb_H_addBox 59 = .ok (.iadd, 1) := by decide +kernel
theorem dd_H_addBox_60 : decode bb_H_addBox 60 = .ok (.aload_n 1, 1) := by decide +kernel
theorem dd_H_addBox_61 : decode bb_H_addBox 61 = .ok (.getfield 40, 3) := by decide +kernel
theorem dd_H_addBox_64 : decode bb_H_addBox 64 = .ok (.iload 6, 2) := by decide +kernel
theorem dd_H_addBox_66 : decode bb_H_addBox 66 = .ok (.laload, 1) := by decide +kernel
theorem dd_H_addBox_67 : decode bb_H_addBox 67 = .ok (.l2i, 1) := by decide +kernel
theorem dd_H_addBox_68 : decode bb_H_addBox 68 = .ok (.iastore, 1) := by decide +kernel
theorem dd_H_addBox_69 : decode bb_H_addBox 69 = .ok (.aload_n 0, 1) := by decide +kernel
theorem dd_H_addBox_70 : decode bb_H_addBox 70 = .ok (.getfield 11, 3) := by decide +kernel
theorem dd_H_addBox_73 : decode bb_H_addBox 73 = .ok (.iload 7, 2) := by decide +kernel
theorem dd_H_addBox_75 : decode bb_H_addBox 75 = .ok (.iconst 2, 1) := by decide +kernel
theorem dd_H_addBox_76 : decode bb_H_addBox 76 = .ok (.iadd, 1) := by decide +kernel
theorem dd_H_addBox_77 : decode bb_H_addBox 77 = .ok (.aload_n 2, 1) := by decide +kernel
theorem dd_H_addBox_78 : decode bb_H_addBox 78 = .ok (.getfield 34, 3) := by decide +kernel
theorem dd_H_addBox_81 : decode bb_H_addBox 81 = .ok (.iload 6, 2) := by decide +kernel
theorem dd_H_addBox_83 : decode bb_H_addBox 83 = .ok (.laload, 1) := by decide +kernel
theorem dd_H_addBox_84 : decode bb_H_addBox 84 = .ok (.l2i, 1) := by decide +kernel
theorem dd_H_addBox_85 : decode bb_H_addBox 85 = .ok (.iastore, 1) := by decide +kernel
theorem dd_H_addBox_86 : decode bb_H_addBox 86 = .ok (.aload_n 0, 1) := by decide +kernel
theorem dd_H_addBox_87 : decode bb_H_addBox 87 = .ok (.getfield 11, 3) := by decide +kernel
theorem dd_H_addBox_90 : decode bb_H_addBox 90 = .ok (.iload 7, 2) := by decide +kernel
theorem dd_H_addBox_92 : decode bb_H_addBox 92 = .ok (.iconst 3, 1) := by decide +kernel
theorem dd_H_addBox_93 : decode bb_H_addBox 93 = .ok (.iadd, 1) := by decide +kernel
theorem dd_H_addBox_94 : decode bb_H_addBox 94 = .ok (.aload_n 2, 1) := by decide +kernel
theorem dd_H_addBox_95 : decode bb_H_addBox 95 = .ok (.getfield 40, 3) := by decide +kernel
theorem dd_H_addBox_98 : decode bb_H_addBox 98 = .ok (.iload 6, 2) := by decide +kernel
theorem dd_H_addBox_100 : decode bb_H_addBox 100 = .ok (.laload, 1) := by decide +kernel
theorem dd_H_addBox_101 : decode bb_H_addBox 101 = .ok (.l2i, 1) := by decide +kernel
theorem dd_H_addBox_102 : decode bb_H_addBox 102 = .ok (.iastore, 1) := by decide +kernel
theorem dd_H_addBox_103 : decode bb_H_addBox 103 = .ok (.iinc 6 1, 3) := by decide +kernel
theorem dd_H_addBox_106 : decode bb_H_addBox 106 = .ok (.goto (-84), 3) := by decide +kernel
theorem dd_H_addBox_109 : decode bb_H_addBox 109 = .ok (.aload_n 0, 1) := by decide +kernel
theorem dd_H_addBox_110 : decode bb_H_addBox 110 = .ok (.getfield 11, 3) := by decide +kernel
theorem dd_H_addBox_113 : decode bb_H_addBox 113 = .ok (.iload 5, 2) := by decide +kernel
theorem dd_H_addBox_115 : decode bb_H_addBox 115 = .ok (.bipush 12, 2) := by decide +kernel
theorem dd_H_addBox_117 : decode bb_H_addBox 117 = .ok (.iadd, 1) := by decide +kernel
theorem dd_H_addBox_118 : decode bb_H_addBox 118 = .ok (.iload_n 3, 1) := by decide +kernel
theorem dd_H_addBox_119 : decode bb_H_addBox 119 = .ok (.iastore, 1) := by decide +kernel
theorem dd_H_addBox_120 : decode bb_H_addBox 120 = .ok (.aload_n 0, 1) := by decide +kernel
theorem dd_H_addBox_121 : decode bb_H_addBox 121 = .ok (.getfield 11, 3) := by decide +kernel
theorem dd_H_addBox_124 : decode bb_H_addBox 124 = .ok (.iload 5, 2) := by decide +kernel
theorem dd_H_addBox_126 : decode bb_H_addBox 126 = .ok (.bipush 12, 2) := by decide +kernel
theorem dd_H_addBox_128 : decode bb_H_addBox 128 = .ok (.iadd, 1) := by decide +kernel
theorem dd_H_addBox_129 : decode bb_H_addBox 129 = .ok (.iconst 1, 1) := by decide +kernel
theorem dd_H_addBox_130 : decode bb_H_addBox 130 = .ok (.iadd, 1) := by decide +kernel
theorem dd_H_addBox_131 : decode bb_H_addBox 131 = .ok (.iload 4, 2) := by decide +kernel
theorem dd_H_addBox_133 : decode bb_H_addBox 133 = .ok (.iastore, 1) := by decide +kernel
theorem dd_H_addBox_134 : decode bb_H_addBox 134 = .ok (.iload 4, 2) := by decide +kernel
theorem dd_H_addBox_136 : decode bb_H_addBox 136 = .ok (.ifCond .eq 9, 3) := by decide +kernel
theorem dd_H_addBox_139 : decode bb_H_addBox 139 = .ok (.aload_n 0, 1) := by decide +kernel
theorem dd_H_addBox_140 : decode bb_H_addBox 140 = .ok (.iload 4, 2) := by decide +kernel
theorem dd_H_addBox_142 : decode bb_H_addBox 142 = .ok (.invokevirtual 43, 3) := by decide +kernel
theorem dd_H_addBox_145 : decode bb_H_addBox 145 = .ok (.aload_n 0, 1) := by decide +kernel
theorem dd_H_addBox_146 : decode bb_H_addBox 146 = .ok (.dup, 1) := by decide +kernel
theorem dd_H_addBox_147 : decode bb_H_addBox 147 = .ok (.getfield 21, 3) := by decide +kernel
theorem dd_H_addBox_150 : decode bb_H_addBox 150 = .ok (.iconst 1, 1) := by decide +kernel
theorem dd_H_addBox_151 : decode bb_H_addBox 151 = .ok (.iadd, 1) := by decide +kernel
theorem dd_H_addBox_152 : decode bb_H_addBox 152 = .ok (.putfield 21, 3) := by decide +kernel
theorem dd_H_addBox_155 : decode bb_H_addBox 155 = .ok (.return_, 1) := by decide +kernel
theorem dd_H_noteSign_0 : decode bb_H_noteSign 0 = .ok (.aload_n 0, 1) := by decide +kernel
theorem dd_H_noteSign_1 : decode bb_H_noteSign 1 = .ok (.getfield 28, 3) := by decide +kernel
theorem dd_H_noteSign_4 : decode bb_H_noteSign 4 = .ok (.iload_n 1, 1) := by decide +kernel
theorem dd_H_noteSign_5 : decode bb_H_noteSign 5 = .ok (.ineg, 1) := by decide +kernel
theorem dd_H_noteSign_6 : decode bb_H_noteSign 6 = .ok (.if_icmp .ne 8, 3) := by decide +kernel
theorem dd_H_noteSign_9 : decode bb_H_noteSign 9 = .ok (.aload_n 0, 1) := by decide +kernel
theorem dd_H_noteSign_10 : decode bb_H_noteSign 10 = .ok (.iload_n 1, 1) := by decide +kernel
theorem dd_H_noteSign_11 : decode bb_H_noteSign 11 = .ok (.invokevirtual 47, 3) := by decide +kernel
theorem dd_H_noteSign_14 : decode bb_H_noteSign 14 = .ok (.aload_n 0, 1) := by decide +kernel
theorem dd_H_noteSign_15 : decode bb_H_noteSign 15 = .ok (.iload_n 1, 1) := by decide +kernel
theorem dd_H_noteSign_16 : decode bb_H_noteSign 16 = .ok (.putfield 28, 3) := by decide +kernel
theorem dd_H_noteSign_19 : decode bb_H_noteSign 19 = .ok (.aload_n 0, 1) := by decide +kernel
theorem dd_H_noteSign_20 : decode bb_H_noteSign 20 = .ok (.aload_n 0, 1) := by decide +kernel
theorem dd_H_noteSign_21 : decode bb_H_noteSign 21 = .ok (.getfield 21, 3) := by decide +kernel
theorem dd_H_noteSign_24 : decode bb_H_noteSign 24 = .ok (.putfield 31, 3) := by decide +kernel
theorem dd_H_noteSign_27 : decode bb_H_noteSign 27 = .ok (.return_, 1) := by decide +kernel
theorem dd_H_addCrossing_0 : decode bb_H_addCrossing 0 = .ok (.aload_n 0, 1) := by decide +kernel
theorem dd_H_addCrossing_1 : decode bb_H_addCrossing 1 = .ok (.getfield 25, 3) := by decide +kernel
theorem dd_H_addCrossing_4 : decode bb_H_addCrossing 4 = .ok (.bipush 100, 2) := by decide +kernel
theorem dd_H_addCrossing_6 : decode bb_H_addCrossing 6 = .ok (.if_icmp .ge 41, 3) := by decide +kernel
theorem dd_H_addCrossing_9 : decode bb_H_addCrossing 9 = .ok (.aload_n 0, 1) := by decide +kernel
theorem dd_H_addCrossing_10 : decode bb_H_addCrossing 10 = .ok (.getfield 25, 3) := by decide +kernel
theorem dd_H_addCrossing_13 : decode bb_H_addCrossing 13 = .ok (.iconst 3, 1) := by decide +kernel
theorem dd_H_addCrossing_14 : decode bb_H_addCrossing 14 = .ok (.imul, 1) := by decide +kernel
theorem dd_H_addCrossing_15 : decode bb_H_addCrossing 15 = .ok (.istore_n 2, 1) := by decide +kernel
theorem dd_H_addCrossing_16 : decode bb_H_addCrossing 16 = .ok (.aload_n 0, 1) := by decide +kernel
theorem dd_H_addCrossing_17 : decode bb_H_addCrossing 17 = .ok (.getfield 15, 3) := by decide +kernel
theorem dd_H_addCrossing_20 : decode bb_H_addCrossing 20 = .ok (.iload_n 2, 1) := by decide +kernel
theorem dd_H_addCrossing_21 : decode bb_H_addCrossing 21 = .ok (.aload_n 0, 1) := by decide +kernel
theorem dd_H_addCrossing_22 : decode bb_H_addCrossing 22 = .ok (.getfield 31, 3) := by decide +kernel
theorem dd_H_addCrossing_25 : decode bb_H_addCrossing 25 = .ok (.iastore, 1) := by decide +kernel
theorem dd_H_addCrossing_26 : decode bb_H_addCrossing 26 = .ok (.aload_n 0, 1) := by decide +kernel
theorem dd_H_addCrossing_27 : decode bb_H_addCrossing 27 = .ok (.getfield 15, 3) := by decide +kernel
theorem dd_H_addCrossing_30 : decode bb_H_addCrossing 30 = .ok (.iload_n 2, 1) := by decide +kernel
theorem dd_H_addCrossing_31 : decode bb_H_addCrossing 31 = .ok (.iconst 1, 1) := by decide +kernel
theorem dd_H_addCrossing_32 : decode bb_H_addCrossing 32 = .ok (.iadd, 1) := by decide +kernel
theorem dd_H_addCrossing_33 : decode bb_H_addCrossing 33 = .ok (.aload_n 0, 1) := by decide +kernel
theorem dd_H_addCrossing_34 : decode bb_H_addCrossing 34 = .ok (.getfield 21, 3) := by decide +kernel
theorem dd_H_addCrossing_37 : decode bb_H_addCrossing 37 = .ok (.iastore, 1) := by decide +kernel
theorem dd_H_addCrossing_38 : decode bb_H_addCrossing 38 = .ok (.aload_n 0, 1) := by decide +kernel
theorem dd_H_addCrossing_39 : decode bb_H_addCrossing 39 = .ok (.getfield 15, 3) := by decide +kernel
theorem dd_H_addCrossing_42 : decode bb_H_addCrossing 42 = .ok (.iload_n 2, 1) := by decide +kernel
theorem dd_H_addCrossing_43 : decode bb_H_addCrossing 43 = .ok (.iconst 2, 1) := by decide +kernel
theorem dd_H_addCrossing_44 : decode bb_H_addCrossing 44 = .ok (.iadd, 1) := by decide +kernel
theorem dd_H_addCrossing_45 : decode bb_H_addCrossing 45 = .ok (.iload_n 1, 1) := by decide +kernel
theorem dd_H_addCrossing_46 : decode bb_H_addCrossing 46 = .ok (.iastore, 1) := by decide +kernel
theorem dd_H_addCrossing_47 : decode bb_H_addCrossing 47 = .ok (.aload_n 0, 1) := by decide +kernel
theorem dd_H_addCrossing_48 : decode bb_H_addCrossing 48 = .ok (.dup, 1) := by decide +kernel
theorem dd_H_addCrossing_49 : decode bb_H_addCrossing 49 = .ok (.getfield 25, 3) := by decide +kernel
theorem dd_H_addCrossing_52 : decode bb_H_addCrossing 52 = .ok (.iconst 1, 1) := by decide +kernel
theorem dd_H_addCrossing_53 : decode bb_H_addCrossing 53 = .ok (.iadd, 1) := by decide +kernel
theorem dd_H_addCrossing_54 : decode bb_H_addCrossing 54 = .ok (.putfield 25, 3) := by decide +kernel
theorem dd_H_addCrossing_57 : decode bb_H_addCrossing 57 = .ok (.return_, 1) := by decide +kernel
theorem dd_F_settle_0 : decode bb_F_settle 0 = .ok (.iload_n 1, 1) := by decide +kernel
theorem dd_F_settle_1 : decode bb_F_settle 1 = .ok (.iconst 1, 1) := by decide +kernel
theorem dd_F_settle_2 : decode bb_F_settle 2 = .ok (.if_icmp .lt 19, 3) := by decide +kernel
theorem dd_F_settle_5 : decode bb_F_settle 5 = .ok (.iload_n 1, 1) := by decide +kernel
theorem dd_F_settle_6 : decode bb_F_settle 6 = .ok (.bipush 8, 2) := by decide +kernel
theorem dd_F_settle_8 : decode bb_F_settle 8 = .ok (.if_icmp .gt 13, 3) := by decide +kernel
theorem dd_F_settle_11 : decode bb_F_settle 11 = .ok (.iload_n 3, 1) := by decide +kernel
theorem dd_F_settle_12 : decode bb_F_settle 12 = .ok (.ifCond .lt 9, 3) := by decide +kernel
theorem dd_F_settle_15 : decode bb_F_settle 15 = .ok (.iload_n 3, 1) := by decide +kernel
theorem dd_F_settle_16 : decode bb_F_settle 16 = .ok (.bipush 10, 2) := by decide +kernel
theorem dd_F_settle_18 : decode bb_F_settle 18 = .ok (.if_icmp .le 5, 3) := by decide +kernel
theorem dd_F_settle_21 : decode bb_F_settle 21 = .ok (.iconst 0, 1) := by decide +kernel
theorem dd_F_settle_22 : decode bb_F_settle 22 = .ok (.ireturn, 1) := by decide +kernel
theorem dd_F_settle_23 : decode bb_F_settle 23 = .ok (.iload_n 2, 1) := by decide +kernel
theorem dd_F_settle_24 : decode bb_F_settle 24 = .ok (.ifCond .lt 16, 3) := by decide +kernel
theorem dd_F_settle_27 : decode bb_F_settle 27 = .ok (.iload_n 2, 1) := by decide +kernel
theorem dd_F_settle_28 : decode bb_F_settle 28 = .ok (.ldc 90, 2) := by decide +kernel
theorem dd_F_settle_30 : decode bb_F_settle 30 = .ok (.if_icmp .gt 10, 3) := by decide +kernel
theorem dd_F_settle_33 : decode bb_F_settle 33 = .ok (.iload_n 2, 1) := by decide +kernel
theorem dd_F_settle_34 : decode bb_F_settle 34 = .ok (.bipush 16, 2) := by decide +kernel
theorem dd_F_settle_36 : decode bb_F_settle 36 = .ok (.irem, 1) := by decide +kernel
theorem dd_F_settle_37 : decode bb_F_settle 37 = .ok (.ifCond .eq 5, 3) := by decide +kernel
theorem dd_F_settle_40 : decode bb_F_settle 40 = .ok (.iconst 0, 1) := by decide +kernel
theorem dd_F_settle_41 : decode bb_F_settle 41 = .ok (.ireturn, 1) := by decide +kernel
theorem dd_F_settle_42 : decode bb_F_settle 42 = .ok (.aload_n 0, 1) := by decide +kernel
theorem dd_F_settle_43 : decode bb_F_settle 43 = .ok (.getfield 33, 3) := by decide +kernel
theorem dd_F_settle_46 : decode bb_F_settle 46 = .ok (.iload_n 1, 1) := by decide +kernel
theorem dd_F_settle_47 : decode bb_F_settle 47 = .ok (.putfield 91, 3) := by decide +kernel
theorem dd_F_settle_50 : decode bb_F_settle 50 = .ok (.aload_n 0, 1) := by decide +kernel
theorem dd_F_settle_51 : decode bb_F_settle 51 = .ok (.getfield 33, 3) := by decide +kernel
theorem dd_F_settle_54 : decode bb_F_settle 54 = .ok (.iload_n 2, 1) := by decide +kernel
theorem dd_F_settle_55 : decode bb_F_settle 55 = .ok (.putfield 94, 3) := by decide +kernel
theorem dd_F_settle_58 : decode bb_F_settle 58 = .ok (.aload_n 0, 1) := by decide +kernel
theorem dd_F_settle_59 : decode bb_F_settle 59 = .ok (.getfield 33, 3) := by decide +kernel
theorem dd_F_settle_62 : decode bb_F_settle 62 = .ok (.iload_n 3, 1) := by decide +kernel
theorem dd_F_settle_63 : decode bb_F_settle 63 = .ok (.putfield 97, 3) := by decide +kernel
theorem dd_F_settle_66 : decode bb_F_settle 66 = .ok (.aload_n 0, 1) := by decide +kernel
theorem dd_F_settle_67 : decode bb_F_settle 67 = .ok (.getfield 33, 3) := by decide +kernel
theorem dd_F_settle_70 : decode bb_F_settle 70 = .ok (.aload_n 0, 1) := by decide +kernel
theorem dd_F_settle_71 : decode bb_F_settle 71 = .ok (.getfield 23, 3) := by decide +kernel
theorem dd_F_settle_74 : decode bb_F_settle 74 = .ok (.invokevirtual 66, 3) := by decide +kernel
theorem dd_F_settle_77 : decode bb_F_settle 77 = .ok (.iconst 1, 1) := by decide +kernel
theorem dd_F_settle_78 : decode bb_F_settle 78 = .ok (.ireturn, 1) := by decide +kernel
theorem dd_F_state_0 : decode bb_F_state 0 = .ok (.iload_n 1, 1) := by decide +kernel
theorem dd_F_state_1 : decode bb_F_state 1 = .ok (.tableswitch 93 0 5 #[39, 47, 55, 66, 74, 82], 39) := by decide +kernel
theorem dd_F_state_40 : decode bb_F_state 40 = .ok (.aload_n 0, 1) := by decide +kernel
theorem dd_F_state_41 : decode bb_F_state 41 = .ok (.getfield 33, 3) := by decide +kernel
theorem dd_F_state_44 : decode bb_F_state 44 = .ok (.getfield 107, 3) := by decide +kernel
theorem dd_F_state_47 : decode bb_F_state 47 = .ok (.ireturn, 1) := by decide +kernel
theorem dd_F_state_48 : decode bb_F_state 48 = .ok (.aload_n 0, 1) := by decide +kernel
theorem dd_F_state_49 : decode bb_F_state 49 = .ok (.getfield 33, 3) := by decide +kernel
theorem dd_F_state_52 : decode bb_F_state 52 = .ok (.getfield 119, 3) := by decide +kernel
theorem dd_F_state_55 : decode bb_F_state 55 = .ok (.ireturn, 1) := by decide +kernel
theorem dd_F_state_56 : decode bb_F_state 56 = .ok (.aload_n 0, 1) := by decide +kernel
theorem dd_F_state_57 : decode bb_F_state 57 = .ok (.getfield 33, 3) := by decide +kernel
theorem dd_F_state_60 : decode bb_F_state 60 = .ok (.getfield 122, 3) := by decide +kernel
theorem dd_F_state_63 : decode bb_F_state 63 = .ok (.getfield 126, 3) := by decide +kernel
theorem dd_F_state_66 : decode bb_F_state 66 = .ok (.ireturn, 1) := by decide +kernel
theorem dd_F_state_67 : decode bb_F_state 67 = .ok (.aload_n 0, 1) := by decide +kernel
theorem dd_F_state_68 : decode bb_F_state 68 = .ok (.getfield 33, 3) := by decide +kernel
theorem dd_F_state_71 : decode bb_F_state 71 = .ok (.getfield 131, 3) := by decide +kernel
theorem dd_F_state_74 : decode bb_F_state 74 = .ok (.ireturn, 1) := by decide +kernel
theorem dd_F_state_75 : decode bb_F_state 75 = .ok (.aload_n 0, 1) := by decide +kernel
theorem dd_F_state_76 : decode bb_F_state 76 = .ok (.getfield 33, 3) := by decide +kernel
theorem dd_F_state_79 : decode bb_F_state 79 = .ok (.getfield 134, 3) := by decide +kernel
theorem dd_F_state_82 : decode bb_F_state 82 = .ok (.ireturn, 1) := by decide +kernel
theorem dd_F_state_83 : decode bb_F_state 83 = .ok (.aload_n 0, 1) := by decide +kernel
theorem dd_F_state_84 : decode bb_F_state 84 = .ok (.getfield 33, 3) := by decide +kernel
theorem dd_F_state_87 : decode bb_F_state 87 = .ok (.getfield 122, 3) := by decide +kernel
theorem dd_F_state_90 : decode bb_F_state 90 = .ok (.getfield 137, 3) := by decide +kernel
theorem dd_F_state_93 : decode bb_F_state 93 = .ok (.ireturn, 1) := by decide +kernel
theorem dd_F_state_94 : decode bb_F_state 94 = .ok (.iconst (-1), 1) := by decide +kernel
theorem dd_F_state_95 : decode bb_F_state 95 = .ok (.ireturn, 1) := by decide +kernel
theorem dd_L_compile_0 : decode bb_L_compile 0 = .ok (.aload_n 1, 1) := by decide +kernel
theorem dd_L_compile_1 : decode bb_L_compile 1 = .ok (.iconst 0, 1) := by decide +kernel
theorem dd_L_compile_2 : decode bb_L_compile 2 = .ok (.aload_n 0, 1) := by decide +kernel
theorem dd_L_compile_3 : decode bb_L_compile 3 = .ok (.invokevirtual 7, 3) := by decide +kernel
theorem dd_L_compile_6 : decode bb_L_compile 6 = .ok (.i2l, 1) := by decide +kernel
theorem dd_L_compile_7 : decode bb_L_compile 7 = .ok (.lastore, 1) := by decide +kernel
theorem dd_L_compile_8 : decode bb_L_compile 8 = .ok (.goto 6, 3) := by decide +kernel
theorem dd_L_compile_11 : decode bb_L_compile 11 = .ok (.astore_n 2, 1) := by decide +kernel
theorem dd_L_compile_12 : decode bb_L_compile 12 = .ok (.iconst 1, 1) := by decide +kernel
theorem dd_L_compile_13 : decode bb_L_compile 13 = .ok (.ireturn, 1) := by decide +kernel
theorem dd_L_compile_14 : decode bb_L_compile 14 = .ok (.iconst 0, 1) := by decide +kernel
theorem dd_L_compile_15 : decode bb_L_compile 15 = .ok (.ireturn, 1) := by decide +kernel
theorem dd_F_compile_0 : decode bb_F_compile 0 = .ok (.aload_n 0, 1) := by decide +kernel
theorem dd_F_compile_1 : decode bb_F_compile 1 = .ok (.aload_n 0, 1) := by decide +kernel
theorem dd_F_compile_2 : decode bb_F_compile 2 = .ok (.getfield 16, 3) := by decide +kernel
theorem dd_F_compile_5 : decode bb_F_compile 5 = .ok (.aload_n 0, 1) := by decide +kernel
theorem dd_F_compile_6 : decode bb_F_compile 6 = .ok (.getfield 27, 3) := by decide +kernel
theorem dd_F_compile_9 : decode bb_F_compile 9 = .ok (.invokevirtual 49, 3) := by decide +kernel
theorem dd_F_compile_12 : decode bb_F_compile 12 = .ok (.putfield 9, 3) := by decide +kernel
theorem dd_F_compile_15 : decode bb_F_compile 15 = .ok (.aload_n 0, 1) := by decide +kernel
theorem dd_F_compile_16 : decode bb_F_compile 16 = .ok (.getfield 16, 3) := by decide +kernel
theorem dd_F_compile_19 : decode bb_F_compile 19 = .ok (.invokevirtual 53, 3) := by decide +kernel
theorem dd_F_compile_22 : decode bb_F_compile 22 = .ok (.aload_n 0, 1) := by decide +kernel
theorem dd_F_compile_23 : decode bb_F_compile 23 = .ok (.getfield 9, 3) := by decide +kernel
theorem dd_F_compile_26 : decode bb_F_compile 26 = .ok (.iconst (-1), 1) := by decide +kernel
theorem dd_F_compile_27 : decode bb_F_compile 27 = .ok (.if_icmp .eq 13, 3) := by decide +kernel
theorem dd_F_compile_30 : decode bb_F_compile 30 = .ok (.new 56, 3) := by decide +kernel
theorem dd_F_compile_33 : decode bb_F_compile 33 = .ok (.dup, 1) := by decide +kernel
theorem dd_F_compile_34 : decode bb_F_compile 34 = .ok (.ldc 58, 2) := by decide +kernel
theorem dd_F_compile_36 : decode bb_F_compile 36 = .ok (.invokespecial 60, 3) := by decide +kernel
theorem dd_F_compile_39 : decode bb_F_compile 39 = .ok (.athrow, 1) := by decide +kernel
theorem dd_F_compile_40 : decode bb_F_compile 40 = .ok (.aload_n 0, 1) := by decide +kernel
theorem dd_F_compile_41 : decode bb_F_compile 41 = .ok (.getfield 23, 3) := by decide +kernel
theorem dd_F_compile_44 : decode bb_F_compile 44 = .ok (.astore_n 1, 1) := by decide +kernel
theorem dd_F_compile_45 : decode bb_F_compile 45 = .ok (.aload_n 0, 1) := by decide +kernel
theorem dd_F_compile_46 : decode bb_F_compile 46 = .ok (.aload_n 0, 1) := by decide +kernel
theorem dd_F_compile_47 : decode bb_F_compile 47 = .ok (.getfield 27, 3) := by decide +kernel
theorem dd_F_compile_50 : decode bb_F_compile 50 = .ok (.putfield 23, 3) := by decide +kernel
theorem dd_F_compile_53 : decode bb_F_compile 53 = .ok (.aload_n 0, 1) := by decide +kernel
theorem dd_F_compile_54 : decode bb_F_compile 54 = .ok (.aload_n 1, 1) := by decide +kernel
theorem dd_F_compile_55 : decode bb_F_compile 55 = .ok (.putfield 27, 3) := by decide +kernel
theorem dd_F_compile_58 : decode bb_F_compile 58 = .ok (.aload_n 0, 1) := by decide +kernel
theorem dd_F_compile_59 : decode bb_F_compile 59 = .ok (.getfield 33, 3) := by decide +kernel
theorem dd_F_compile_62 : decode bb_F_compile 62 = .ok (.invokevirtual 63, 3) := by decide +kernel
theorem dd_F_compile_65 : decode bb_F_compile 65 = .ok (.aload_n 0, 1) := by decide +kernel
theorem dd_F_compile_66 : decode bb_F_compile 66 = .ok (.getfield 33, 3) := by decide +kernel
theorem dd_F_compile_69 : decode bb_F_compile 69 = .ok (.aload_n 0, 1) := by decide +kernel
theorem dd_F_compile_70 : decode bb_F_compile 70 = .ok (.getfield 23, 3) := by decide +kernel
theorem dd_F_compile_73 : decode bb_F_compile 73 = .ok (.invokevirtual 66, 3) := by decide +kernel
theorem dd_F_compile_76 : decode bb_F_compile 76 = .ok (.aload_n 0, 1) := by decide +kernel
theorem dd_F_compile_77 : decode bb_F_compile 77 = .ok (.getfield 23, 3) := by decide +kernel
theorem dd_F_compile_80 : decode bb_F_compile 80 = .ok (.getfield 70, 3) := by decide +kernel
theorem dd_F_compile_83 : decode bb_F_compile 83 = .ok (.ireturn, 1) := by decide +kernel
theorem dd_P_read_0 : decode bb_P_read 0 = .ok (.aload_n 0, 1) := by decide +kernel
theorem dd_P_read_1 : decode bb_P_read 1 = .ok (.invokevirtual 35, 3) := by decide +kernel
theorem dd_P_read_4 : decode bb_P_read 4 = .ok (.aload_n 0, 1) := by decide +kernel
theorem dd_P_read_5 : decode bb_P_read 5 = .ok (.bipush 120, 2) := by decide +kernel
theorem dd_P_read_7 : decode bb_P_read 7 = .ok (.aload_n 1, 1) := by decide +kernel
theorem dd_P_read_8 : decode bb_P_read 8 = .ok (.getfield 38, 3) := by decide +kernel
theorem dd_P_read_11 : decode bb_P_read 11 = .ok (.iconst 0, 1) := by decide +kernel
theorem dd_P_read_12 : decode bb_P_read 12 = .ok (.aaload, 1) := by decide +kernel
theorem dd_P_read_13 : decode bb_P_read 13 = .ok (.invokevirtual 44, 3) := by decide +kernel
theorem dd_P_read_16 : decode bb_P_read 16 = .ok (.istore_n 2, 1) := by decide +kernel
theorem dd_P_read_17 : decode bb_P_read 17 = .ok (.aload_n 1, 1) := by decide +kernel
theorem dd_P_read_18 : decode bb_P_read 18 = .ok (.iconst 1, 1) := by decide +kernel
theorem dd_P_read_19 : decode bb_P_read 19 = .ok (.putfield 48, 3) := by decide +kernel
theorem dd_P_read_22 : decode bb_P_read 22 = .ok (.iconst 1, 1) := by decide +kernel
theorem dd_P_read_23 : decode bb_P_read 23 = .ok (.istore_n 3, 1) := by decide +kernel
theorem dd_P_read_24 : decode bb_P_read 24 = .ok (.iload_n 3, 1) := by decide +kernel
theorem dd_P_read_25 : decode bb_P_read 25 = .ok (.iconst 3, 1) := by decide +kernel
theorem dd_P_read_26 : decode bb_P_read 26 = .ok (.if_icmp .ge 46, 3) := by decide +kernel
theorem dd_P_read_29 : decode bb_P_read 29 = .ok (.iload_n 2, 1) := by decide +kernel
theorem dd_P_read_30 : decode bb_P_read 30 = .ok (.ifCond .eq 42, 3) := by decide +kernel
theorem dd_P_read_33 : decode bb_P_read 33 = .ok (.aload_n 0, 1) := by decide +kernel
theorem dd_P_read_34 : decode bb_P_read 34 = .ok (.invokevirtual 51, 3) := by decide +kernel
theorem dd_P_read_37 : decode bb_P_read 37 = .ok (.bipush 120, 2) := by decide +kernel
theorem dd_P_read_39 : decode bb_P_read 39 = .ok (.iload_n 3, 1) := by decide +kernel
theorem dd_P_read_40 : decode bb_P_read 40 = .ok (.iadd, 1) := by decide +kernel
theorem dd_P_read_41 : decode bb_P_read 41 = .ok (.if_icmp .ne 31, 3) := by decide +kernel
theorem dd_P_read_44 : decode bb_P_read 44 = .ok (.aload_n 0, 1) := by decide +kernel
theorem dd_P_read_45 : decode bb_P_read 45 = .ok (.bipush 120, 2) := by decide +kernel
theorem dd_P_read_47 : decode bb_P_read 47 = .ok (.iload_n 3, 1) := by decide +kernel
theorem dd_P_read_48 : decode bb_P_read 48 = .ok (.iadd, 1) := by decide +kernel
theorem dd_P_read_49 : decode bb_P_read 49 = .ok (.aload_n 1, 1) := by decide +kernel
theorem dd_P_read_50 : decode bb_P_read 50 = .ok (.getfield 38, 3) := by decide +kernel
theorem dd_P_read_53 : decode bb_P_read 53 = .ok (.iload_n 3, 1) := by decide +kernel
theorem dd_P_read_54 : decode bb_P_read 54 = .ok (.aaload, 1) := by decide +kernel
theorem dd_P_read_55 : decode bb_P_read 55 = .ok (.invokevirtual 44, 3) := by decide +kernel
theorem dd_P_read_58 : decode bb_P_read 58 = .ok (.istore_n 2, 1) := by decide +kernel
theorem dd_P_read_59 : decode bb_P_read 59 = .ok (.aload_n 1, 1) := by decide +kernel
theorem dd_P_read_60 : decode bb_P_read 60 = .ok (.iload_n 3, 1) := by decide +kernel
theorem dd_P_read_61 : decode bb_P_read 61 = .ok (.iconst 1, 1) := by decide +kernel
theorem dd_P_read_62 : decode bb_P_read 62 = .ok (.iadd, 1) := by decide +kernel
theorem dd_P_read_63 : decode bb_P_read 63 = .ok (.putfield 48, 3) := by decide +kernel
theorem dd_P_read_66 : decode bb_P_read 66 = .ok (.iinc 3 1, 3) := by decide +kernel
theorem dd_P_read_69 : decode bb_P_read 69 = .ok (.goto (-45), 3) := by decide +kernel
theorem dd_P_read_72 : decode bb_P_read 72 = .ok (.aload_n 1, 1) := by decide +kernel
theorem dd_P_read_73 : decode bb_P_read 73 = .ok (.iload_n 2, 1) := by decide +kernel
theorem dd_P_read_74 : decode bb_P_read 74 = .ok (.ifCond .eq 16, 3) := by decide +kernel
theorem dd_P_read_77 : decode bb_P_read 77 = .ok (.aload_n 0, 1) := by decide +kernel
theorem dd_P_read_78 : decode bb_P_read 78 = .ok (.invokevirtual 51, 3) := by decide +kernel
theorem dd_P_read_81 : decode bb_P_read 81 = .ok (.bipush 103, 2) := by decide +kernel
theorem dd_P_read_83 : decode bb_P_read 83 = .ok (.if_icmp .ne 7, 3) := by decide +kernel
theorem dd_P_read_86 : decode bb_P_read 86 = .ok (.iconst 1, 1) := by decide +kernel
theorem dd_P_read_87 : decode bb_P_read 87 = .ok (.goto 4, 3) := by decide +kernel
theorem dd_P_read_90 : decode bb_P_read 90 = .ok (.iconst 0, 1) := by decide +kernel
theorem dd_P_read_91 : decode bb_P_read 91 = .ok (.putfield 55, 3) := by decide +kernel
theorem dd_P_read_94 : decode bb_P_read 94 = .ok (.aload_n 1, 1) := by decide +kernel
theorem dd_P_read_95 : decode bb_P_read 95 = .ok (.getfield 55, 3) := by decide +kernel
theorem dd_P_read_98 : decode bb_P_read 98 = .ok (.ifCond .eq 14, 3) := by decide +kernel
theorem dd_P_read_101 : decode bb_P_read 101 = .ok (.aload_n 0, 1) := by decide +kernel
theorem dd_P_read_102 : decode bb_P_read 102 = .ok (.bipush 103, 2) := by decide +kernel
theorem dd_P_read_104 : decode bb_P_read 104 = .ok (.aload_n 1, 1) := by decide +kernel
theorem dd_P_read_105 : decode bb_P_read 105 = .ok (.getfield 59, 3) := by decide +kernel
theorem dd_P_read_108 : decode bb_P_read 108 = .ok (.invokevirtual 44, 3) := by decide +kernel
theorem dd_P_read_111 : decode bb_P_read 111 = .ok (.istore_n 2, 1) := by decide +kernel
theorem dd_P_read_112 : decode bb_P_read 112 = .ok (.iload_n 2, 1) := by decide +kernel
theorem dd_P_read_113 : decode bb_P_read 113 = .ok (.ifCond .eq 19, 3) := by decide +kernel
theorem dd_P_read_116 : decode bb_P_read 116 = .ok (.aload_n 0, 1) := by decide +kernel
theorem dd_P_read_117 : decode bb_P_read 117 = .ok (.invokevirtual 51, 3) := by decide +kernel
theorem dd_P_read_120 : decode bb_P_read 120 = .ok (.ifCond .eq 12, 3) := by decide +kernel
theorem dd_P_read_123 : decode bb_P_read 123 = .ok (.aload_n 0, 1) := by decide +kernel
theorem dd_P_read_124 : decode bb_P_read 124 = .ok (.aload_n 0, 1) := by decide +kernel
theorem dd_P_read_125 : decode bb_P_read 125 = .ok (.getfield 19, 3) := by decide +kernel
theorem dd_P_read_128 : decode bb_P_read 128 = .ok (.invokevirtual 63, 3) := by decide +kernel
theorem dd_P_read_131 : decode bb_P_read 131 = .ok (.istore_n 2, 1) := by decide +kernel
theorem dd_P_read_132 : decode bb_P_read 132 = .ok (.iload_n 2, 1) := by decide +kernel
theorem dd_P_read_133 : decode bb_P_read 133 = .ok (.ifCond .eq 14, 3) := by decide +kernel
theorem dd_P_read_136 : decode bb_P_read 136 = .ok (.aload_n 0, 1) := by decide +kernel
theorem dd_P_read_137 : decode bb_P_read 137 = .ok (.aload_n 1, 1) := by decide +kernel
theorem dd_P_read_138 : decode bb_P_read 138 = .ok (.getfield 48, 3) := by decide +kernel
theorem dd_P_read_141 : decode bb_P_read 141 = .ok (.invokevirtual 67, 3) := by decide +kernel
theorem dd_P_read_144 : decode bb_P_read 144 = .ok (.goto 7, 3) := by decide +kernel
theorem dd_P_read_147 : decode bb_P_read 147 = .ok (.aload_n 0, 1) := by decide +kernel
theorem dd_P_read_148 : decode bb_P_read 148 = .ok (.getfield 22, 3) := by decide +kernel
theorem dd_P_read_151 : decode bb_P_read 151 = .ok (.ireturn, 1) := by decide +kernel
theorem dd_P_startOver_0 : decode bb_P_startOver 0 = .ok (.aload_n 0, 1) := by decide +kernel
theorem dd_P_startOver_1 : decode bb_P_startOver 1 = .ok (.iconst 0, 1) := by decide +kernel
theorem dd_P_startOver_2 : decode bb_P_startOver 2 = .ok (.putfield 19, 3) := by decide +kernel
theorem dd_P_startOver_5 : decode bb_P_startOver 5 = .ok (.aload_n 0, 1) := by decide +kernel
theorem dd_P_startOver_6 : decode bb_P_startOver 6 = .ok (.iconst (-1), 1) := by decide +kernel
theorem dd_P_startOver_7 : decode bb_P_startOver 7 = .ok (.putfield 22, 3) := by decide +kernel
theorem dd_P_startOver_10 : decode bb_P_startOver 10 = .ok (.iconst 0, 1) := by decide +kernel
theorem dd_P_startOver_11 : decode bb_P_startOver 11 = .ok (.istore_n 1, 1) := by decide +kernel
theorem dd_P_startOver_12 : decode bb_P_startOver 12 = .ok (.iload_n 1, 1) := by decide +kernel
theorem dd_P_startOver_13 : decode bb_P_startOver 13 = .ok (.iconst 3, 1) := by decide +kernel
theorem dd_P_startOver_14 : decode bb_P_startOver 14 = .ok (.if_icmp .ge 16, 3) := by decide +kernel
theorem dd_P_startOver_17 : decode bb_P_startOver 17 = .ok (.aload_n 0, 1) := by decide +kernel
theorem dd_P_startOver_18 : decode bb_P_startOver 18 = .ok (.getfield 31, 3) := by decide +kernel
theorem dd_P_startOver_21 : decode bb_P_startOver 21 = .ok (.iload_n 1, 1) := by decide +kernel
theorem dd_P_startOver_22 : decode bb_P_startOver 22 = .ok (.iconst (-1), 1) := by decide +kernel
theorem dd_P_startOver_23 : decode bb_P_startOver 23 = .ok (.iastore, 1) := by decide +kernel
theorem dd_P_startOver_24 : decode bb_P_startOver 24 = .ok (.iinc 1 1, 3) := by decide +kernel
theorem dd_P_startOver_27 : decode bb_P_startOver 27 = .ok (.goto (-15), 3) := by decide +kernel
theorem dd_P_startOver_30 : decode bb_P_startOver 30 = .ok (.return_, 1) := by decide +kernel
theorem dd_P_readEquation_0 : decode bb_P_readEquation 0 = .ok (.aload_n 0, 1) := by decide +kernel
theorem dd_P_readEquation_1 : decode bb_P_readEquation 1 = .ok (.iload_n 1, 1) := by decide +kernel
theorem dd_P_readEquation_2 : decode bb_P_readEquation 2 = .ok (.invokevirtual 71, 3) := by decide +kernel
theorem dd_P_readEquation_5 : decode bb_P_readEquation 5 = .ok (.ifCond .eq 33, 3) := by decide +kernel
theorem dd_P_readEquation_8 : decode bb_P_readEquation 8 = .ok (.aload_n 0, 1) := by decide +kernel
theorem dd_P_readEquation_9 : decode bb_P_readEquation 9 = .ok (.bipush 61, 2) := by decide +kernel
theorem dd_P_readEquation_11 : decode bb_P_readEquation 11 = .ok (.invokevirtual 71, 3) := by decide +kernel
theorem dd_P_readEquation_14 : decode bb_P_readEquation 14 = .ok (.ifCond .eq 24, 3) := by decide +kernel
theorem dd_P_readEquation_17 : decode bb_P_readEquation 17 = .ok (.aload_n 0, 1) := by decide +kernel
theorem dd_P_readEquation_18 : decode bb_P_readEquation 18 = .ok (.aload_n 2, 1) := by decide +kernel
theorem dd_P_readEquation_19 : decode bb_P_readEquation 19 = .ok (.invokevirtual 74, 3) := by decide +kernel
theorem dd_P_readEquation_22 : decode bb_P_readEquation 22 = .ok (.ifCond .eq 16, 3) := by decide +kernel
theorem dd_P_readEquation_25 : decode bb_P_readEquation 25 = .ok (.aload_n 0, 1) := by decide +kernel
theorem dd_P_readEquation_26 : decode bb_P_readEquation 26 = .ok (.bipush 59, 2) := by decide +kernel
theorem dd_P_readEquation_28 : decode bb_P_readEquation 28 = .ok (.invokevirtual 71, 3) := by decide +kernel
theorem dd_P_readEquation_31 : decode bb_P_readEquation 31 = .ok (.ifCond .eq 7, 3) := by decide +kernel
theorem dd_P_readEquation_34 : decode bb_P_readEquation 34 = .ok (.iconst 1, 1) := by decide +kernel
theorem dd_P_readEquation_35 : decode bb_P_readEquation 35 = .ok (.goto 4, 3) := by decide +kernel
theorem dd_P_readEquation_38 : decode bb_P_readEquation 38 = .ok (.iconst 0, 1) := by decide +kernel
theorem dd_P_readEquation_39 : decode bb_P_readEquation 39 = .ok (.ireturn, 1) := by decide +kernel
theorem dd_P_expect_0 : decode bb_P_expect 0 = .ok (.aload_n 0, 1) := by decide +kernel
theorem dd_P_expect_1 : decode bb_P_expect 1 = .ok (.invokevirtual 51, 3) := by decide +kernel
theorem dd_P_expect_4 : decode bb_P_expect 4 = .ok (.iload_n 1, 1) := by decide +kernel
theorem dd_P_expect_5 : decode bb_P_expect 5 = .ok (.if_icmp .eq 12, 3) := by decide +kernel
theorem dd_P_expect_8 : decode bb_P_expect 8 = .ok (.aload_n 0, 1) := by decide +kernel
theorem dd_P_expect_9 : decode bb_P_expect 9 = .ok (.aload_n 0, 1) := by decide +kernel
theorem dd_P_expect_10 : decode bb_P_expect 10 = .ok (.getfield 19, 3) := by decide +kernel
theorem dd_P_expect_13 : decode bb_P_expect 13 = .ok (.invokevirtual 63, 3) := by decide +kernel
theorem dd_P_expect_16 : decode bb_P_expect 16 = .ok (.ireturn, 1) := by decide +kernel
theorem dd_P_expect_17 : decode bb_P_expect 17 = .ok (.aload_n 0, 1) := by decide +kernel
theorem dd_P_expect_18 : decode bb_P_expect 18 = .ok (.dup, 1) := by decide +kernel
theorem dd_P_expect_19 : decode bb_P_expect 19 = .ok (.getfield 19, 3) := by decide +kernel
theorem dd_P_expect_22 : decode bb_P_expect 22 = .ok (.iconst 1, 1) := by decide +kernel
theorem dd_P_expect_23 : decode bb_P_expect 23 = .ok (.iadd, 1) := by decide +kernel
theorem dd_P_expect_24 : decode bb_P_expect 24 = .ok (.putfield 19, 3) := by decide +kernel
theorem dd_P_expect_27 : decode bb_P_expect 27 = .ok (.iconst 1, 1) := by decide +kernel
theorem dd_P_expect_28 : decode bb_P_expect 28 = .ok (.ireturn, 1) := by decide +kernel
theorem dd_P_here_0 : decode bb_P_here 0 = .ok (.aload_n 0, 1) := by decide +kernel
theorem dd_P_here_1 : decode bb_P_here 1 = .ok (.getfield 19, 3) := by decide +kernel
theorem dd_P_here_4 : decode bb_P_here 4 = .ok (.aload_n 0, 1) := by decide +kernel
theorem dd_P_here_5 : decode bb_P_here 5 = .ok (.getfield 15, 3) := by decide +kernel
theorem dd_P_here_8 : decode bb_P_here 8 = .ok (.if_icmp .ge 15, 3) := by decide +kernel
theorem dd_P_here_11 : decode bb_P_here 11 = .ok (.aload_n 0, 1) := by decide +kernel
theorem dd_P_here_12 : decode bb_P_here 12 = .ok (.getfield 9, 3) := by decide +kernel
theorem dd_P_here_15 : decode bb_P_here 15 = .ok (.aload_n 0, 1) := by decide +kernel
theorem dd_P_here_16 : decode bb_P_here 16 = .ok (.getfield 19, 3) := by decide +kernel
theorem dd_P_here_19 : decode bb_P_here 19 = .ok (.baload, 1) := by decide +kernel
theorem dd_P_here_20 : decode bb_P_here 20 = .ok (.goto 4, 3) := by decide +kernel
theorem dd_P_here_23 : decode bb_P_here 23 = .ok (.iconst 0, 1) := by decide +kernel
theorem dd_P_here_24 : decode bb_P_here 24 = .ok (.ireturn, 1) := by decide +kernel
theorem dd_P_faultAt_0 : decode bb_P_faultAt 0 = .ok (.aload_n 0, 1) := by decide +kernel
theorem dd_P_faultAt_1 : decode bb_P_faultAt 1 = .ok (.iload_n 1, 1) := by decide +kernel
theorem dd_P_faultAt_2 : decode bb_P_faultAt 2 = .ok (.putfield 22, 3) := by decide +kernel
theorem dd_P_faultAt_5 : decode bb_P_faultAt 5 = .ok (.iconst 0, 1) := by decide +kernel
theorem dd_P_faultAt_6 : decode bb_P_faultAt 6 = .ok (.ireturn, 1) := by decide +kernel
theorem dd_P_readPolynomial_0 : decode bb_P_readPolynomial 0 = .ok (.aload_n 1, 1) := by decide +kernel
theorem dd_P_readPolynomial_1 : decode bb_P_readPolynomial 1 = .ok (.iconst 0, 1) := by decide +kernel
theorem dd_P_readPolynomial_2 : decode bb_P_readPolynomial 2 = .ok (.putfield 78, 3) := by decide +kernel
theorem dd_P_readPolynomial_5 : decode bb_P_readPolynomial 5 = .ok (.aload_n 0, 1) := by decide +kernel
theorem dd_P_readPolynomial_6 : decode bb_P_readPolynomial 6 = .ok (.invokevirtual 51, 3) := by decide +kernel
theorem dd_P_readPolynomial_9 : decode bb_P_readPolynomial 9 = .ok (.bipush 45, 2) := by decide +kernel
theorem dd_P_readPolynomial_11 : decode bb_P_readPolynomial 11 = .ok (.if_icmp .ne 7, 3) := by decide +kernel
theorem dd_P_readPolynomial_14 : decode bb_P_readPolynomial 14 = .ok (.iconst 1, 1) := by decide +kernel
theorem dd_P_readPolynomial_15 : decode bb_P_readPolynomial 15 = .ok (.goto 4, 3) := by decide +kernel
theorem dd_P_readPolynomial_18 : decode bb_P_readPolynomial 18 = .ok (.iconst 0, 1) := by decide +kernel
theorem dd_P_readPolynomial_19 : decode bb_P_readPolynomial 19 = .ok (.istore_n 2, 1) := by decide +kernel
theorem dd_P_readPolynomial_20 : decode bb_P_readPolynomial 20 = .ok (.iload_n 2, 1) := by decide +kernel
theorem dd_P_readPolynomial_21 : decode bb_P_readPolynomial 21 = .ok (.ifCond .eq 13, 3) := by decide +kernel
theorem dd_P_readPolynomial_24 : decode bb_P_readPolynomial 24 = .ok (.aload_n 0, 1) := by decide +kernel
theorem dd_P_readPolynomial_25 : decode bb_P_readPolynomial 25 = .ok (.dup, 1) := by decide +kernel
theorem dd_P_readPolynomial_26 : decode bb_P_readPolynomial 26 = .ok (.getfield 19, 3) := by decide +kernel
theorem dd_P_readPolynomial_29 : decode bb_P_readPolynomial 29 = .ok (.iconst 1, 1) := by decide +kernel
theorem dd_P_readPolynomial_30 : decode bb_P_readPolynomial 30 = .ok (.iadd, 1) := by decide +kernel
theorem dd_P_readPolynomial_31 : decode bb_P_readPolynomial 31 = .ok (.putfield 19, 3) := by decide +kernel
theorem dd_P_readPolynomial_34 : decode bb_P_readPolynomial 34 = .ok (.iconst 1, 1) := by decide +kernel
theorem dd_P_readPolynomial_35 : decode bb_P_readPolynomial 35 = .ok (.istore_n 3, 1) := by decide +kernel
theorem dd_P_readPolynomial_36 : decode bb_P_readPolynomial 36 = .ok (.iload_n 3, 1) := by decide +kernel
theorem dd_P_readPolynomial_37 : decode bb_P_readPolynomial 37 = .ok (.bipush 12, 2) := by decide +kernel
theorem dd_P_readPolynomial_39 : decode bb_P_readPolynomial 39 = .ok (.if_icmp .gt 65, 3) := by decide +kernel
theorem dd_P_readPolynomial_42 : decode bb_P_readPolynomial 42 = .ok (.aload_n 0, 1) := by decide +kernel
theorem dd_P_readPolynomial_43 : decode bb_P_readPolynomial 43 = .ok (.aload_n 1, 1) := by decide +kernel
theorem dd_P_readPolynomial_44 : decode bb_P_readPolynomial 44 = .ok (.iload_n 2, 1) := by decide +kernel
theorem dd_P_readPolynomial_45 : decode bb_P_readPolynomial 45 = .ok (.invokevirtual 83, 3) := by decide +kernel
theorem dd_P_readPolynomial_48 : decode bb_P_readPolynomial 48 = .ok (.ifCond .ne 5, 3) := by decide +kernel
theorem dd_P_readPolynomial_51 : decode bb_P_readPolynomial 51 = .ok (.iconst 0, 1) := by decide +kernel
theorem dd_P_readPolynomial_52 : decode bb_P_readPolynomial 52 = .ok (.ireturn, 1) := by decide +kernel
theorem dd_P_readPolynomial_53 : decode bb_P_readPolynomial 53 = .ok (.aload_n 0, 1) := by decide +kernel
theorem dd_P_readPolynomial_54 : decode bb_P_readPolynomial 54 = .ok (.invokevirtual 51, 3) := by decide +kernel
theorem dd_P_readPolynomial_57 : decode bb_P_readPolynomial 57 = .ok (.istore 4, 2) := by decide +kernel
theorem dd_P_readPolynomial_59 : decode bb_P_readPolynomial 59 = .ok (.iload 4, 2) := by decide +kernel
theorem dd_P_readPolynomial_61 : decode bb_P_readPolynomial 61 = .ok (.bipush 43, 2) := by decide +kernel
theorem dd_P_readPolynomial_63 : decode bb_P_readPolynomial 63 = .ok (.if_icmp .eq 12, 3) := by decide +kernel
theorem dd_P_readPolynomial_66 : decode bb_P_readPolynomial 66 = .ok (.iload 4, 2) := by decide +kernel
theorem dd_P_readPolynomial_68 : decode bb_P_readPolynomial 68 = .ok (.bipush 45, 2) := by decide +kernel
theorem dd_P_readPolynomial_70 : decode bb_P_readPolynomial 70 = .ok (.if_icmp .eq 5, 3) := by decide +kernel
theorem dd_P_readPolynomial_73 : decode bb_P_readPolynomial 73 = .ok (.iconst 1, 1) := by decide +kernel
theorem dd_P_readPolynomial_74 : decode bb_P_readPolynomial 74 = .ok (.ireturn, 1) := by decide +kernel
theorem dd_P_readPolynomial_75 : decode bb_P_readPolynomial 75 = .ok (.iload 4, 2) := by decide +kernel
theorem dd_P_readPolynomial_77 : decode bb_P_readPolynomial 77 = .ok (.bipush 45, 2) := by decide +kernel
theorem dd_P_readPolynomial_79 : decode bb_P_readPolynomial 79 = .ok (.if_icmp .ne 7, 3) := by decide +kernel
theorem dd_P_readPolynomial_82 : decode bb_P_readPolynomial 82 = .ok (.iconst 1, 1) := by decide +kernel
theorem dd_P_readPolynomial_83 : decode bb_P_readPolynomial 83 = .ok (.goto 4, 3) := by decide +kernel
theorem dd_P_readPolynomial_86 : decode bb_P_readPolynomial 86 = .ok (.iconst 0, 1) := by decide +kernel
theorem dd_P_readPolynomial_87 : decode bb_P_readPolynomial 87 = .ok (.istore_n 2, 1) := by decide +kernel
theorem dd_P_readPolynomial_88 : decode bb_P_readPolynomial 88 = .ok (.aload_n 0, 1) := by decide +kernel
theorem dd_P_readPolynomial_89 : decode bb_P_readPolynomial 89 = .ok (.dup, 1) := by decide +kernel
theorem dd_P_readPolynomial_90 : decode bb_P_readPolynomial 90 = .ok (.getfield 19, 3) := by decide +kernel
theorem dd_P_readPolynomial_93 : decode bb_P_readPolynomial 93 = .ok (.iconst 1, 1) := by decide +kernel
theorem dd_P_readPolynomial_94 : decode bb_P_readPolynomial 94 = .ok (.iadd, 1) := by decide +kernel
theorem dd_P_readPolynomial_95 : decode bb_P_readPolynomial 95 = .ok (.putfield 19, 3) := by decide +kernel
theorem dd_P_readPolynomial_98 : decode bb_P_readPolynomial 98 = .ok (.iinc 3 1, 3) := by decide +kernel
theorem dd_P_readPolynomial_101 : decode bb_P_readPolynomial 101 = .ok (.goto (-65), 3) := by decide +kernel
theorem dd_P_readPolynomial_104 : decode bb_P_readPolynomial 104 = .ok (.aload_n 0, 1) := by decide +kernel
theorem dd_P_readPolynomial_105 : decode bb_P_readPolynomial 105 = .ok (.aload_n 0, 1) := by decide +kernel
theorem dd_P_readPolynomial_106 : decode bb_P_readPolynomial 106 = .ok (.getfield 19, 3) := by decide +kernel
theorem dd_P_readPolynomial_109 : decode bb_P_readPolynomial 109 = .ok (.iconst 1, 1) := by decide +kernel
theorem dd_P_readPolynomial_110 : decode bb_P_readPolynomial 110 = .ok (.isub, 1) := by decide +kernel
theorem dd_P_readPolynomial_111 : decode bb_P_readPolynomial 111 = .ok (.invokevirtual 63, 3) := by decide +kernel
theorem dd_P_readPolynomial_114 : decode bb_P_readPolynomial 114 = .ok (.ireturn, 1) := by decide +kernel
theorem dd_P_readTerm_0 : decode bb_P_readTerm 0 = .ok (.aload_n 0, 1) := by decide +kernel
theorem dd_P_readTerm_1 : decode bb_P_readTerm 1 = .ok (.iconst 1, 1) := by decide +kernel
theorem dd_P_readTerm_2 : decode bb_P_readTerm 2 = .ok (.putfield 25, 3) := by decide +kernel
theorem dd_P_readTerm_5 : decode bb_P_readTerm 5 = .ok (.aload_n 0, 1) := by decide +kernel
theorem dd_P_readTerm_6 : decode bb_P_readTerm 6 = .ok (.iconst 1, 1) := by decide +kernel
theorem dd_P_readTerm_7 : decode bb_P_readTerm 7 = .ok (.putfield 28, 3) := by decide +kernel
theorem dd_P_readTerm_10 : decode bb_P_readTerm 10 = .ok (.aload_n 0, 1) := by decide +kernel
theorem dd_P_readTerm_11 : decode bb_P_readTerm 11 = .ok (.invokevirtual 51, 3) := by decide +kernel
theorem dd_P_readTerm_14 : decode bb_P_readTerm 14 = .ok (.invokestatic 87, 3) := by decide +kernel
theorem dd_P_readTerm_17 : decode bb_P_readTerm 17 = .ok (.istore_n 3, 1) := by decide +kernel
theorem dd_P_readTerm_18 : decode bb_P_readTerm 18 = .ok (.iload_n 3, 1) := by decide +kernel
theorem dd_P_readTerm_19 : decode bb_P_readTerm 19 = .ok (.ifCond .eq 12, 3) := by decide +kernel
theorem dd_P_readTerm_22 : decode bb_P_readTerm 22 = .ok (.aload_n 0, 1) := by decide +kernel
theorem dd_P_readTerm_23 : decode bb_P_readTerm 23 = .ok (.invokevirtual 90, 3) := by decide +kernel
theorem dd_P_readTerm_26 : decode bb_P_readTerm 26 = .ok (.ifCond .ne 5, 3) := by decide +kernel
theorem dd_P_readTerm_29 : decode bb_P_readTerm 29 = .ok (.iconst 0, 1) := by decide +kernel
theorem dd_P_readTerm_30 : decode bb_P_readTerm 30 = .ok (.ireturn, 1) := by decide +kernel
theorem dd_P_readTerm_31 : decode bb_P_readTerm 31 = .ok (.iload_n 3, 1) := by decide +kernel
theorem dd_P_readTerm_32 : decode bb_P_readTerm 32 = .ok (.ifCond .ne 20, 3) := by decide +kernel
theorem dd_P_readTerm_35 : decode bb_P_readTerm 35 = .ok (.aload_n 0, 1) := by decide +kernel
theorem dd_P_readTerm_36 : decode bb_P_readTerm 36 = .ok (.invokevirtual 94, 3) := by decide +kernel
theorem dd_P_readTerm_39 : decode bb_P_readTerm 39 = .ok (.iconst (-1), 1) := by decide +kernel
theorem dd_P_readTerm_40 : decode bb_P_readTerm 40 = .ok (.if_icmp .ne 12, 3) := by decide +kernel
theorem dd_P_readTerm_43 : decode bb_P_readTerm 43 = .ok (.aload_n 0, 1) := by decide +kernel
theorem dd_P_readTerm_44 : decode bb_P_readTerm 44 = .ok (.aload_n 0, 1) := by decide +kernel
theorem dd_P_readTerm_45 : decode bb_P_readTerm 45 = .ok (.getfield 19, 3) := by decide +kernel
theorem dd_P_readTerm_48 : decode bb_P_readTerm 48 = .ok (.invokevirtual 63, 3) := by decide +kernel
theorem dd_P_readTerm_51 : decode bb_P_readTerm 51 = .ok (.ireturn, 1) := by decide +kernel
theorem dd_P_readTerm_52 : decode bb_P_readTerm 52 = .ok (.aload_n 1, 1) := by decide +kernel
theorem dd_P_readTerm_53 : decode bb_P_readTerm 53 = .ok (.aload_n 0, 1) := by decide +kernel
theorem dd_P_readTerm_54 : decode bb_P_readTerm 54 = .ok (.getfield 25, 3) := by decide +kernel
theorem dd_P_readTerm_57 : decode bb_P_readTerm 57 = .ok (.aload_n 0, 1) := by decide +kernel
theorem dd_P_readTerm_58 : decode bb_P_readTerm 58 = .ok (.getfield 28, 3) := by decide +kernel
theorem dd_P_readTerm_61 : decode bb_P_readTerm 61 = .ok (.iload_n 2, 1) := by decide +kernel
theorem dd_P_readTerm_62 : decode bb_P_readTerm 62 = .ok (.invokevirtual 97, 3) := by decide +kernel
theorem dd_P_readTerm_65 : decode bb_P_readTerm 65 = .ok (.aload_n 0, 1) := by decide +kernel
theorem dd_P_readTerm_66 : decode bb_P_readTerm 66 = .ok (.aload_n 1, 1) := by decide +kernel
theorem dd_P_readTerm_67 : decode bb_P_readTerm 67 = .ok (.invokevirtual 101, 3) := by decide +kernel
theorem dd_P_readTerm_70 : decode bb_P_readTerm 70 = .ok (.ireturn, 1) := by decide +kernel
theorem dd_P_isDigit_0 : decode bb_P_isDigit 0 = .ok (.iload_n 0, 1) := by decide +kernel
theorem dd_P_isDigit_1 : decode bb_P_isDigit 1 = .ok (.bipush 48, 2) := by decide +kernel
theorem dd_P_isDigit_3 : decode bb_P_isDigit 3 = .ok (.if_icmp .lt 13, 3) := by decide +kernel
theorem dd_P_isDigit_6 : decode bb_P_isDigit 6 = .ok (.iload_n 0, 1) := by decide +kernel
theorem dd_P_isDigit_7 : decode bb_P_isDigit 7 = .ok (.bipush 57, 2) := by decide +kernel
theorem dd_P_isDigit_9 : decode bb_P_isDigit 9 = .ok (.if_icmp .gt 7, 3) := by decide +kernel
theorem dd_P_isDigit_12 : decode bb_P_isDigit 12 = .ok (.iconst 1, 1) := by decide +kernel
theorem dd_P_isDigit_13 : decode bb_P_isDigit 13 = .ok (.goto 4, 3) := by decide +kernel
theorem dd_P_isDigit_16 : decode bb_P_isDigit 16 = .ok (.iconst 0, 1) := by decide +kernel
theorem dd_P_isDigit_17 : decode bb_P_isDigit 17 = .ok (.ireturn, 1) := by decide +kernel
theorem dd_P_readNumber_0 : decode bb_P_readNumber 0 = .ok (.aload_n 0, 1) := by decide +kernel
theorem dd_P_readNumber_1 : decode bb_P_readNumber 1 = .ok (.aload_n 0, 1) := by decide +kernel
theorem dd_P_readNumber_2 : decode bb_P_readNumber 2 = .ok (.iconst 3, 1) := by decide +kernel
theorem dd_P_readNumber_3 : decode bb_P_readNumber 3 = .ok (.invokevirtual 104, 3) := by decide +kernel
theorem dd_P_readNumber_6 : decode bb_P_readNumber 6 = .ok (.putfield 25, 3) := by decide +kernel
theorem dd_P_readNumber_9 : decode bb_P_readNumber 9 = .ok (.aload_n 0, 1) := by decide +kernel
theorem dd_P_readNumber_10 : decode bb_P_readNumber 10 = .ok (.invokevirtual 51, 3) := by decide +kernel
theorem dd_P_readNumber_13 : decode bb_P_readNumber 13 = .ok (.bipush 47, 2) := by decide +kernel
theorem dd_P_readNumber_15 : decode bb_P_readNumber 15 = .ok (.if_icmp .eq 5, 3) := by decide +kernel
theorem dd_P_readNumber_18 : decode bb_P_readNumber 18 = .ok (.iconst 1, 1) := by decide +kernel
theorem dd_P_readNumber_19 : decode bb_P_readNumber 19 = .ok (.ireturn, 1) := by decide +kernel
theorem dd_P_readNumber_20 : decode bb_P_readNumber 20 = .ok (.aload_n 0, 1) := by decide +kernel
theorem dd_P_readNumber_21 : decode bb_P_readNumber 21 = .ok (.dup, 1) := by decide +kernel
theorem dd_P_readNumber_22 : decode bb_P_readNumber 22 = .ok (.getfield 19, 3) := by decide +kernel
theorem dd_P_readNumber_25 : decode bb_P_readNumber 25 = .ok (.iconst 1, 1) := by decide +kernel
theorem dd_P_readNumber_26 : decode bb_P_readNumber 26 = .ok (.iadd, 1) := by decide +kernel
theorem dd_P_readNumber_27 : decode bb_P_readNumber 27 = .ok (.putfield 19, 3) := by decide +kernel
theorem dd_P_readNumber_30 : decode bb_P_readNumber 30 = .ok (.aload_n 0, 1) := by decide +kernel
theorem dd_P_readNumber_31 : decode bb_P_readNumber 31 = .ok (.getfield 19, 3) := by decide +kernel
theorem dd_P_readNumber_34 : decode bb_P_readNumber 34 = .ok (.istore_n 1, 1) := by decide +kernel
theorem dd_P_readNumber_35 : decode bb_P_readNumber 35 = .ok (.aload_n 0, 1) := by decide +kernel
theorem dd_P_readNumber_36 : decode bb_P_readNumber 36 = .ok (.invokevirtual 51, 3) := by decide +kernel
theorem dd_P_readNumber_39 : decode bb_P_readNumber 39 = .ok (.invokestatic 87, 3) := by decide +kernel
theorem dd_P_readNumber_42 : decode bb_P_readNumber 42 = .ok (.ifCond .ne 12, 3) := by decide +kernel
theorem dd_P_readNumber_45 : decode bb_P_readNumber 45 = .ok (.aload_n 0, 1) := by decide +kernel
theorem dd_P_readNumber_46 : decode bb_P_readNumber 46 = .ok (.aload_n 0, 1) := by decide +kernel
theorem dd_P_readNumber_47 : decode bb_P_readNumber 47 = .ok (.getfield 19, 3) := by decide +kernel
theorem dd_P_readNumber_50 : decode bb_P_readNumber 50 = .ok (.invokevirtual 63, 3) := by decide +kernel
theorem dd_P_readNumber_53 : decode bb_P_readNumber 53 = .ok (.ireturn, 1) := by decide +kernel
theorem dd_P_readNumber_54 : decode bb_P_readNumber 54 = .ok (.aload_n 0, 1) := by decide +kernel
theorem dd_P_readNumber_55 : decode bb_P_readNumber 55 = .ok (.aload_n 0, 1) := by decide +kernel
theorem dd_P_readNumber_56 : decode bb_P_readNumber 56 = .ok (.iconst 2, 1) := by decide +kernel
theorem dd_P_readNumber_57 : decode bb_P_readNumber 57 = .ok (.invokevirtual 104, 3) := by decide +kernel
theorem dd_P_readNumber_60 : decode bb_P_readNumber 60 = .ok (.putfield 28, 3) := by decide +kernel
theorem dd_P_readNumber_63 : decode bb_P_readNumber 63 = .ok (.aload_n 0, 1) := by decide +kernel
theorem dd_P_readNumber_64 : decode bb_P_readNumber 64 = .ok (.getfield 28, 3) := by decide +kernel
theorem dd_P_readNumber_67 : decode bb_P_readNumber 67 = .ok (.ifCond .ne 11, 3) := by decide +kernel
theorem dd_P_readNumber_70 : decode bb_P_readNumber 70 = .ok (.aload_n 0, 1) := by decide +kernel
theorem dd_P_readNumber_71 : decode bb_P_readNumber 71 = .ok (.iload_n 1, 1) := by decide +kernel
theorem dd_P_readNumber_72 : decode bb_P_readNumber 72 = .ok (.invokevirtual 63, 3) := by decide +kernel
theorem dd_P_readNumber_75 : decode bb_P_readNumber 75 = .ok (.ifCond .eq 7, 3) := by decide +kernel
theorem dd_P_readNumber_78 : decode bb_P_readNumber 78 = .ok (.iconst 1, 1) := by decide +kernel
theorem dd_P_readNumber_79 : decode bb_P_readNumber 79 = .ok (.goto 4, 3) := by decide +kernel
theorem dd_P_readNumber_82 : decode bb_P_readNumber 82 = .ok (.iconst 0, 1) := by decide +kernel
theorem dd_P_readNumber_83 : decode bb_P_readNumber 83 = .ok (.ireturn, 1) := by decide +kernel
theorem dd_P_readDigits_0 : decode bb_P_readDigits 0 = .ok (.iconst 0, 1) := by decide +kernel
theorem dd_P_readDigits_1 : decode bb_P_readDigits 1 = .ok (.istore_n 2, 1) := by decide +kernel
theorem dd_P_readDigits_2 : decode bb_P_readDigits 2 = .ok (.iconst 0, 1) := by decide +kernel
theorem dd_P_readDigits_3 : decode bb_P_readDigits 3 = .ok (.istore_n 3, 1) := by decide +kernel
theorem dd_P_readDigits_4 : decode bb_P_readDigits 4 = .ok (.iload_n 3, 1) := by decide +kernel
theorem dd_P_readDigits_5 : decode bb_P_readDigits 5 = .ok (.iload_n 1, 1) := by decide +kernel
theorem dd_P_readDigits_6 : decode bb_P_readDigits 6 = .ok (.if_icmp .ge 52, 3) := by decide +kernel
theorem dd_P_readDigits_9 : decode bb_P_readDigits 9 = .ok (.aload_n 0, 1) := by decide +kernel
theorem dd_P_readDigits_10 : decode bb_P_readDigits 10 = .ok (.invokevirtual 51, 3) := by decide +kernel
theorem dd_P_readDigits_13 : decode bb_P_readDigits 13 = .ok (.istore 4, 2) := by decide +kernel
theorem dd_P_readDigits_15 : decode bb_P_readDigits 15 = .ok (.iload 4, 2) := by decide +kernel
theorem dd_P_readDigits_17 : decode bb_P_readDigits 17 = .ok (.bipush 48, 2) := by decide +kernel
theorem dd_P_readDigits_19 : decode bb_P_readDigits 19 = .ok (.if_icmp .lt 10, 3) := by decide +kernel
theorem dd_P_readDigits_22 : decode bb_P_readDigits 22 = .ok (.iload 4, 2) := by decide +kernel
theorem dd_P_readDigits_24 : decode bb_P_readDigits 24 = .ok (.bipush 57, 2) := by decide +kernel
theorem dd_P_readDigits_26 : decode bb_P_readDigits 26 = .ok (.if_icmp .le 5, 3) := by decide +kernel
theorem dd_P_readDigits_29 : decode bb_P_readDigits 29 = .ok (.iload_n 2, 1) := by decide +kernel
theorem dd_P_readDigits_30 : decode bb_P_readDigits 30 = .ok (.ireturn, 1) := by decide +kernel
theorem dd_P_readDigits_31 : decode bb_P_readDigits 31 = .ok (.iload_n 2, 1) := by decide +kernel
theorem dd_P_readDigits_32 : decode bb_P_readDigits 32 = .ok (.bipush 10, 2) := by decide +kernel
theorem dd_P_readDigits_34 : decode bb_P_readDigits 34 = .ok (.imul, 1) := by decide +kernel
theorem dd_P_readDigits_35 : decode bb_P_readDigits 35 = .ok (.iload 4, 2) := by decide +kernel
theorem dd_P_readDigits_37 : decode bb_P_readDigits 37 = .ok (.bipush 48, 2) := by decide +kernel
theorem dd_P_readDigits_39 : decode bb_P_readDigits 39 = .ok (.isub, 1) := by decide +kernel
theorem dd_P_readDigits_40 : decode bb_P_readDigits 40 = .ok (.iadd, 1) := by decide +kernel
theorem dd_P_readDigits_41 : decode bb_P_readDigits 41 = .ok (.istore_n 2, 1) := by decide +kernel
theorem dd_P_readDigits_42 : decode bb_P_readDigits 42 = .ok (.aload_n 0, 1) := by decide +kernel
theorem dd_P_readDigits_43 : decode bb_P_readDigits 43 = .ok (.dup, 1) := by decide +kernel
theorem dd_P_readDigits_44 : decode bb_P_readDigits 44 = .ok (.getfield 19, 3) := by decide +kernel
theorem dd_P_readDigits_47 : decode bb_P_readDigits 47 = .ok (.iconst 1, 1) := by decide +kernel
theorem dd_P_readDigits_48 : decode bb_P_readDigits 48 = .ok (.iadd, 1) := by decide +kernel
theorem dd_P_readDigits_49 : decode bb_P_readDigits 49 = .ok (.putfield 19, 3) := by decide +kernel
theorem dd_P_readDigits_52 : decode bb_P_readDigits 52 = .ok (.iinc 3 1, 3) := by decide +kernel
theorem dd_P_readDigits_55 : decode bb_P_readDigits 55 = .ok (.goto (-51), 3) := by decide +kernel
theorem dd_P_readDigits_58 : decode bb_P_readDigits 58 = .ok (.iload_n 2, 1) := by decide +kernel
theorem dd_P_readDigits_59 : decode bb_P_readDigits 59 = .ok (.ireturn, 1) := by decide +kernel
theorem dd_P_letterHere_0 : decode bb_P_letterHere 0 = .ok (.aload_n 0, 1) := by decide +kernel
theorem dd_P_letterHere_1 : decode bb_P_letterHere 1 = .ok (.invokevirtual 51, 3) := by decide +kernel
theorem dd_P_letterHere_4 : decode bb_P_letterHere 4 = .ok (.bipush 120, 2) := by decide +kernel
theorem dd_P_letterHere_6 : decode bb_P_letterHere 6 = .ok (.isub, 1) := by decide +kernel
theorem dd_P_letterHere_7 : decode bb_P_letterHere 7 = .ok (.istore_n 1, 1) := by decide +kernel
theorem dd_P_letterHere_8 : decode bb_P_letterHere 8 = .ok (.iload_n 1, 1) := by decide +kernel
theorem dd_P_letterHere_9 : decode bb_P_letterHere 9 = .ok (.ifCond .lt 12, 3) := by decide +kernel
theorem dd_P_letterHere_12 : decode bb_P_letterHere 12 = .ok (.iload_n 1, 1) := by decide +kernel
theorem dd_P_letterHere_13 : decode bb_P_letterHere 13 = .ok (.iconst 3, 1) := by decide +kernel
theorem dd_P_letterHere_14 : decode bb_P_letterHere 14 = .ok (.if_icmp .ge 7, 3) := by decide +kernel
theorem dd_P_letterHere_17 : decode bb_P_letterHere 17 = .ok (.iload_n 1, 1) := by decide +kernel
theorem dd_P_letterHere_18 : decode bb_P_letterHere 18 = .ok (.goto 4, 3) := by decide +kernel
theorem dd_P_letterHere_21 : decode bb_P_letterHere 21 = .ok (.iconst (-1), 1) := by decide +kernel
theorem dd_P_letterHere_22 : decode bb_P_letterHere 22 = .ok (.ireturn, 1) := by decide +kernel
theorem dd_Y_addTerm_0 : decode bb_Y_addTerm 0 = .ok (.iload_n 1, 1) := by decide +kernel
theorem dd_Y_addTerm_1 : decode bb_Y_addTerm 1 = .ok (.i2l, 1) := by decide +kernel
theorem dd_Y_addTerm_2 : decode bb_Y_addTerm 2 = .ok (.ldc2_w 28, 3) := by decide +kernel
theorem dd_Y_addTerm_5 : decode bb_Y_addTerm 5 = .ok (.lmul, 1) := by decide +kernel
theorem dd_Y_addTerm_6 : decode bb_Y_addTerm 6 = .ok (.iload_n 2, 1) := by decide +kernel
theorem dd_Y_addTerm_7 : decode bb_Y_addTerm 7 = .ok (.i2l, 1) := by decide +kernel
theorem dd_Y_addTerm_8 : decode bb_Y_addTerm 8 = .ok (.invokestatic 30, 3) := by decide +kernel
theorem dd_Y_addTerm_11 : decode bb_Y_addTerm 11 = .ok (.lstore 4, 2) := by decide +kernel
theorem dd_Y_addTerm_13 : decode bb_Y_addTerm 13 = .ok (.iload_n 1, 1) := by decide +kernel
theorem dd_Y_addTerm_14 : decode bb_Y_addTerm 14 = .ok (.ineg, 1) := by decide +kernel
theorem dd_Y_addTerm_15 : decode bb_Y_addTerm 15 = .ok (.i2l, 1) := by decide +kernel
theorem dd_Y_addTerm_16 : decode bb_Y_addTerm 16 = .ok (.ldc2_w 28, 3) := by decide +kernel
theorem dd_Y_addTerm_19 : decode bb_Y_addTerm 19 = .ok (.lmul, 1) := by decide +kernel
theorem dd_Y_addTerm_20 : decode bb_Y_addTerm 20 = .ok (.iload_n 2, 1) := by decide +kernel
theorem dd_Y_addTerm_21 : decode bb_Y_addTerm 21 = .ok (.i2l, 1) := by decide +kernel
theorem dd_Y_addTerm_22 : decode bb_Y_addTerm 22 = .ok (.invokestatic 30, 3) := by decide +kernel
theorem dd_Y_addTerm_25 : decode bb_Y_addTerm 25 = .ok (.lneg, 1) := by decide +kernel
theorem dd_Y_addTerm_26 : decode bb_Y_addTerm 26 = .ok (.lstore 6, 2) := by decide +kernel
theorem dd_Y_addTerm_28 : decode bb_Y_addTerm 28 = .ok (.aload_n 0, 1) := by decide +kernel
theorem dd_Y_addTerm_29 : decode bb_Y_addTerm 29 = .ok (.getfield 14, 3) := by decide +kernel
theorem dd_Y_addTerm_32 : decode bb_Y_addTerm 32 = .ok (.getfield 36, 3) := by decide +kernel
theorem dd_Y_addTerm_35 : decode bb_Y_addTerm 35 = .ok (.aload_n 0, 1) := by decide +kernel
theorem dd_Y_addTerm_36 : decode bb_Y_addTerm 36 = .ok (.getfield 24, 3) := by decide +kernel
theorem dd_Y_addTerm_39 : decode bb_Y_addTerm 39 = .ok (.iload_n 3, 1) := by decide +kernel
theorem dd_Y_addTerm_40 : decode bb_Y_addTerm 40 = .ok (.ifCond .eq 9, 3) := by decide +kernel
theorem dd_Y_addTerm_43 : decode bb_Y_addTerm 43 = .ok (.lload 6, 2) := by decide +kernel
theorem dd_Y_addTerm_45 : decode bb_Y_addTerm 45 = .ok (.lneg, 1) := by decide +kernel
theorem dd_Y_addTerm_46 : decode bb_Y_addTerm 46 = .ok (.goto 5, 3) := by decide +kernel
theorem dd_Y_addTerm_49 : decode bb_Y_addTerm 49 = .ok (.lload 4, 2) := by decide +kernel
theorem dd_Y_addTerm_51 : decode bb_Y_addTerm 51 = .ok (.lastore, 1) := by decide +kernel
theorem dd_Y_addTerm_52 : decode bb_Y_addTerm 52 = .ok (.aload_n 0, 1) := by decide +kernel
theorem dd_Y_addTerm_53 : decode bb_Y_addTerm 53 = .ok (.getfield 14, 3) := by decide +kernel
theorem dd_Y_addTerm_56 : decode bb_Y_addTerm 56 = .ok (.getfield 40, 3) := by decide +kernel
theorem dd_Y_addTerm_59 : decode bb_Y_addTerm 59 = .ok (.aload_n 0, 1) := by decide +kernel
theorem dd_Y_addTerm_60 : decode bb_Y_addTerm 60 = .ok (.getfield 24, 3) := by decide +kernel
theorem dd_Y_addTerm_63 : decode bb_Y_addTerm 63 = .ok (.iload_n 3, 1) := by decide +kernel
theorem dd_Y_addTerm_64 : decode bb_Y_addTerm 64 = .ok (.ifCond .eq 9, 3) := by decide +kernel
theorem dd_Y_addTerm_67 : decode bb_Y_addTerm 67 = .ok (.lload 4, 2) := by decide +kernel
theorem dd_Y_addTerm_69 : decode bb_Y_addTerm 69 = .ok (.lneg, 1) := by decide +kernel
theorem dd_Y_addTerm_70 : decode bb_Y_addTerm 70 = .ok (.goto 5, 3) := by decide +kernel
theorem dd_Y_addTerm_73 : decode bb_Y_addTerm 73 = .ok (.lload 6, 2) := by decide +kernel
theorem dd_Y_addTerm_75 : decode bb_Y_addTerm 75 = .ok (.lastore, 1) := by decide +kernel
theorem dd_Y_addTerm_76 : decode bb_Y_addTerm 76 = .ok (.iconst 0, 1) := by decide +kernel
theorem dd_Y_addTerm_77 : decode bb_Y_addTerm 77 = .ok (.istore 8, 2) := by decide +kernel
theorem dd_Y_addTerm_79 : decode bb_Y_addTerm 79 = .ok (.iload 8, 2) := by decide +kernel
theorem dd_Y_addTerm_81 : decode bb_Y_addTerm 81 = .ok (.iconst 3, 1) := by decide +kernel
theorem dd_Y_addTerm_82 : decode bb_Y_addTerm 82 = .ok (.if_icmp .ge 24, 3) := by decide +kernel
theorem dd_Y_addTerm_85 : decode bb_Y_addTerm 85 = .ok (.aload_n 0, 1) := by decide +kernel
theorem dd_Y_addTerm_86 : decode bb_Y_addTerm 86 = .ok (.getfield 20, 3) := by decide +kernel
theorem dd_Y_addTerm_89 : decode bb_Y_addTerm 89 = .ok (.aload_n 0, 1) := by decide +kernel
theorem dd_Y_addTerm_90 : decode bb_Y_addTerm 90 = .ok (.getfield 24, 3) := by decide +kernel
theorem dd_Y_addTerm_93 : decode bb_Y_addTerm 93 = .ok (.iconst 3, 1) := by decide +kernel
theorem dd_Y_addTerm_94 : decode bb_Y_addTerm 94 = .ok (.imul, 1) := by decide +kernel
theorem dd_Y_addTerm_95 : decode bb_Y_addTerm 95 = .ok (.iload 8, 2) := by decide +kernel
theorem dd_Y_addTerm_97 : decode bb_Y_addTerm 97 = .ok (.iadd, 1) := by decide +kernel
theorem dd_Y_addTerm_98 : decode bb_Y_addTerm 98 = .ok (.iconst 0, 1) := by decide +kernel
theorem dd_Y_addTerm_99 : decode bb_Y_addTerm 99 = .ok (.iastore, 1) := by decide +kernel
theorem dd_Y_addTerm_100 : decode bb_Y_addTerm 100 = .ok (.iinc 8 1, 3) := by decide +kernel
theorem dd_Y_addTerm_103 : decode bb_Y_addTerm 103 = .ok (.goto (-24), 3) := by decide +kernel
theorem dd_Y_addTerm_106 : decode bb_Y_addTerm 106 = .ok (.aload_n 0, 1) := by decide +kernel
theorem dd_Y_addTerm_107 : decode bb_Y_addTerm 107 = .ok (.dup, 1) := by decide +kernel
theorem dd_Y_addTerm_108 : decode bb_Y_addTerm 108 = .ok (.getfield 24, 3) := by decide +kernel
theorem dd_Y_addTerm_111 : decode bb_Y_addTerm 111 = .ok (.iconst 1, 1) := by decide +kernel
theorem dd_Y_addTerm_112 : decode bb_Y_addTerm 112 = .ok (.iadd, 1) := by decide +kernel
theorem dd_Y_addTerm_113 : decode bb_Y_addTerm 113 = .ok (.putfield 24, 3) := by decide +kernel
theorem dd_Y_addTerm_116 : decode bb_Y_addTerm 116 = .ok (.return_, 1) := by decide +kernel
theorem dd_J_floorDiv_0 : decode bb_J_floorDiv 0 = .ok (.lload_n 0, 1) := by decide +kernel
theorem dd_J_floorDiv_1 : decode bb_J_floorDiv 1 = .ok (.lload_n 2, 1) := by decide +kernel
theorem dd_J_floorDiv_2 : decode bb_J_floorDiv 2 = .ok (.ldiv, 1) := by decide +kernel
theorem dd_J_floorDiv_3 : decode bb_J_floorDiv 3 = .ok (.lstore 4, 2) := by decide +kernel
theorem dd_J_floorDiv_5 : decode bb_J_floorDiv 5 = .ok (.lload_n 0, 1) := by decide +kernel
theorem dd_J_floorDiv_6 : decode bb_J_floorDiv 6 = .ok (.lload_n 2, 1) := by decide +kernel
theorem dd_J_floorDiv_7 : decode bb_J_floorDiv 7 = .ok (.lxor, 1) := by decide +kernel
theorem dd_J_floorDiv_8 : decode bb_J_floorDiv 8 = .ok (.lconst 0, 1) := by decide +kernel
theorem dd_J_floorDiv_9 : decode bb_J_floorDiv 9 = .ok (.lcmp, 1) := by decide +kernel
theorem dd_J_floorDiv_10 : decode bb_J_floorDiv 10 = .ok (.ifCond .ge 17, 3) := by decide +kernel
theorem dd_J_floorDiv_13 : decode bb_J_floorDiv 13 = .ok (.lload 4, 2) := by decide +kernel
theorem dd_J_floorDiv_15 : decode bb_J_floorDiv 15 = .ok (.lload_n 2, 1) := by decide +kernel
theorem dd_J_floorDiv_16 : decode bb_J_floorDiv 16 = .ok (.lmul, 1) := by decide +kernel
theorem dd_J_floorDiv_17 : decode bb_J_floorDiv 17 = .ok (.lload_n 0, 1) := by decide +kernel
theorem dd_J_floorDiv_18 : decode bb_J_floorDiv 18 = .ok (.lcmp, 1) := by decide +kernel
theorem dd_J_floorDiv_19 : decode bb_J_floorDiv 19 = .ok (.ifCond .eq 8, 3) := by decide +kernel
theorem dd_J_floorDiv_22 : decode bb_J_floorDiv 22 = .ok (.lload 4, 2) := by decide +kernel
theorem dd_J_floorDiv_24 : decode bb_J_floorDiv 24 = .ok (.lconst 1, 1) := by decide +kernel
theorem dd_J_floorDiv_25 : decode bb_J_floorDiv 25 = .ok (.lsub, 1) := by decide +kernel
theorem dd_J_floorDiv_26 : decode bb_J_floorDiv 26 = .ok (.lreturn, 1) := by decide +kernel
theorem dd_J_floorDiv_27 : decode bb_J_floorDiv 27 = .ok (.lload 4, 2) := by decide +kernel
theorem dd_J_floorDiv_29 : decode bb_J_floorDiv 29 = .ok (.lreturn, 1) := by decide +kernel
theorem dd_P_readFactors_0 : decode bb_P_readFactors 0 = .ok (.bipush 6, 2) := by decide +kernel
theorem dd_P_readFactors_2 : decode bb_P_readFactors 2 = .ok (.istore_n 2, 1) := by decide +kernel
theorem dd_P_readFactors_3 : decode bb_P_readFactors 3 = .ok (.iconst 0, 1) := by decide +kernel
theorem dd_P_readFactors_4 : decode bb_P_readFactors 4 = .ok (.istore_n 3, 1) := by decide +kernel
theorem dd_P_readFactors_5 : decode bb_P_readFactors 5 = .ok (.iload_n 3, 1) := by decide +kernel
theorem dd_P_readFactors_6 : decode bb_P_readFactors 6 = .ok (.bipush 6, 2) := by decide +kernel
theorem dd_P_readFactors_8 : decode bb_P_readFactors 8 = .ok (.if_icmp .gt 80, 3) := by decide +kernel
theorem dd_P_readFactors_11 : decode bb_P_readFactors 11 = .ok (.aload_n 0, 1) := by decide +kernel
theorem dd_P_readFactors_12 : decode bb_P_readFactors 12 = .ok (.invokevirtual 94, 3) := by decide +kernel
theorem dd_P_readFactors_15 : decode bb_P_readFactors 15 = .ok (.istore 4, 2) := by decide +kernel
theorem dd_P_readFactors_17 : decode bb_P_readFactors 17 = .ok (.iload 4, 2) := by decide +kernel
theorem dd_P_readFactors_19 : decode bb_P_readFactors 19 = .ok (.iconst (-1), 1) := by decide +kernel
theorem dd_P_readFactors_20 : decode bb_P_readFactors 20 = .ok (.if_icmp .ne 5, 3) := by decide +kernel
theorem dd_P_readFactors_23 : decode bb_P_readFactors 23 = .ok (.iconst 1, 1) := by decide +kernel
theorem dd_P_readFactors_24 : decode bb_P_readFactors 24 = .ok (.ireturn, 1) := by decide +kernel
theorem dd_P_readFactors_25 : decode bb_P_readFactors 25 = .ok (.iload_n 2, 1) := by decide +kernel
theorem dd_P_readFactors_26 : decode bb_P_readFactors 26 = .ok (.ifCond .ne 12, 3) := by decide +kernel
theorem dd_P_readFactors_29 : decode bb_P_readFactors 29 = .ok (.aload_n 0, 1) := by decide +kernel
theorem dd_P_readFactors_30 : decode bb_P_readFactors 30 = .ok (.aload_n 0, 1) := by decide +kernel
theorem dd_P_readFactors_31 : decode bb_P_readFactors 31 = .ok (.getfield 19, 3) := by decide +kernel
theorem dd_P_readFactors_34 : decode bb_P_readFactors 34 = .ok (.invokevirtual 63, 3) := by decide +kernel
theorem dd_P_readFactors_37 : decode bb_P_readFactors 37 = .ok (.ireturn, 1) := by decide +kernel
theorem dd_P_readFactors_38 : decode bb_P_readFactors 38 = .ok (.aload_n 0, 1) := by decide +kernel
theorem dd_P_readFactors_39 : decode bb_P_readFactors 39 = .ok (.iload 4, 2) := by decide +kernel
theorem dd_P_readFactors_41 : decode bb_P_readFactors 41 = .ok (.invokevirtual 107, 3) := by decide +kernel
theorem dd_P_readFactors_44 : decode bb_P_readFactors 44 = .ok (.aload_n 0, 1) := by decide +kernel
