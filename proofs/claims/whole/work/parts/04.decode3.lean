theorem dd_M_tried_4 : decode bb_M_tried 4 = .ok (.isub, 1) := by decide +kernel
theorem dd_M_tried_5 : decode bb_M_tried 5 = .ok (.lshl, 1) := by decide +kernel
theorem dd_M_tried_6 : decode bb_M_tried 6 = .ok (.lstore_n 2, 1) := by decide +kernel
theorem dd_M_tried_7 : decode bb_M_tried 7 = .ok (.aload_n 0, 1) := by decide +kernel
theorem dd_M_tried_8 : decode bb_M_tried 8 = .ok (.dup, 1) := by decide +kernel
theorem dd_M_tried_9 : decode bb_M_tried 9 = .ok (.getfield 215, 3) := by decide +kernel
theorem dd_M_tried_12 : decode bb_M_tried 12 = .ok (.iconst 1, 1) := by decide +kernel
theorem dd_M_tried_13 : decode bb_M_tried 13 = .ok (.iadd, 1) := by decide +kernel
theorem dd_M_tried_14 : decode bb_M_tried 14 = .ok (.putfield 215, 3) := by decide +kernel
theorem dd_M_tried_17 : decode bb_M_tried 17 = .ok (.aload_n 0, 1) := by decide +kernel
theorem dd_M_tried_18 : decode bb_M_tried 18 = .ok (.iconst 0, 1) := by decide +kernel
theorem dd_M_tried_19 : decode bb_M_tried 19 = .ok (.putfield 136, 3) := by decide +kernel
theorem dd_M_tried_22 : decode bb_M_tried 22 = .ok (.aload_n 0, 1) := by decide +kernel
theorem dd_M_tried_23 : decode bb_M_tried 23 = .ok (.lload_n 2, 1) := by decide +kernel
theorem dd_M_tried_24 : decode bb_M_tried 24 = .ok (.invokevirtual 278, 3) := by decide +kernel
theorem dd_M_tried_27 : decode bb_M_tried 27 = .ok (.istore 4, 2) := by decide +kernel
theorem dd_M_tried_29 : decode bb_M_tried 29 = .ok (.iload 4, 2) := by decide +kernel
theorem dd_M_tried_31 : decode bb_M_tried 31 = .ok (.ifCond .eq 15, 3) := by decide +kernel
theorem dd_M_tried_34 : decode bb_M_tried 34 = .ok (.aload_n 0, 1) := by decide +kernel
theorem dd_M_tried_35 : decode bb_M_tried 35 = .ok (.getfield 136, 3) := by decide +kernel
theorem dd_M_tried_38 : decode bb_M_tried 38 = .ok (.ifCond .ne 8, 3) := by decide +kernel
theorem dd_M_tried_41 : decode bb_M_tried 41 = .ok (.aload_n 0, 1) := by decide +kernel
theorem dd_M_tried_42 : decode bb_M_tried 42 = .ok (.lload_n 2, 1) := by decide +kernel
theorem dd_M_tried_43 : decode bb_M_tried 43 = .ok (.invokevirtual 282, 3) := by decide +kernel
theorem dd_M_tried_46 : decode bb_M_tried 46 = .ok (.aload_n 0, 1) := by decide +kernel
theorem dd_M_tried_47 : decode bb_M_tried 47 = .ok (.getfield 136, 3) := by decide +kernel
theorem dd_M_tried_50 : decode bb_M_tried 50 = .ok (.ifCond .eq 7, 3) := by decide +kernel
theorem dd_M_tried_53 : decode bb_M_tried 53 = .ok (.iconst 2, 1) := by decide +kernel
theorem dd_M_tried_54 : decode bb_M_tried 54 = .ok (.goto 13, 3) := by decide +kernel
theorem dd_M_tried_57 : decode bb_M_tried 57 = .ok (.iload 4, 2) := by decide +kernel
theorem dd_M_tried_59 : decode bb_M_tried 59 = .ok (.ifCond .eq 7, 3) := by decide +kernel
theorem dd_M_tried_62 : decode bb_M_tried 62 = .ok (.iconst 0, 1) := by decide +kernel
theorem dd_M_tried_63 : decode bb_M_tried 63 = .ok (.goto 4, 3) := by decide +kernel
theorem dd_M_tried_66 : decode bb_M_tried 66 = .ok (.iconst 1, 1) := by decide +kernel
theorem dd_M_tried_67 : decode bb_M_tried 67 = .ok (.ireturn, 1) := by decide +kernel
theorem dd_M_proves_0 : decode bb_M_proves 0 = .ok (.iconst 0, 1) := by decide +kernel
theorem dd_M_proves_1 : decode bb_M_proves 1 = .ok (.istore_n 3, 1) := by decide +kernel
theorem dd_M_proves_2 : decode bb_M_proves 2 = .ok (.iload_n 3, 1) := by decide +kernel
theorem dd_M_proves_3 : decode bb_M_proves 3 = .ok (.aload_n 0, 1) := by decide +kernel
theorem dd_M_proves_4 : decode bb_M_proves 4 = .ok (.getfield 197, 3) := by decide +kernel
theorem dd_M_proves_7 : decode bb_M_proves 7 = .ok (.if_icmp .ge 33, 3) := by decide +kernel
theorem dd_M_proves_10 : decode bb_M_proves 10 = .ok (.aload_n 0, 1) := by decide +kernel
theorem dd_M_proves_11 : decode bb_M_proves 11 = .ok (.getfield 94, 3) := by decide +kernel
theorem dd_M_proves_14 : decode bb_M_proves 14 = .ok (.iload_n 3, 1) := by decide +kernel
theorem dd_M_proves_15 : decode bb_M_proves 15 = .ok (.aload_n 0, 1) := by decide +kernel
theorem dd_M_proves_16 : decode bb_M_proves 16 = .ok (.getfield 64, 3) := by decide +kernel
theorem dd_M_proves_19 : decode bb_M_proves 19 = .ok (.iload_n 3, 1) := by decide +kernel
theorem dd_M_proves_20 : decode bb_M_proves 20 = .ok (.laload, 1) := by decide +kernel
theorem dd_M_proves_21 : decode bb_M_proves 21 = .ok (.lastore, 1) := by decide +kernel
theorem dd_M_proves_22 : decode bb_M_proves 22 = .ok (.aload_n 0, 1) := by decide +kernel
theorem dd_M_proves_23 : decode bb_M_proves 23 = .ok (.getfield 97, 3) := by decide +kernel
theorem dd_M_proves_26 : decode bb_M_proves 26 = .ok (.iload_n 3, 1) := by decide +kernel
theorem dd_M_proves_27 : decode bb_M_proves 27 = .ok (.aload_n 0, 1) := by decide +kernel
theorem dd_M_proves_28 : decode bb_M_proves 28 = .ok (.getfield 67, 3) := by decide +kernel
theorem dd_M_proves_31 : decode bb_M_proves 31 = .ok (.iload_n 3, 1) := by decide +kernel
theorem dd_M_proves_32 : decode bb_M_proves 32 = .ok (.laload, 1) := by decide +kernel
theorem dd_M_proves_33 : decode bb_M_proves 33 = .ok (.lastore, 1) := by decide +kernel
theorem dd_M_proves_34 : decode bb_M_proves 34 = .ok (.iinc 3 1, 3) := by decide +kernel
theorem dd_M_proves_37 : decode bb_M_proves 37 = .ok (.goto (-35), 3) := by decide +kernel
theorem dd_M_proves_40 : decode bb_M_proves 40 = .ok (.iconst 0, 1) := by decide +kernel
theorem dd_M_proves_41 : decode bb_M_proves 41 = .ok (.istore_n 3, 1) := by decide +kernel
theorem dd_M_proves_42 : decode bb_M_proves 42 = .ok (.iload_n 3, 1) := by decide +kernel
theorem dd_M_proves_43 : decode bb_M_proves 43 = .ok (.bipush 8, 2) := by decide +kernel
theorem dd_M_proves_45 : decode bb_M_proves 45 = .ok (.if_icmp .ge 31, 3) := by decide +kernel
theorem dd_M_proves_48 : decode bb_M_proves 48 = .ok (.aload_n 0, 1) := by decide +kernel
theorem dd_M_proves_49 : decode bb_M_proves 49 = .ok (.lload_n 1, 1) := by decide +kernel
theorem dd_M_proves_50 : decode bb_M_proves 50 = .ok (.invokevirtual 249, 3) := by decide +kernel
theorem dd_M_proves_53 : decode bb_M_proves 53 = .ok (.iload_n 3, 1) := by decide +kernel
theorem dd_M_proves_54 : decode bb_M_proves 54 = .ok (.ifCond .le 12, 3) := by decide +kernel
theorem dd_M_proves_57 : decode bb_M_proves 57 = .ok (.aload_n 0, 1) := by decide +kernel
theorem dd_M_proves_58 : decode bb_M_proves 58 = .ok (.invokevirtual 253, 3) := by decide +kernel
theorem dd_M_proves_61 : decode bb_M_proves 61 = .ok (.ifCond .eq 5, 3) := by decide +kernel
theorem dd_M_proves_64 : decode bb_M_proves 64 = .ok (.iconst 1, 1) := by decide +kernel
theorem dd_M_proves_65 : decode bb_M_proves 65 = .ok (.ireturn, 1) := by decide +kernel
theorem dd_M_proves_66 : decode bb_M_proves 66 = .ok (.aload_n 0, 1) := by decide +kernel
theorem dd_M_proves_67 : decode bb_M_proves 67 = .ok (.invokevirtual 256, 3) := by decide +kernel
theorem dd_M_proves_70 : decode bb_M_proves 70 = .ok (.iinc 3 1, 3) := by decide +kernel
theorem dd_M_proves_73 : decode bb_M_proves 73 = .ok (.goto (-31), 3) := by decide +kernel
theorem dd_M_proves_76 : decode bb_M_proves 76 = .ok (.iconst 0, 1) := by decide +kernel
theorem dd_M_proves_77 : decode bb_M_proves 77 = .ok (.ireturn, 1) := by decide +kernel
theorem dd_M_reach_0 : decode bb_M_reach 0 = .ok (.iconst 0, 1) := by decide +kernel
theorem dd_M_reach_1 : decode bb_M_reach 1 = .ok (.istore_n 3, 1) := by decide +kernel
theorem dd_M_reach_2 : decode bb_M_reach 2 = .ok (.iload_n 3, 1) := by decide +kernel
theorem dd_M_reach_3 : decode bb_M_reach 3 = .ok (.aload_n 0, 1) := by decide +kernel
theorem dd_M_reach_4 : decode bb_M_reach 4 = .ok (.getfield 197, 3) := by decide +kernel
theorem dd_M_reach_7 : decode bb_M_reach 7 = .ok (.if_icmp .ge 74, 3) := by decide +kernel
theorem dd_M_reach_10 : decode bb_M_reach 10 = .ok (.aload_n 0, 1) := by decide +kernel
theorem dd_M_reach_11 : decode bb_M_reach 11 = .ok (.iload_n 3, 1) := by decide +kernel
theorem dd_M_reach_12 : decode bb_M_reach 12 = .ok (.invokevirtual 235, 3) := by decide +kernel
theorem dd_M_reach_15 : decode bb_M_reach 15 = .ok (.aload_n 0, 1) := by decide +kernel
theorem dd_M_reach_16 : decode bb_M_reach 16 = .ok (.lconst 0, 1) := by decide +kernel
theorem dd_M_reach_17 : decode bb_M_reach 17 = .ok (.lload_n 1, 1) := by decide +kernel
theorem dd_M_reach_18 : decode bb_M_reach 18 = .ok (.aload_n 0, 1) := by decide +kernel
theorem dd_M_reach_19 : decode bb_M_reach 19 = .ok (.getfield 129, 3) := by decide +kernel
theorem dd_M_reach_22 : decode bb_M_reach 22 = .ok (.aload_n 0, 1) := by decide +kernel
theorem dd_M_reach_23 : decode bb_M_reach 23 = .ok (.getfield 133, 3) := by decide +kernel
theorem dd_M_reach_26 : decode bb_M_reach 26 = .ok (.invokevirtual 231, 3) := by decide +kernel
theorem dd_M_reach_29 : decode bb_M_reach 29 = .ok (.aload_n 0, 1) := by decide +kernel
theorem dd_M_reach_30 : decode bb_M_reach 30 = .ok (.aload_n 0, 1) := by decide +kernel
theorem dd_M_reach_31 : decode bb_M_reach 31 = .ok (.getfield 64, 3) := by decide +kernel
theorem dd_M_reach_34 : decode bb_M_reach 34 = .ok (.iload_n 3, 1) := by decide +kernel
theorem dd_M_reach_35 : decode bb_M_reach 35 = .ok (.laload, 1) := by decide +kernel
theorem dd_M_reach_36 : decode bb_M_reach 36 = .ok (.aload_n 0, 1) := by decide +kernel
theorem dd_M_reach_37 : decode bb_M_reach 37 = .ok (.getfield 129, 3) := by decide +kernel
theorem dd_M_reach_40 : decode bb_M_reach 40 = .ok (.ladd, 1) := by decide +kernel
theorem dd_M_reach_41 : decode bb_M_reach 41 = .ok (.aload_n 0, 1) := by decide +kernel
theorem dd_M_reach_42 : decode bb_M_reach 42 = .ok (.getfield 67, 3) := by decide +kernel
theorem dd_M_reach_45 : decode bb_M_reach 45 = .ok (.iload_n 3, 1) := by decide +kernel
theorem dd_M_reach_46 : decode bb_M_reach 46 = .ok (.laload, 1) := by decide +kernel
theorem dd_M_reach_47 : decode bb_M_reach 47 = .ok (.aload_n 0, 1) := by decide +kernel
theorem dd_M_reach_48 : decode bb_M_reach 48 = .ok (.getfield 133, 3) := by decide +kernel
theorem dd_M_reach_51 : decode bb_M_reach 51 = .ok (.ladd, 1) := by decide +kernel
theorem dd_M_reach_52 : decode bb_M_reach 52 = .ok (.invokevirtual 140, 3) := by decide +kernel
theorem dd_M_reach_55 : decode bb_M_reach 55 = .ok (.aload_n 0, 1) := by decide +kernel
theorem dd_M_reach_56 : decode bb_M_reach 56 = .ok (.getfield 100, 3) := by decide +kernel
theorem dd_M_reach_59 : decode bb_M_reach 59 = .ok (.iload_n 3, 1) := by decide +kernel
theorem dd_M_reach_60 : decode bb_M_reach 60 = .ok (.aload_n 0, 1) := by decide +kernel
theorem dd_M_reach_61 : decode bb_M_reach 61 = .ok (.getfield 129, 3) := by decide +kernel
theorem dd_M_reach_64 : decode bb_M_reach 64 = .ok (.lastore, 1) := by decide +kernel
theorem dd_M_reach_65 : decode bb_M_reach 65 = .ok (.aload_n 0, 1) := by decide +kernel
theorem dd_M_reach_66 : decode bb_M_reach 66 = .ok (.getfield 103, 3) := by decide +kernel
theorem dd_M_reach_69 : decode bb_M_reach 69 = .ok (.iload_n 3, 1) := by decide +kernel
theorem dd_M_reach_70 : decode bb_M_reach 70 = .ok (.aload_n 0, 1) := by decide +kernel
theorem dd_M_reach_71 : decode bb_M_reach 71 = .ok (.getfield 133, 3) := by decide +kernel
theorem dd_M_reach_74 : decode bb_M_reach 74 = .ok (.lastore, 1) := by decide +kernel
theorem dd_M_reach_75 : decode bb_M_reach 75 = .ok (.iinc 3 1, 3) := by decide +kernel
theorem dd_M_reach_78 : decode bb_M_reach 78 = .ok (.goto (-76), 3) := by decide +kernel
theorem dd_M_reach_81 : decode bb_M_reach 81 = .ok (.return_, 1) := by decide +kernel
theorem dd_M_isWithin_0 : decode bb_M_isWithin 0 = .ok (.iconst 1, 1) := by decide +kernel
theorem dd_M_isWithin_1 : decode bb_M_isWithin 1 = .ok (.istore_n 1, 1) := by decide +kernel
theorem dd_M_isWithin_2 : decode bb_M_isWithin 2 = .ok (.iconst 0, 1) := by decide +kernel
theorem dd_M_isWithin_3 : decode bb_M_isWithin 3 = .ok (.istore_n 2, 1) := by decide +kernel
theorem dd_M_isWithin_4 : decode bb_M_isWithin 4 = .ok (.iload_n 2, 1) := by decide +kernel
theorem dd_M_isWithin_5 : decode bb_M_isWithin 5 = .ok (.aload_n 0, 1) := by decide +kernel
theorem dd_M_isWithin_6 : decode bb_M_isWithin 6 = .ok (.getfield 197, 3) := by decide +kernel
theorem dd_M_isWithin_9 : decode bb_M_isWithin 9 = .ok (.if_icmp .ge 51, 3) := by decide +kernel
theorem dd_M_isWithin_12 : decode bb_M_isWithin 12 = .ok (.iload_n 1, 1) := by decide +kernel
theorem dd_M_isWithin_13 : decode bb_M_isWithin 13 = .ok (.ifCond .eq 39, 3) := by decide +kernel
theorem dd_M_isWithin_16 : decode bb_M_isWithin 16 = .ok (.aload_n 0, 1) := by decide +kernel
theorem dd_M_isWithin_17 : decode bb_M_isWithin 17 = .ok (.getfield 100, 3) := by decide +kernel
theorem dd_M_isWithin_20 : decode bb_M_isWithin 20 = .ok (.iload_n 2, 1) := by decide +kernel
theorem dd_M_isWithin_21 : decode bb_M_isWithin 21 = .ok (.laload, 1) := by decide +kernel
theorem dd_M_isWithin_22 : decode bb_M_isWithin 22 = .ok (.aload_n 0, 1) := by decide +kernel
theorem dd_M_isWithin_23 : decode bb_M_isWithin 23 = .ok (.getfield 94, 3) := by decide +kernel
theorem dd_M_isWithin_26 : decode bb_M_isWithin 26 = .ok (.iload_n 2, 1) := by decide +kernel
theorem dd_M_isWithin_27 : decode bb_M_isWithin 27 = .ok (.laload, 1) := by decide +kernel
theorem dd_M_isWithin_28 : decode bb_M_isWithin 28 = .ok (.lcmp, 1) := by decide +kernel
theorem dd_M_isWithin_29 : decode bb_M_isWithin 29 = .ok (.ifCond .lt 23, 3) := by decide +kernel
theorem dd_M_isWithin_32 : decode bb_M_isWithin 32 = .ok (.aload_n 0, 1) := by decide +kernel
theorem dd_M_isWithin_33 : decode bb_M_isWithin 33 = .ok (.getfield 103, 3) := by decide +kernel
theorem dd_M_isWithin_36 : decode bb_M_isWithin 36 = .ok (.iload_n 2, 1) := by decide +kernel
theorem dd_M_isWithin_37 : decode bb_M_isWithin 37 = .ok (.laload, 1) := by decide +kernel
theorem dd_M_isWithin_38 : decode bb_M_isWithin 38 = .ok (.aload_n 0, 1) := by decide +kernel
theorem dd_M_isWithin_39 : decode bb_M_isWithin 39 = .ok (.getfield 97, 3) := by decide +kernel
theorem dd_M_isWithin_42 : decode bb_M_isWithin 42 = .ok (.iload_n 2, 1) := by decide +kernel
theorem dd_M_isWithin_43 : decode bb_M_isWithin 43 = .ok (.laload, 1) := by decide +kernel
theorem dd_M_isWithin_44 : decode bb_M_isWithin 44 = .ok (.lcmp, 1) := by decide +kernel
theorem dd_M_isWithin_45 : decode bb_M_isWithin 45 = .ok (.ifCond .gt 7, 3) := by decide +kernel
theorem dd_M_isWithin_48 : decode bb_M_isWithin 48 = .ok (.iconst 1, 1) := by decide +kernel
theorem dd_M_isWithin_49 : decode bb_M_isWithin 49 = .ok (.goto 4, 3) := by decide +kernel
theorem dd_M_isWithin_52 : decode bb_M_isWithin 52 = .ok (.iconst 0, 1) := by decide +kernel
theorem dd_M_isWithin_53 : decode bb_M_isWithin 53 = .ok (.istore_n 1, 1) := by decide +kernel
theorem dd_M_isWithin_54 : decode bb_M_isWithin 54 = .ok (.iinc 2 1, 3) := by decide +kernel
theorem dd_M_isWithin_57 : decode bb_M_isWithin 57 = .ok (.goto (-53), 3) := by decide +kernel
theorem dd_M_isWithin_60 : decode bb_M_isWithin 60 = .ok (.iload_n 1, 1) := by decide +kernel
theorem dd_M_isWithin_61 : decode bb_M_isWithin 61 = .ok (.ireturn, 1) := by decide +kernel
theorem dd_M_widen_0 : decode bb_M_widen 0 = .ok (.iconst 0, 1) := by decide +kernel
theorem dd_M_widen_1 : decode bb_M_widen 1 = .ok (.istore_n 1, 1) := by decide +kernel
theorem dd_M_widen_2 : decode bb_M_widen 2 = .ok (.iload_n 1, 1) := by decide +kernel
theorem dd_M_widen_3 : decode bb_M_widen 3 = .ok (.aload_n 0, 1) := by decide +kernel
theorem dd_M_widen_4 : decode bb_M_widen 4 = .ok (.getfield 197, 3) := by decide +kernel
theorem dd_M_widen_7 : decode bb_M_widen 7 = .ok (.if_icmp .ge 119, 3) := by decide +kernel
theorem dd_M_widen_10 : decode bb_M_widen 10 = .ok (.aload_n 0, 1) := by decide +kernel
theorem dd_M_widen_11 : decode bb_M_widen 11 = .ok (.getfield 100, 3) := by decide +kernel
theorem dd_M_widen_14 : decode bb_M_widen 14 = .ok (.iload_n 1, 1) := by decide +kernel
theorem dd_M_widen_15 : decode bb_M_widen 15 = .ok (.laload, 1) := by decide +kernel
theorem dd_M_widen_16 : decode bb_M_widen 16 = .ok (.aload_n 0, 1) := by decide +kernel
theorem dd_M_widen_17 : decode bb_M_widen 17 = .ok (.getfield 94, 3) := by decide +kernel
theorem dd_M_widen_20 : decode bb_M_widen 20 = .ok (.iload_n 1, 1) := by decide +kernel
theorem dd_M_widen_21 : decode bb_M_widen 21 = .ok (.laload, 1) := by decide +kernel
theorem dd_M_widen_22 : decode bb_M_widen 22 = .ok (.lcmp, 1) := by decide +kernel
theorem dd_M_widen_23 : decode bb_M_widen 23 = .ok (.ifCond .ge 12, 3) := by decide +kernel
theorem dd_M_widen_26 : decode bb_M_widen 26 = .ok (.aload_n 0, 1) := by decide +kernel
theorem dd_M_widen_27 : decode bb_M_widen 27 = .ok (.getfield 100, 3) := by decide +kernel
theorem dd_M_widen_30 : decode bb_M_widen 30 = .ok (.iload_n 1, 1) := by decide +kernel
theorem dd_M_widen_31 : decode bb_M_widen 31 = .ok (.laload, 1) := by decide +kernel
theorem dd_M_widen_32 : decode bb_M_widen 32 = .ok (.goto 9, 3) := by decide +kernel
theorem dd_M_widen_35 : decode bb_M_widen 35 = .ok (.aload_n 0, 1) := by decide +kernel
theorem dd_M_widen_36 : decode bb_M_widen 36 = .ok (.getfield 94, 3) := by decide +kernel
theorem dd_M_widen_39 : decode bb_M_widen 39 = .ok (.iload_n 1, 1) := by decide +kernel
theorem dd_M_widen_40 : decode bb_M_widen 40 = .ok (.laload, 1) := by decide +kernel
theorem dd_M_widen_41 : decode bb_M_widen 41 = .ok (.lstore_n 2, 1) := by decide +kernel
theorem dd_M_widen_42 : decode bb_M_widen 42 = .ok (.aload_n 0, 1) := by decide +kernel
theorem dd_M_widen_43 : decode bb_M_widen 43 = .ok (.getfield 103, 3) := by decide +kernel
theorem dd_M_widen_46 : decode bb_M_widen 46 = .ok (.iload_n 1, 1) := by decide +kernel
theorem dd_M_widen_47 : decode bb_M_widen 47 = .ok (.laload, 1) := by decide +kernel
theorem dd_M_widen_48 : decode bb_M_widen 48 = .ok (.aload_n 0, 1) := by decide +kernel
theorem dd_M_widen_49 : decode bb_M_widen 49 = .ok (.getfield 97, 3) := by decide +kernel
theorem dd_M_widen_52 : decode bb_M_widen 52 = .ok (.iload_n 1, 1) := by decide +kernel
theorem dd_M_widen_53 : decode bb_M_widen 53 = .ok (.laload, 1) := by decide +kernel
theorem dd_M_widen_54 : decode bb_M_widen 54 = .ok (.lcmp, 1) := by decide +kernel
theorem dd_M_widen_55 : decode bb_M_widen 55 = .ok (.ifCond .le 12, 3) := by decide +kernel
theorem dd_M_widen_58 : decode bb_M_widen 58 = .ok (.aload_n 0, 1) := by decide +kernel
theorem dd_M_widen_59 : decode bb_M_widen 59 = .ok (.getfield 103, 3) := by decide +kernel
theorem dd_M_widen_62 : decode bb_M_widen 62 = .ok (.iload_n 1, 1) := by decide +kernel
theorem dd_M_widen_63 : decode bb_M_widen 63 = .ok (.laload, 1) := by decide +kernel
theorem dd_M_widen_64 : decode bb_M_widen 64 = .ok (.goto 9, 3) := by decide +kernel
theorem dd_M_widen_67 : decode bb_M_widen 67 = .ok (.aload_n 0, 1) := by decide +kernel
theorem dd_M_widen_68 : decode bb_M_widen 68 = .ok (.getfield 97, 3) := by decide +kernel
theorem dd_M_widen_71 : decode bb_M_widen 71 = .ok (.iload_n 1, 1) := by decide +kernel
theorem dd_M_widen_72 : decode bb_M_widen 72 = .ok (.laload, 1) := by decide +kernel
theorem dd_M_widen_73 : decode bb_M_widen 73 = .ok (.lstore 4, 2) := by decide +kernel
theorem dd_M_widen_75 : decode bb_M_widen 75 = .ok (.lload 4, 2) := by decide +kernel
theorem dd_M_widen_77 : decode bb_M_widen 77 = .ok (.lload_n 2, 1) := by decide +kernel
theorem dd_M_widen_78 : decode bb_M_widen 78 = .ok (.lsub, 1) := by decide +kernel
theorem dd_M_widen_79 : decode bb_M_widen 79 = .ok (.ldc2_w 247, 3) := by decide +kernel
theorem dd_M_widen_82 : decode bb_M_widen 82 = .ok (.ldiv, 1) := by decide +kernel
theorem dd_M_widen_83 : decode bb_M_widen 83 = .ok (.lconst 1, 1) := by decide +kernel
theorem dd_M_widen_84 : decode bb_M_widen 84 = .ok (.ladd, 1) := by decide +kernel
theorem dd_M_widen_85 : decode bb_M_widen 85 = .ok (.lstore 6, 2) := by decide +kernel
theorem dd_M_widen_87 : decode bb_M_widen 87 = .ok (.aload_n 0, 1) := by decide +kernel
theorem dd_M_widen_88 : decode bb_M_widen 88 = .ok (.lload_n 2, 1) := by decide +kernel
theorem dd_M_widen_89 : decode bb_M_widen 89 = .ok (.lload 6, 2) := by decide +kernel
theorem dd_M_widen_91 : decode bb_M_widen 91 = .ok (.lsub, 1) := by decide +kernel
theorem dd_M_widen_92 : decode bb_M_widen 92 = .ok (.lload 4, 2) := by decide +kernel
theorem dd_M_widen_94 : decode bb_M_widen 94 = .ok (.lload 6, 2) := by decide +kernel
theorem dd_M_widen_96 : decode bb_M_widen 96 = .ok (.ladd, 1) := by decide +kernel
theorem dd_M_widen_97 : decode bb_M_widen 97 = .ok (.invokevirtual 140, 3) := by decide +kernel
theorem dd_M_widen_100 : decode bb_M_widen 100 = .ok (.aload_n 0, 1) := by decide +kernel
theorem dd_M_widen_101 : decode bb_M_widen 101 = .ok (.getfield 94, 3) := by decide +kernel
theorem dd_M_widen_104 : decode bb_M_widen 104 = .ok (.iload_n 1, 1) := by decide +kernel
theorem dd_M_widen_105 : decode bb_M_widen 105 = .ok (.aload_n 0, 1) := by decide +kernel
theorem dd_M_widen_106 : decode bb_M_widen 106 = .ok (.getfield 129, 3) := by decide +kernel
theorem dd_M_widen_109 : decode bb_M_widen 109 = .ok (.lastore, 1) := by decide +kernel
theorem dd_M_widen_110 : decode bb_M_widen 110 = .ok (.aload_n 0, 1) := by decide +kernel
theorem dd_M_widen_111 : decode bb_M_widen 111 = .ok (.getfield 97, 3) := by decide +kernel
theorem dd_M_widen_114 : decode bb_M_widen 114 = .ok (.iload_n 1, 1) := by decide +kernel
theorem dd_M_widen_115 : decode bb_M_widen 115 = .ok (.aload_n 0, 1) := by decide +kernel
theorem dd_M_widen_116 : decode bb_M_widen 116 = .ok (.getfield 133, 3) := by decide +kernel
theorem dd_M_widen_119 : decode bb_M_widen 119 = .ok (.lastore, 1) := by decide +kernel
theorem dd_M_widen_120 : decode bb_M_widen 120 = .ok (.iinc 1 1, 3) := by decide +kernel
theorem dd_M_widen_123 : decode bb_M_widen 123 = .ok (.goto (-121), 3) := by decide +kernel
theorem dd_M_widen_126 : decode bb_M_widen 126 = .ok (.return_, 1) := by decide +kernel
theorem dd_M_addUp_0 : decode bb_M_addUp 0 = .ok (.aload_n 0, 1) := by decide +kernel
theorem dd_M_addUp_1 : decode bb_M_addUp 1 = .ok (.iconst 0, 1) := by decide +kernel
theorem dd_M_addUp_2 : decode bb_M_addUp 2 = .ok (.iconst 0, 1) := by decide +kernel
theorem dd_M_addUp_3 : decode bb_M_addUp 3 = .ok (.invokevirtual 270, 3) := by decide +kernel
theorem dd_M_addUp_6 : decode bb_M_addUp 6 = .ok (.aload_n 0, 1) := by decide +kernel
theorem dd_M_addUp_7 : decode bb_M_addUp 7 = .ok (.iconst 0, 1) := by decide +kernel
theorem dd_M_addUp_8 : decode bb_M_addUp 8 = .ok (.aload_n 0, 1) := by decide +kernel
theorem dd_M_addUp_9 : decode bb_M_addUp 9 = .ok (.getfield 48, 3) := by decide +kernel
theorem dd_M_addUp_12 : decode bb_M_addUp 12 = .ok (.invokevirtual 274, 3) := by decide +kernel
theorem dd_M_addUp_15 : decode bb_M_addUp 15 = .ok (.aload_n 0, 1) := by decide +kernel
theorem dd_M_addUp_16 : decode bb_M_addUp 16 = .ok (.iconst 1, 1) := by decide +kernel
theorem dd_M_addUp_17 : decode bb_M_addUp 17 = .ok (.bipush 30, 2) := by decide +kernel
theorem dd_M_addUp_19 : decode bb_M_addUp 19 = .ok (.invokevirtual 270, 3) := by decide +kernel
theorem dd_M_addUp_22 : decode bb_M_addUp 22 = .ok (.aload_n 0, 1) := by decide +kernel
theorem dd_M_addUp_23 : decode bb_M_addUp 23 = .ok (.bipush 30, 2) := by decide +kernel
theorem dd_M_addUp_25 : decode bb_M_addUp 25 = .ok (.aload_n 0, 1) := by decide +kernel
theorem dd_M_addUp_26 : decode bb_M_addUp 26 = .ok (.getfield 48, 3) := by decide +kernel
theorem dd_M_addUp_29 : decode bb_M_addUp 29 = .ok (.iconst 1, 1) := by decide +kernel
theorem dd_M_addUp_30 : decode bb_M_addUp 30 = .ok (.iadd, 1) := by decide +kernel
theorem dd_M_addUp_31 : decode bb_M_addUp 31 = .ok (.invokevirtual 274, 3) := by decide +kernel
theorem dd_M_addUp_34 : decode bb_M_addUp 34 = .ok (.iconst 0, 1) := by decide +kernel
theorem dd_M_addUp_35 : decode bb_M_addUp 35 = .ok (.istore_n 3, 1) := by decide +kernel
theorem dd_M_addUp_36 : decode bb_M_addUp 36 = .ok (.iload_n 3, 1) := by decide +kernel
theorem dd_M_addUp_37 : decode bb_M_addUp 37 = .ok (.aload_n 0, 1) := by decide +kernel
theorem dd_M_addUp_38 : decode bb_M_addUp 38 = .ok (.getfield 197, 3) := by decide +kernel
theorem dd_M_addUp_41 : decode bb_M_addUp 41 = .ok (.if_icmp .ge 232, 3) := by decide +kernel
theorem dd_M_addUp_44 : decode bb_M_addUp 44 = .ok (.aload_n 0, 1) := by decide +kernel
theorem dd_M_addUp_45 : decode bb_M_addUp 45 = .ok (.aload_n 0, 1) := by decide +kernel
theorem dd_M_addUp_46 : decode bb_M_addUp 46 = .ok (.getfield 106, 3) := by decide +kernel
theorem dd_M_addUp_49 : decode bb_M_addUp 49 = .ok (.bipush 30, 2) := by decide +kernel
theorem dd_M_addUp_51 : decode bb_M_addUp 51 = .ok (.bipush 10, 2) := by decide +kernel
theorem dd_M_addUp_53 : decode bb_M_addUp 53 = .ok (.iload_n 3, 1) := by decide +kernel
theorem dd_M_addUp_54 : decode bb_M_addUp 54 = .ok (.imul, 1) := by decide +kernel
theorem dd_M_addUp_55 : decode bb_M_addUp 55 = .ok (.iadd, 1) := by decide +kernel
theorem dd_M_addUp_56 : decode bb_M_addUp 56 = .ok (.aload_n 0, 1) := by decide +kernel
theorem dd_M_addUp_57 : decode bb_M_addUp 57 = .ok (.getfield 48, 3) := by decide +kernel
theorem dd_M_addUp_60 : decode bb_M_addUp 60 = .ok (.iadd, 1) := by decide +kernel
theorem dd_M_addUp_61 : decode bb_M_addUp 61 = .ok (.iconst 1, 1) := by decide +kernel
theorem dd_M_addUp_62 : decode bb_M_addUp 62 = .ok (.iadd, 1) := by decide +kernel
theorem dd_M_addUp_63 : decode bb_M_addUp 63 = .ok (.laload, 1) := by decide +kernel
theorem dd_M_addUp_64 : decode bb_M_addUp 64 = .ok (.putfield 129, 3) := by decide +kernel
theorem dd_M_addUp_67 : decode bb_M_addUp 67 = .ok (.aload_n 0, 1) := by decide +kernel
theorem dd_M_addUp_68 : decode bb_M_addUp 68 = .ok (.aload_n 0, 1) := by decide +kernel
theorem dd_M_addUp_69 : decode bb_M_addUp 69 = .ok (.getfield 109, 3) := by decide +kernel
theorem dd_M_addUp_72 : decode bb_M_addUp 72 = .ok (.bipush 30, 2) := by decide +kernel
theorem dd_M_addUp_74 : decode bb_M_addUp 74 = .ok (.bipush 10, 2) := by decide +kernel
theorem dd_M_addUp_76 : decode bb_M_addUp 76 = .ok (.iload_n 3, 1) := by decide +kernel
theorem dd_M_addUp_77 : decode bb_M_addUp 77 = .ok (.imul, 1) := by decide +kernel
theorem dd_M_addUp_78 : decode bb_M_addUp 78 = .ok (.iadd, 1) := by decide +kernel
theorem dd_M_addUp_79 : decode bb_M_addUp 79 = .ok (.aload_n 0, 1) := by decide +kernel
theorem dd_M_addUp_80 : decode bb_M_addUp 80 = .ok (.getfield 48, 3) := by decide +kernel
theorem dd_M_addUp_83 : decode bb_M_addUp 83 = .ok (.iadd, 1) := by decide +kernel
theorem dd_M_addUp_84 : decode bb_M_addUp 84 = .ok (.iconst 1, 1) := by decide +kernel
theorem dd_M_addUp_85 : decode bb_M_addUp 85 = .ok (.iadd, 1) := by decide +kernel
theorem dd_M_addUp_86 : decode bb_M_addUp 86 = .ok (.laload, 1) := by decide +kernel
theorem dd_M_addUp_87 : decode bb_M_addUp 87 = .ok (.putfield 133, 3) := by decide +kernel
theorem dd_M_addUp_90 : decode bb_M_addUp 90 = .ok (.aload_n 0, 1) := by decide +kernel
theorem dd_M_addUp_91 : decode bb_M_addUp 91 = .ok (.getfield 48, 3) := by decide +kernel
theorem dd_M_addUp_94 : decode bb_M_addUp 94 = .ok (.istore 4, 2) := by decide +kernel
theorem dd_M_addUp_96 : decode bb_M_addUp 96 = .ok (.iload 4, 2) := by decide +kernel
theorem dd_M_addUp_98 : decode bb_M_addUp 98 = .ok (.ifCond .lt 61, 3) := by decide +kernel
theorem dd_M_addUp_101 : decode bb_M_addUp 101 = .ok (.aload_n 0, 1) := by decide +kernel
theorem dd_M_addUp_102 : decode bb_M_addUp 102 = .ok (.aload_n 0, 1) := by decide +kernel
theorem dd_M_addUp_103 : decode bb_M_addUp 103 = .ok (.getfield 129, 3) := by decide +kernel
theorem dd_M_addUp_106 : decode bb_M_addUp 106 = .ok (.aload_n 0, 1) := by decide +kernel
theorem dd_M_addUp_107 : decode bb_M_addUp 107 = .ok (.getfield 133, 3) := by decide +kernel
theorem dd_M_addUp_110 : decode bb_M_addUp 110 = .ok (.lload_n 1, 1) := by decide +kernel
theorem dd_M_addUp_111 : decode bb_M_addUp 111 = .ok (.lload_n 1, 1) := by decide +kernel
theorem dd_M_addUp_112 : decode bb_M_addUp 112 = .ok (.invokevirtual 231, 3) := by decide +kernel
theorem dd_M_addUp_115 : decode bb_M_addUp 115 = .ok (.aload_n 0, 1) := by decide +kernel
theorem dd_M_addUp_116 : decode bb_M_addUp 116 = .ok (.aload_n 0, 1) := by decide +kernel
theorem dd_M_addUp_117 : decode bb_M_addUp 117 = .ok (.getfield 129, 3) := by decide +kernel
theorem dd_M_addUp_120 : decode bb_M_addUp 120 = .ok (.aload_n 0, 1) := by decide +kernel
theorem dd_M_addUp_121 : decode bb_M_addUp 121 = .ok (.getfield 106, 3) := by decide +kernel
theorem dd_M_addUp_124 : decode bb_M_addUp 124 = .ok (.bipush 10, 2) := by decide +kernel
theorem dd_M_addUp_126 : decode bb_M_addUp 126 = .ok (.iload_n 3, 1) := by decide +kernel
theorem dd_M_addUp_127 : decode bb_M_addUp 127 = .ok (.imul, 1) := by decide +kernel
theorem dd_M_addUp_128 : decode bb_M_addUp 128 = .ok (.iload 4, 2) := by decide +kernel
theorem dd_M_addUp_130 : decode bb_M_addUp 130 = .ok (.iadd, 1) := by decide +kernel
theorem dd_M_addUp_131 : decode bb_M_addUp 131 = .ok (.laload, 1) := by decide +kernel
theorem dd_M_addUp_132 : decode bb_M_addUp 132 = .ok (.ladd, 1) := by decide +kernel
theorem dd_M_addUp_133 : decode bb_M_addUp 133 = .ok (.aload_n 0, 1) := by decide +kernel
theorem dd_M_addUp_134 : decode bb_M_addUp 134 = .ok (.getfield 133, 3) := by decide +kernel
theorem dd_M_addUp_137 : decode bb_M_addUp 137 = .ok (.aload_n 0, 1) := by decide +kernel
theorem dd_M_addUp_138 : decode bb_M_addUp 138 = .ok (.getfield 109, 3) := by decide +kernel
theorem dd_M_addUp_141 : decode bb_M_addUp 141 = .ok (.bipush 10, 2) := by decide +kernel
theorem dd_M_addUp_143 : decode bb_M_addUp 143 = .ok (.iload_n 3, 1) := by decide +kernel
theorem dd_M_addUp_144 : decode bb_M_addUp 144 = .ok (.imul, 1) := by decide +kernel
theorem dd_M_addUp_145 : decode bb_M_addUp 145 = .ok (.iload 4, 2) := by decide +kernel
theorem dd_M_addUp_147 : decode bb_M_addUp 147 = .ok (.iadd, 1) := by decide +kernel
theorem dd_M_addUp_148 : decode bb_M_addUp 148 = .ok (.laload, 1) := by decide +kernel
theorem dd_M_addUp_149 : decode bb_M_addUp 149 = .ok (.ladd, 1) := by decide +kernel
theorem dd_M_addUp_150 : decode bb_M_addUp 150 = .ok (.invokevirtual 140, 3) := by decide +kernel
theorem dd_M_addUp_153 : decode bb_M_addUp 153 = .ok (.iinc 4 (-1), 3) := by decide +kernel
theorem dd_M_addUp_156 : decode bb_M_addUp 156 = .ok (.goto (-60), 3) := by decide +kernel
theorem dd_M_addUp_159 : decode bb_M_addUp 159 = .ok (.aload_n 0, 1) := by decide +kernel
theorem dd_M_addUp_160 : decode bb_M_addUp 160 = .ok (.getfield 129, 3) := by decide +kernel
theorem dd_M_addUp_163 : decode bb_M_addUp 163 = .ok (.aload_n 0, 1) := by decide +kernel
theorem dd_M_addUp_164 : decode bb_M_addUp 164 = .ok (.getfield 100, 3) := by decide +kernel
theorem dd_M_addUp_167 : decode bb_M_addUp 167 = .ok (.iload_n 3, 1) := by decide +kernel
theorem dd_M_addUp_168 : decode bb_M_addUp 168 = .ok (.laload, 1) := by decide +kernel
theorem dd_M_addUp_169 : decode bb_M_addUp 169 = .ok (.lcmp, 1) := by decide +kernel
theorem dd_M_addUp_170 : decode bb_M_addUp 170 = .ok (.ifCond .le 10, 3) := by decide +kernel
theorem dd_M_addUp_173 : decode bb_M_addUp 173 = .ok (.aload_n 0, 1) := by decide +kernel
theorem dd_M_addUp_174 : decode bb_M_addUp 174 = .ok (.getfield 129, 3) := by decide +kernel
theorem dd_M_addUp_177 : decode bb_M_addUp 177 = .ok (.goto 9, 3) := by decide +kernel
theorem dd_M_addUp_180 : decode bb_M_addUp 180 = .ok (.aload_n 0, 1) := by decide +kernel
theorem dd_M_addUp_181 : decode bb_M_addUp 181 = .ok (.getfield 100, 3) := by decide +kernel
theorem dd_M_addUp_184 : decode bb_M_addUp 184 = .ok (.iload_n 3, 1) := by decide +kernel
theorem dd_M_addUp_185 : decode bb_M_addUp 185 = .ok (.laload, 1) := by decide +kernel
theorem dd_M_addUp_186 : decode bb_M_addUp 186 = .ok (.lstore 4, 2) := by decide +kernel
theorem dd_M_addUp_188 : decode bb_M_addUp 188 = .ok (.aload_n 0, 1) := by decide +kernel
theorem dd_M_addUp_189 : decode bb_M_addUp 189 = .ok (.getfield 133, 3) := by decide +kernel
theorem dd_M_addUp_192 : decode bb_M_addUp 192 = .ok (.aload_n 0, 1) := by decide +kernel
theorem dd_M_addUp_193 : decode bb_M_addUp 193 = .ok (.getfield 103, 3) := by decide +kernel
theorem dd_M_addUp_196 : decode bb_M_addUp 196 = .ok (.iload_n 3, 1) := by decide +kernel
theorem dd_M_addUp_197 : decode bb_M_addUp 197 = .ok (.laload, 1) := by decide +kernel
theorem dd_M_addUp_198 : decode bb_M_addUp 198 = .ok (.lcmp, 1) := by decide +kernel
theorem dd_M_addUp_199 : decode bb_M_addUp 199 = .ok (.ifCond .ge 10, 3) := by decide +kernel
theorem dd_M_addUp_202 : decode bb_M_addUp 202 = .ok (.aload_n 0, 1) := by decide +kernel
theorem dd_M_addUp_203 : decode bb_M_addUp 203 = .ok (.getfield 133, 3) := by decide +kernel
theorem dd_M_addUp_206 : decode bb_M_addUp 206 = .ok (.goto 9, 3) := by decide +kernel
theorem dd_M_addUp_209 : decode bb_M_addUp 209 = .ok (.aload_n 0, 1) := by decide +kernel
theorem dd_M_addUp_210 : decode bb_M_addUp 210 = .ok (.getfield 103, 3) := by decide +kernel
theorem dd_M_addUp_213 : decode bb_M_addUp 213 = .ok (.iload_n 3, 1) := by decide +kernel
theorem dd_M_addUp_214 : decode bb_M_addUp 214 = .ok (.laload, 1) := by decide +kernel
theorem dd_M_addUp_215 : decode bb_M_addUp 215 = .ok (.lstore 6, 2) := by decide +kernel
theorem dd_M_addUp_217 : decode bb_M_addUp 217 = .ok (.aload_n 0, 1) := by decide +kernel
theorem dd_M_addUp_218 : decode bb_M_addUp 218 = .ok (.getfield 94, 3) := by decide +kernel
theorem dd_M_addUp_221 : decode bb_M_addUp 221 = .ok (.iload_n 3, 1) := by decide +kernel
theorem dd_M_addUp_222 : decode bb_M_addUp 222 = .ok (.lload 4, 2) := by decide +kernel
theorem dd_M_addUp_224 : decode bb_M_addUp 224 = .ok (.lload 6, 2) := by decide +kernel
theorem dd_M_addUp_226 : decode bb_M_addUp 226 = .ok (.lcmp, 1) := by decide +kernel
theorem dd_M_addUp_227 : decode bb_M_addUp 227 = .ok (.ifCond .le 12, 3) := by decide +kernel
theorem dd_M_addUp_230 : decode bb_M_addUp 230 = .ok (.aload_n 0, 1) := by decide +kernel
theorem dd_M_addUp_231 : decode bb_M_addUp 231 = .ok (.getfield 100, 3) := by decide +kernel
theorem dd_M_addUp_234 : decode bb_M_addUp 234 = .ok (.iload_n 3, 1) := by decide +kernel
theorem dd_M_addUp_235 : decode bb_M_addUp 235 = .ok (.laload, 1) := by decide +kernel
theorem dd_M_addUp_236 : decode bb_M_addUp 236 = .ok (.goto 5, 3) := by decide +kernel
theorem dd_M_addUp_239 : decode bb_M_addUp 239 = .ok (.lload 4, 2) := by decide +kernel
theorem dd_M_addUp_241 : decode bb_M_addUp 241 = .ok (.lastore, 1) := by decide +kernel
theorem dd_M_addUp_242 : decode bb_M_addUp 242 = .ok (.aload_n 0, 1) := by decide +kernel
theorem dd_M_addUp_243 : decode bb_M_addUp 243 = .ok (.getfield 97, 3) := by decide +kernel
theorem dd_M_addUp_246 : decode bb_M_addUp 246 = .ok (.iload_n 3, 1) := by decide +kernel
theorem dd_M_addUp_247 : decode bb_M_addUp 247 = .ok (.lload 4, 2) := by decide +kernel
theorem dd_M_addUp_249 : decode bb_M_addUp 249 = .ok (.lload 6, 2) := by decide +kernel
theorem dd_M_addUp_251 : decode bb_M_addUp 251 = .ok (.lcmp, 1) := by decide +kernel
theorem dd_M_addUp_252 : decode bb_M_addUp 252 = .ok (.ifCond .le 12, 3) := by decide +kernel
theorem dd_M_addUp_255 : decode bb_M_addUp 255 = .ok (.aload_n 0, 1) := by decide +kernel
theorem dd_M_addUp_256 : decode bb_M_addUp 256 = .ok (.getfield 103, 3) := by decide +kernel
theorem dd_M_addUp_259 : decode bb_M_addUp 259 = .ok (.iload_n 3, 1) := by decide +kernel
theorem dd_M_addUp_260 : decode bb_M_addUp 260 = .ok (.laload, 1) := by decide +kernel
theorem dd_M_addUp_261 : decode bb_M_addUp 261 = .ok (.goto 5, 3) := by decide +kernel
theorem dd_M_addUp_264 : decode bb_M_addUp 264 = .ok (.lload 6, 2) := by decide +kernel
theorem dd_M_addUp_266 : decode bb_M_addUp 266 = .ok (.lastore, 1) := by decide +kernel
theorem dd_M_addUp_267 : decode bb_M_addUp 267 = .ok (.iinc 3 1, 3) := by decide +kernel
theorem dd_M_addUp_270 : decode bb_M_addUp 270 = .ok (.goto (-234), 3) := by decide +kernel
theorem dd_M_addUp_273 : decode bb_M_addUp 273 = .ok (.return_, 1) := by decide +kernel
theorem dd_M_putBox_0 : decode bb_M_putBox 0 = .ok (.iconst 0, 1) := by decide +kernel
theorem dd_M_putBox_1 : decode bb_M_putBox 1 = .ok (.istore_n 3, 1) := by decide +kernel
theorem dd_M_putBox_2 : decode bb_M_putBox 2 = .ok (.iload_n 3, 1) := by decide +kernel
theorem dd_M_putBox_3 : decode bb_M_putBox 3 = .ok (.aload_n 0, 1) := by decide +kernel
theorem dd_M_putBox_4 : decode bb_M_putBox 4 = .ok (.getfield 197, 3) := by decide +kernel
theorem dd_M_putBox_7 : decode bb_M_putBox 7 = .ok (.if_icmp .ge 69, 3) := by decide +kernel
theorem dd_M_putBox_10 : decode bb_M_putBox 10 = .ok (.aload_n 0, 1) := by decide +kernel
theorem dd_M_putBox_11 : decode bb_M_putBox 11 = .ok (.getfield 106, 3) := by decide +kernel
theorem dd_M_putBox_14 : decode bb_M_putBox 14 = .ok (.iload_n 2, 1) := by decide +kernel
theorem dd_M_putBox_15 : decode bb_M_putBox 15 = .ok (.bipush 10, 2) := by decide +kernel
theorem dd_M_putBox_17 : decode bb_M_putBox 17 = .ok (.iload_n 3, 1) := by decide +kernel
theorem dd_M_putBox_18 : decode bb_M_putBox 18 = .ok (.imul, 1) := by decide +kernel
theorem dd_M_putBox_19 : decode bb_M_putBox 19 = .ok (.iadd, 1) := by decide +kernel
theorem dd_M_putBox_20 : decode bb_M_putBox 20 = .ok (.iload_n 1, 1) := by decide +kernel
theorem dd_M_putBox_21 : decode bb_M_putBox 21 = .ok (.ifCond .eq 12, 3) := by decide +kernel
theorem dd_M_putBox_24 : decode bb_M_putBox 24 = .ok (.aload_n 0, 1) := by decide +kernel
theorem dd_M_putBox_25 : decode bb_M_putBox 25 = .ok (.getfield 100, 3) := by decide +kernel
theorem dd_M_putBox_28 : decode bb_M_putBox 28 = .ok (.iload_n 3, 1) := by decide +kernel
theorem dd_M_putBox_29 : decode bb_M_putBox 29 = .ok (.laload, 1) := by decide +kernel
theorem dd_M_putBox_30 : decode bb_M_putBox 30 = .ok (.goto 9, 3) := by decide +kernel
theorem dd_M_putBox_33 : decode bb_M_putBox 33 = .ok (.aload_n 0, 1) := by decide +kernel
theorem dd_M_putBox_34 : decode bb_M_putBox 34 = .ok (.getfield 64, 3) := by decide +kernel
theorem dd_M_putBox_37 : decode bb_M_putBox 37 = .ok (.iload_n 3, 1) := by decide +kernel
theorem dd_M_putBox_38 : decode bb_M_putBox 38 = .ok (.laload, 1) := by decide +kernel
theorem dd_M_putBox_39 : decode bb_M_putBox 39 = .ok (.lastore, 1) := by decide +kernel
theorem dd_M_putBox_40 : decode bb_M_putBox 40 = .ok (.aload_n 0, 1) := by decide +kernel
theorem dd_M_putBox_41 : decode bb_M_putBox 41 = .ok (.getfield 109, 3) := by decide +kernel
theorem dd_M_putBox_44 : decode bb_M_putBox 44 = .ok (.iload_n 2, 1) := by decide +kernel
theorem dd_M_putBox_45 : decode bb_M_putBox 45 = .ok (.bipush 10, 2) := by decide +kernel
theorem dd_M_putBox_47 : decode bb_M_putBox 47 = .ok (.iload_n 3, 1) := by decide +kernel
theorem dd_M_putBox_48 : decode bb_M_putBox 48 = .ok (.imul, 1) := by decide +kernel
theorem dd_M_putBox_49 : decode bb_M_putBox 49 = .ok (.iadd, 1) := by decide +kernel
theorem dd_M_putBox_50 : decode bb_M_putBox 50 = .ok (.iload_n 1, 1) := by decide +kernel
theorem dd_M_putBox_51 : decode bb_M_putBox 51 = .ok (.ifCond .eq 12, 3) := by decide +kernel
theorem dd_M_putBox_54 : decode bb_M_putBox 54 = .ok (.aload_n 0, 1) := by decide +kernel
theorem dd_M_putBox_55 : decode bb_M_putBox 55 = .ok (.getfield 103, 3) := by decide +kernel
theorem dd_M_putBox_58 : decode bb_M_putBox 58 = .ok (.iload_n 3, 1) := by decide +kernel
theorem dd_M_putBox_59 : decode bb_M_putBox 59 = .ok (.laload, 1) := by decide +kernel
theorem dd_M_putBox_60 : decode bb_M_putBox 60 = .ok (.goto 9, 3) := by decide +kernel
theorem dd_M_putBox_63 : decode bb_M_putBox 63 = .ok (.aload_n 0, 1) := by decide +kernel
theorem dd_M_putBox_64 : decode bb_M_putBox 64 = .ok (.getfield 67, 3) := by decide +kernel
theorem dd_M_putBox_67 : decode bb_M_putBox 67 = .ok (.iload_n 3, 1) := by decide +kernel
theorem dd_M_putBox_68 : decode bb_M_putBox 68 = .ok (.laload, 1) := by decide +kernel
theorem dd_M_putBox_69 : decode bb_M_putBox 69 = .ok (.lastore, 1) := by decide +kernel
theorem dd_M_putBox_70 : decode bb_M_putBox 70 = .ok (.iinc 3 1, 3) := by decide +kernel
theorem dd_M_putBox_73 : decode bb_M_putBox 73 = .ok (.goto (-71), 3) := by decide +kernel
theorem dd_M_putBox_76 : decode bb_M_putBox 76 = .ok (.return_, 1) := by decide +kernel
theorem dd_M_coefficients_0 : decode bb_M_coefficients 0 = .ok (.iconst 0, 1) := by decide +kernel
theorem dd_M_coefficients_1 : decode bb_M_coefficients 1 = .ok (.istore_n 3, 1) := by decide +kernel
theorem dd_M_coefficients_2 : decode bb_M_coefficients 2 = .ok (.iload_n 3, 1) := by decide +kernel
theorem dd_M_coefficients_3 : decode bb_M_coefficients 3 = .ok (.iload_n 2, 1) := by decide +kernel
theorem dd_M_coefficients_4 : decode bb_M_coefficients 4 = .ok (.if_icmp .ge 150, 3) := by decide +kernel
theorem dd_M_coefficients_7 : decode bb_M_coefficients 7 = .ok (.iconst 0, 1) := by decide +kernel
theorem dd_M_coefficients_8 : decode bb_M_coefficients 8 = .ok (.istore 4, 2) := by decide +kernel
theorem dd_M_coefficients_10 : decode bb_M_coefficients 10 = .ok (.iload 4, 2) := by decide +kernel
theorem dd_M_coefficients_12 : decode bb_M_coefficients 12 = .ok (.aload_n 0, 1) := by decide +kernel
theorem dd_M_coefficients_13 : decode bb_M_coefficients 13 = .ok (.getfield 197, 3) := by decide +kernel
theorem dd_M_coefficients_16 : decode bb_M_coefficients 16 = .ok (.if_icmp .ge 132, 3) := by decide +kernel
theorem dd_M_coefficients_19 : decode bb_M_coefficients 19 = .ok (.lconst 0, 1) := by decide +kernel
theorem dd_M_coefficients_20 : decode bb_M_coefficients 20 = .ok (.lstore 5, 2) := by decide +kernel
theorem dd_M_coefficients_22 : decode bb_M_coefficients 22 = .ok (.lconst 0, 1) := by decide +kernel
theorem dd_M_coefficients_23 : decode bb_M_coefficients 23 = .ok (.lstore 7, 2) := by decide +kernel
theorem dd_M_coefficients_25 : decode bb_M_coefficients 25 = .ok (.iconst 0, 1) := by decide +kernel
theorem dd_M_coefficients_26 : decode bb_M_coefficients 26 = .ok (.istore 9, 2) := by decide +kernel
theorem dd_M_coefficients_28 : decode bb_M_coefficients 28 = .ok (.iload 9, 2) := by decide +kernel
theorem dd_M_coefficients_30 : decode bb_M_coefficients 30 = .ok (.aload_n 0, 1) := by decide +kernel
theorem dd_M_coefficients_31 : decode bb_M_coefficients 31 = .ok (.getfield 23, 3) := by decide +kernel
theorem dd_M_coefficients_34 : decode bb_M_coefficients 34 = .ok (.iload 4, 2) := by decide +kernel
theorem dd_M_coefficients_36 : decode bb_M_coefficients 36 = .ok (.iaload, 1) := by decide +kernel
theorem dd_M_coefficients_37 : decode bb_M_coefficients 37 = .ok (.if_icmp .ge 53, 3) := by decide +kernel
theorem dd_M_coefficients_40 : decode bb_M_coefficients 40 = .ok (.aload_n 0, 1) := by decide +kernel
theorem dd_M_coefficients_41 : decode bb_M_coefficients 41 = .ok (.bipush 12, 2) := by decide +kernel
theorem dd_M_coefficients_43 : decode bb_M_coefficients 43 = .ok (.iload 4, 2) := by decide +kernel
theorem dd_M_coefficients_45 : decode bb_M_coefficients 45 = .ok (.imul, 1) := by decide +kernel
theorem dd_M_coefficients_46 : decode bb_M_coefficients 46 = .ok (.iload 9, 2) := by decide +kernel
theorem dd_M_coefficients_48 : decode bb_M_coefficients 48 = .ok (.iadd, 1) := by decide +kernel
theorem dd_M_coefficients_49 : decode bb_M_coefficients 49 = .ok (.iload_n 1, 1) := by decide +kernel
theorem dd_M_coefficients_50 : decode bb_M_coefficients 50 = .ok (.iload_n 3, 1) := by decide +kernel
theorem dd_M_coefficients_51 : decode bb_M_coefficients 51 = .ok (.invokevirtual 263, 3) := by decide +kernel
theorem dd_M_coefficients_54 : decode bb_M_coefficients 54 = .ok (.aload_n 0, 1) := by decide +kernel
theorem dd_M_coefficients_55 : decode bb_M_coefficients 55 = .ok (.lload 5, 2) := by decide +kernel
theorem dd_M_coefficients_57 : decode bb_M_coefficients 57 = .ok (.aload_n 0, 1) := by decide +kernel
theorem dd_M_coefficients_58 : decode bb_M_coefficients 58 = .ok (.getfield 129, 3) := by decide +kernel
theorem dd_M_coefficients_61 : decode bb_M_coefficients 61 = .ok (.ladd, 1) := by decide +kernel
theorem dd_M_coefficients_62 : decode bb_M_coefficients 62 = .ok (.lload 7, 2) := by decide +kernel
theorem dd_M_coefficients_64 : decode bb_M_coefficients 64 = .ok (.aload_n 0, 1) := by decide +kernel
theorem dd_M_coefficients_65 : decode bb_M_coefficients 65 = .ok (.getfield 133, 3) := by decide +kernel
theorem dd_M_coefficients_68 : decode bb_M_coefficients 68 = .ok (.ladd, 1) := by decide +kernel
theorem dd_M_coefficients_69 : decode bb_M_coefficients 69 = .ok (.invokevirtual 140, 3) := by decide +kernel
theorem dd_M_coefficients_72 : decode bb_M_coefficients 72 = .ok (.aload_n 0, 1) := by decide +kernel
theorem dd_M_coefficients_73 : decode bb_M_coefficients 73 = .ok (.getfield 129, 3) := by decide +kernel
theorem dd_M_coefficients_76 : decode bb_M_coefficients 76 = .ok (.lstore 5, 2) := by decide +kernel
theorem dd_M_coefficients_78 : decode bb_M_coefficients 78 = .ok (.aload_n 0, 1) := by decide +kernel
theorem dd_M_coefficients_79 : decode bb_M_coefficients 79 = .ok (.getfield 133, 3) := by decide +kernel
theorem dd_M_coefficients_82 : decode bb_M_coefficients 82 = .ok (.lstore 7, 2) := by decide +kernel
theorem dd_M_coefficients_84 : decode bb_M_coefficients 84 = .ok (.iinc 9 1, 3) := by decide +kernel
theorem dd_M_coefficients_87 : decode bb_M_coefficients 87 = .ok (.goto (-59), 3) := by decide +kernel
theorem dd_M_coefficients_90 : decode bb_M_coefficients 90 = .ok (.aload_n 0, 1) := by decide +kernel
theorem dd_M_coefficients_91 : decode bb_M_coefficients 91 = .ok (.lload 5, 2) := by decide +kernel
theorem dd_M_coefficients_93 : decode bb_M_coefficients 93 = .ok (.lload 7, 2) := by decide +kernel
theorem dd_M_coefficients_95 : decode bb_M_coefficients 95 = .ok (.iload_n 3, 1) := by decide +kernel
theorem dd_M_coefficients_96 : decode bb_M_coefficients 96 = .ok (.i2l, 1) := by decide +kernel
theorem dd_M_coefficients_97 : decode bb_M_coefficients 97 = .ok (.lconst 1, 1) := by decide +kernel
theorem dd_M_coefficients_98 : decode bb_M_coefficients 98 = .ok (.ladd, 1) := by decide +kernel
theorem dd_M_coefficients_99 : decode bb_M_coefficients 99 = .ok (.invokevirtual 266, 3) := by decide +kernel
theorem dd_M_coefficients_102 : decode bb_M_coefficients 102 = .ok (.aload_n 0, 1) := by decide +kernel
theorem dd_M_coefficients_103 : decode bb_M_coefficients 103 = .ok (.getfield 106, 3) := by decide +kernel
theorem dd_M_coefficients_106 : decode bb_M_coefficients 106 = .ok (.iload_n 1, 1) := by decide +kernel
theorem dd_M_coefficients_107 : decode bb_M_coefficients 107 = .ok (.bipush 10, 2) := by decide +kernel
theorem dd_M_coefficients_109 : decode bb_M_coefficients 109 = .ok (.iload 4, 2) := by decide +kernel
theorem dd_M_coefficients_111 : decode bb_M_coefficients 111 = .ok (.imul, 1) := by decide +kernel
theorem dd_M_coefficients_112 : decode bb_M_coefficients 112 = .ok (.iadd, 1) := by decide +kernel
theorem dd_M_coefficients_113 : decode bb_M_coefficients 113 = .ok (.iload_n 3, 1) := by decide +kernel
theorem dd_M_coefficients_114 : decode bb_M_coefficients 114 = .ok (.iadd, 1) := by decide +kernel
theorem dd_M_coefficients_115 : decode bb_M_coefficients 115 = .ok (.iconst 1, 1) := by decide +kernel
theorem dd_M_coefficients_116 : decode bb_M_coefficients 116 = .ok (.iadd, 1) := by decide +kernel
theorem dd_M_coefficients_117 : decode bb_M_coefficients 117 = .ok (.aload_n 0, 1) := by decide +kernel
theorem dd_M_coefficients_118 : decode bb_M_coefficients 118 = .ok (.getfield 129, 3) := by decide +kernel
theorem dd_M_coefficients_121 : decode bb_M_coefficients 121 = .ok (.lastore, 1) := by decide +kernel
theorem dd_M_coefficients_122 : decode bb_M_coefficients 122 = .ok (.aload_n 0, 1) := by decide +kernel
theorem dd_M_coefficients_123 : decode bb_M_coefficients 123 = .ok (.getfield 109, 3) := by decide +kernel
theorem dd_M_coefficients_126 : decode bb_M_coefficients 126 = .ok (.iload_n 1, 1) := by decide +kernel
theorem dd_M_coefficients_127 : decode bb_M_coefficients 127 = .ok (.bipush 10, 2) := by decide +kernel
theorem dd_M_coefficients_129 : decode bb_M_coefficients 129 = .ok (.iload 4, 2) := by decide +kernel
theorem dd_M_coefficients_131 : decode bb_M_coefficients 131 = .ok (.imul, 1) := by decide +kernel
theorem dd_M_coefficients_132 : decode bb_M_coefficients 132 = .ok (.iadd, 1) := by decide +kernel
theorem dd_M_coefficients_133 : decode bb_M_coefficients 133 = .ok (.iload_n 3, 1) := by decide +kernel
theorem dd_M_coefficients_134 : decode bb_M_coefficients 134 = .ok (.iadd, 1) := by decide +kernel
theorem dd_M_coefficients_135 : decode bb_M_coefficients 135 = .ok (.iconst 1, 1) := by decide +kernel
theorem dd_M_coefficients_136 : decode bb_M_coefficients 136 = .ok (.iadd, 1) := by decide +kernel
theorem dd_M_coefficients_137 : decode bb_M_coefficients 137 = .ok (.aload_n 0, 1) := by decide +kernel
theorem dd_M_coefficients_138 : decode bb_M_coefficients 138 = .ok (.getfield 133, 3) := by decide +kernel
theorem dd_M_coefficients_141 : decode bb_M_coefficients 141 = .ok (.lastore, 1) := by decide +kernel
theorem dd_M_coefficients_142 : decode bb_M_coefficients 142 = .ok (.iinc 4 1, 3) := by decide +kernel
theorem dd_M_coefficients_145 : decode bb_M_coefficients 145 = .ok (.goto (-135), 3) := by decide +kernel
theorem dd_M_coefficients_148 : decode bb_M_coefficients 148 = .ok (.iinc 3 1, 3) := by decide +kernel
theorem dd_M_coefficients_151 : decode bb_M_coefficients 151 = .ok (.goto (-149), 3) := by decide +kernel
theorem dd_M_coefficients_154 : decode bb_M_coefficients 154 = .ok (.return_, 1) := by decide +kernel
theorem dd_M_term_0 : decode bb_M_term 0 = .ok (.bipush 70, 2) := by decide +kernel
theorem dd_M_term_2 : decode bb_M_term 2 = .ok (.iload_n 1, 1) := by decide +kernel
theorem dd_M_term_3 : decode bb_M_term 3 = .ok (.imul, 1) := by decide +kernel
theorem dd_M_term_4 : decode bb_M_term 4 = .ok (.istore 4, 2) := by decide +kernel
theorem dd_M_term_6 : decode bb_M_term 6 = .ok (.aload_n 0, 1) := by decide +kernel
theorem dd_M_term_7 : decode bb_M_term 7 = .ok (.getfield 112, 3) := by decide +kernel
theorem dd_M_term_10 : decode bb_M_term 10 = .ok (.iload 4, 2) := by decide +kernel
theorem dd_M_term_12 : decode bb_M_term 12 = .ok (.iload_n 3, 1) := by decide +kernel
theorem dd_M_term_13 : decode bb_M_term 13 = .ok (.iadd, 1) := by decide +kernel
theorem dd_M_term_14 : decode bb_M_term 14 = .ok (.iload_n 3, 1) := by decide +kernel
theorem dd_M_term_15 : decode bb_M_term 15 = .ok (.ifCond .ne 12, 3) := by decide +kernel
theorem dd_M_term_18 : decode bb_M_term 18 = .ok (.aload_n 0, 1) := by decide +kernel
theorem dd_M_term_19 : decode bb_M_term 19 = .ok (.getfield 26, 3) := by decide +kernel
theorem dd_M_term_22 : decode bb_M_term 22 = .ok (.iload_n 1, 1) := by decide +kernel
theorem dd_M_term_23 : decode bb_M_term 23 = .ok (.laload, 1) := by decide +kernel
theorem dd_M_term_24 : decode bb_M_term 24 = .ok (.goto 4, 3) := by decide +kernel
theorem dd_M_term_27 : decode bb_M_term 27 = .ok (.lconst 0, 1) := by decide +kernel
theorem dd_M_term_28 : decode bb_M_term 28 = .ok (.lastore, 1) := by decide +kernel
theorem dd_M_term_29 : decode bb_M_term 29 = .ok (.aload_n 0, 1) := by decide +kernel
theorem dd_M_term_30 : decode bb_M_term 30 = .ok (.getfield 115, 3) := by decide +kernel
theorem dd_M_term_33 : decode bb_M_term 33 = .ok (.iload 4, 2) := by decide +kernel
theorem dd_M_term_35 : decode bb_M_term 35 = .ok (.iload_n 3, 1) := by decide +kernel
theorem dd_M_term_36 : decode bb_M_term 36 = .ok (.iadd, 1) := by decide +kernel
theorem dd_M_term_37 : decode bb_M_term 37 = .ok (.iload_n 3, 1) := by decide +kernel
theorem dd_M_term_38 : decode bb_M_term 38 = .ok (.ifCond .ne 12, 3) := by decide +kernel
theorem dd_M_term_41 : decode bb_M_term 41 = .ok (.aload_n 0, 1) := by decide +kernel
theorem dd_M_term_42 : decode bb_M_term 42 = .ok (.getfield 30, 3) := by decide +kernel
theorem dd_M_term_45 : decode bb_M_term 45 = .ok (.iload_n 1, 1) := by decide +kernel
theorem dd_M_term_46 : decode bb_M_term 46 = .ok (.laload, 1) := by decide +kernel
theorem dd_M_term_47 : decode bb_M_term 47 = .ok (.goto 4, 3) := by decide +kernel
theorem dd_M_term_50 : decode bb_M_term 50 = .ok (.lconst 0, 1) := by decide +kernel
theorem dd_M_term_51 : decode bb_M_term 51 = .ok (.lastore, 1) := by decide +kernel
theorem dd_M_term_52 : decode bb_M_term 52 = .ok (.iconst 0, 1) := by decide +kernel
theorem dd_M_term_53 : decode bb_M_term 53 = .ok (.istore 5, 2) := by decide +kernel
theorem dd_M_term_55 : decode bb_M_term 55 = .ok (.iload 5, 2) := by decide +kernel
theorem dd_M_term_57 : decode bb_M_term 57 = .ok (.iconst 3, 1) := by decide +kernel
theorem dd_M_term_58 : decode bb_M_term 58 = .ok (.if_icmp .ge 77, 3) := by decide +kernel
theorem dd_M_term_61 : decode bb_M_term 61 = .ok (.iconst 0, 1) := by decide +kernel
theorem dd_M_term_62 : decode bb_M_term 62 = .ok (.istore 6, 2) := by decide +kernel
theorem dd_M_term_64 : decode bb_M_term 64 = .ok (.iload 6, 2) := by decide +kernel
theorem dd_M_term_66 : decode bb_M_term 66 = .ok (.aload_n 0, 1) := by decide +kernel
theorem dd_M_term_67 : decode bb_M_term 67 = .ok (.getfield 33, 3) := by decide +kernel
theorem dd_M_term_70 : decode bb_M_term 70 = .ok (.iconst 3, 1) := by decide +kernel
theorem dd_M_term_71 : decode bb_M_term 71 = .ok (.iload_n 1, 1) := by decide +kernel
theorem dd_M_term_72 : decode bb_M_term 72 = .ok (.imul, 1) := by decide +kernel
theorem dd_M_term_73 : decode bb_M_term 73 = .ok (.iload 5, 2) := by decide +kernel
theorem dd_M_term_75 : decode bb_M_term 75 = .ok (.iadd, 1) := by decide +kernel
theorem dd_M_term_76 : decode bb_M_term 76 = .ok (.iaload, 1) := by decide +kernel
theorem dd_M_term_77 : decode bb_M_term 77 = .ok (.if_icmp .ge 52, 3) := by decide +kernel
theorem dd_M_term_80 : decode bb_M_term 80 = .ok (.aload_n 0, 1) := by decide +kernel
theorem dd_M_term_81 : decode bb_M_term 81 = .ok (.iload 4, 2) := by decide +kernel
theorem dd_M_term_83 : decode bb_M_term 83 = .ok (.iload_n 2, 1) := by decide +kernel
theorem dd_M_term_84 : decode bb_M_term 84 = .ok (.bipush 10, 2) := by decide +kernel
theorem dd_M_term_86 : decode bb_M_term 86 = .ok (.iload 5, 2) := by decide +kernel
theorem dd_M_term_88 : decode bb_M_term 88 = .ok (.imul, 1) := by decide +kernel
theorem dd_M_term_89 : decode bb_M_term 89 = .ok (.iadd, 1) := by decide +kernel
theorem dd_M_term_90 : decode bb_M_term 90 = .ok (.iload_n 3, 1) := by decide +kernel
theorem dd_M_term_91 : decode bb_M_term 91 = .ok (.invokevirtual 259, 3) := by decide +kernel
theorem dd_M_term_94 : decode bb_M_term 94 = .ok (.iinc 4 10, 3) := by decide +kernel
theorem dd_M_term_97 : decode bb_M_term 97 = .ok (.aload_n 0, 1) := by decide +kernel
theorem dd_M_term_98 : decode bb_M_term 98 = .ok (.getfield 112, 3) := by decide +kernel
theorem dd_M_term_101 : decode bb_M_term 101 = .ok (.iload 4, 2) := by decide +kernel
theorem dd_M_term_103 : decode bb_M_term 103 = .ok (.iload_n 3, 1) := by decide +kernel
theorem dd_M_term_104 : decode bb_M_term 104 = .ok (.iadd, 1) := by decide +kernel
theorem dd_M_term_105 : decode bb_M_term 105 = .ok (.aload_n 0, 1) := by decide +kernel
theorem dd_M_term_106 : decode bb_M_term 106 = .ok (.getfield 129, 3) := by decide +kernel
theorem dd_M_term_109 : decode bb_M_term 109 = .ok (.lastore, 1) := by decide +kernel
theorem dd_M_term_110 : decode bb_M_term 110 = .ok (.aload_n 0, 1) := by decide +kernel
theorem dd_M_term_111 : decode bb_M_term 111 = .ok (.getfield 115, 3) := by decide +kernel
theorem dd_M_term_114 : decode bb_M_term 114 = .ok (.iload 4, 2) := by decide +kernel
theorem dd_M_term_116 : decode bb_M_term 116 = .ok (.iload_n 3, 1) := by decide +kernel
theorem dd_M_term_117 : decode bb_M_term 117 = .ok (.iadd, 1) := by decide +kernel
theorem dd_M_term_118 : decode bb_M_term 118 = .ok (.aload_n 0, 1) := by decide +kernel
theorem dd_M_term_119 : decode bb_M_term 119 = .ok (.getfield 133, 3) := by decide +kernel
theorem dd_M_term_122 : decode bb_M_term 122 = .ok (.lastore, 1) := by decide +kernel
theorem dd_M_term_123 : decode bb_M_term 123 = .ok (.iinc 6 1, 3) := by decide +kernel
theorem dd_M_term_126 : decode bb_M_term 126 = .ok (.goto (-62), 3) := by decide +kernel
theorem dd_M_term_129 : decode bb_M_term 129 = .ok (.iinc 5 1, 3) := by decide +kernel
theorem dd_M_term_132 : decode bb_M_term 132 = .ok (.goto (-77), 3) := by decide +kernel
theorem dd_M_term_135 : decode bb_M_term 135 = .ok (.aload_n 0, 1) := by decide +kernel
theorem dd_M_term_136 : decode bb_M_term 136 = .ok (.aload_n 0, 1) := by decide +kernel
theorem dd_M_term_137 : decode bb_M_term 137 = .ok (.getfield 112, 3) := by decide +kernel
theorem dd_M_term_140 : decode bb_M_term 140 = .ok (.iload 4, 2) := by decide +kernel
theorem dd_M_term_142 : decode bb_M_term 142 = .ok (.iload_n 3, 1) := by decide +kernel
theorem dd_M_term_143 : decode bb_M_term 143 = .ok (.iadd, 1) := by decide +kernel
theorem dd_M_term_144 : decode bb_M_term 144 = .ok (.laload, 1) := by decide +kernel
theorem dd_M_term_145 : decode bb_M_term 145 = .ok (.putfield 129, 3) := by decide +kernel
theorem dd_M_term_148 : decode bb_M_term 148 = .ok (.aload_n 0, 1) := by decide +kernel
theorem dd_M_term_149 : decode bb_M_term 149 = .ok (.aload_n 0, 1) := by decide +kernel
theorem dd_M_term_150 : decode bb_M_term 150 = .ok (.getfield 115, 3) := by decide +kernel
theorem dd_M_term_153 : decode bb_M_term 153 = .ok (.iload 4, 2) := by decide +kernel
theorem dd_M_term_155 : decode bb_M_term 155 = .ok (.iload_n 3, 1) := by decide +kernel
theorem dd_M_term_156 : decode bb_M_term 156 = .ok (.iadd, 1) := by decide +kernel
theorem dd_M_term_157 : decode bb_M_term 157 = .ok (.laload, 1) := by decide +kernel
theorem dd_M_term_158 : decode bb_M_term 158 = .ok (.putfield 133, 3) := by decide +kernel
theorem dd_M_term_161 : decode bb_M_term 161 = .ok (.return_, 1) := by decide +kernel
theorem dd_M_product_0 : decode bb_M_product 0 = .ok (.lconst 0, 1) := by decide +kernel
theorem dd_M_product_1 : decode bb_M_product 1 = .ok (.lstore 4, 2) := by decide +kernel
theorem dd_M_product_3 : decode bb_M_product 3 = .ok (.lconst 0, 1) := by decide +kernel
theorem dd_M_product_4 : decode bb_M_product 4 = .ok (.lstore 6, 2) := by decide +kernel
theorem dd_M_product_6 : decode bb_M_product 6 = .ok (.iconst 0, 1) := by decide +kernel
theorem dd_M_product_7 : decode bb_M_product 7 = .ok (.istore 8, 2) := by decide +kernel
theorem dd_M_product_9 : decode bb_M_product 9 = .ok (.iload 8, 2) := by decide +kernel
theorem dd_M_product_11 : decode bb_M_product 11 = .ok (.iload_n 3, 1) := by decide +kernel
theorem dd_M_product_12 : decode bb_M_product 12 = .ok (.if_icmp .gt 83, 3) := by decide +kernel
theorem dd_M_product_15 : decode bb_M_product 15 = .ok (.aload_n 0, 1) := by decide +kernel
theorem dd_M_product_16 : decode bb_M_product 16 = .ok (.aload_n 0, 1) := by decide +kernel
theorem dd_M_product_17 : decode bb_M_product 17 = .ok (.getfield 112, 3) := by decide +kernel
theorem dd_M_product_20 : decode bb_M_product 20 = .ok (.iload_n 1, 1) := by decide +kernel
theorem dd_M_product_21 : decode bb_M_product 21 = .ok (.iload 8, 2) := by decide +kernel
theorem dd_M_product_23 : decode bb_M_product 23 = .ok (.iadd, 1) := by decide +kernel
theorem dd_M_product_24 : decode bb_M_product 24 = .ok (.laload, 1) := by decide +kernel
theorem dd_M_product_25 : decode bb_M_product 25 = .ok (.aload_n 0, 1) := by decide +kernel
theorem dd_M_product_26 : decode bb_M_product 26 = .ok (.getfield 115, 3) := by decide +kernel
theorem dd_M_product_29 : decode bb_M_product 29 = .ok (.iload_n 1, 1) := by decide +kernel
theorem dd_M_product_30 : decode bb_M_product 30 = .ok (.iload 8, 2) := by decide +kernel
theorem dd_M_product_32 : decode bb_M_product 32 = .ok (.iadd, 1) := by decide +kernel
theorem dd_M_product_33 : decode bb_M_product 33 = .ok (.laload, 1) := by decide +kernel
theorem dd_M_product_34 : decode bb_M_product 34 = .ok (.aload_n 0, 1) := by decide +kernel
theorem dd_M_product_35 : decode bb_M_product 35 = .ok (.getfield 106, 3) := by decide +kernel
theorem dd_M_product_38 : decode bb_M_product 38 = .ok (.iload_n 2, 1) := by decide +kernel
theorem dd_M_product_39 : decode bb_M_product 39 = .ok (.iload_n 3, 1) := by decide +kernel
theorem dd_M_product_40 : decode bb_M_product 40 = .ok (.iadd, 1) := by decide +kernel
theorem dd_M_product_41 : decode bb_M_product 41 = .ok (.iload 8, 2) := by decide +kernel
theorem dd_M_product_43 : decode bb_M_product 43 = .ok (.isub, 1) := by decide +kernel
theorem dd_M_product_44 : decode bb_M_product 44 = .ok (.laload, 1) := by decide +kernel
theorem dd_M_product_45 : decode bb_M_product 45 = .ok (.aload_n 0, 1) := by decide +kernel
theorem dd_M_product_46 : decode bb_M_product 46 = .ok (.getfield 109, 3) := by decide +kernel
theorem dd_M_product_49 : decode bb_M_product 49 = .ok (.iload_n 2, 1) := by decide +kernel
theorem dd_M_product_50 : decode bb_M_product 50 = .ok (.iload_n 3, 1) := by decide +kernel
theorem dd_M_product_51 : decode bb_M_product 51 = .ok (.iadd, 1) := by decide +kernel
theorem dd_M_product_52 : decode bb_M_product 52 = .ok (.iload 8, 2) := by decide +kernel
theorem dd_M_product_54 : decode bb_M_product 54 = .ok (.isub, 1) := by decide +kernel
theorem dd_M_product_55 : decode bb_M_product 55 = .ok (.laload, 1) := by decide +kernel
theorem dd_M_product_56 : decode bb_M_product 56 = .ok (.invokevirtual 231, 3) := by decide +kernel
theorem dd_M_product_59 : decode bb_M_product 59 = .ok (.aload_n 0, 1) := by decide +kernel
theorem dd_M_product_60 : decode bb_M_product 60 = .ok (.lload 4, 2) := by decide +kernel
theorem dd_M_product_62 : decode bb_M_product 62 = .ok (.aload_n 0, 1) := by decide +kernel
theorem dd_M_product_63 : decode bb_M_product 63 = .ok (.getfield 129, 3) := by decide +kernel
theorem dd_M_product_66 : decode bb_M_product 66 = .ok (.ladd, 1) := by decide +kernel
theorem dd_M_product_67 : decode bb_M_product 67 = .ok (.lload 6, 2) := by decide +kernel
theorem dd_M_product_69 : decode bb_M_product 69 = .ok (.aload_n 0, 1) := by decide +kernel
theorem dd_M_product_70 : decode bb_M_product 70 = .ok (.getfield 133, 3) := by decide +kernel
theorem dd_M_product_73 : decode bb_M_product 73 = .ok (.ladd, 1) := by decide +kernel
theorem dd_M_product_74 : decode bb_M_product 74 = .ok (.invokevirtual 140, 3) := by decide +kernel
theorem dd_M_product_77 : decode bb_M_product 77 = .ok (.aload_n 0, 1) := by decide +kernel
theorem dd_M_product_78 : decode bb_M_product 78 = .ok (.getfield 129, 3) := by decide +kernel
theorem dd_M_product_81 : decode bb_M_product 81 = .ok (.lstore 4, 2) := by decide +kernel
theorem dd_M_product_83 : decode bb_M_product 83 = .ok (.aload_n 0, 1) := by decide +kernel
theorem dd_M_product_84 : decode bb_M_product 84 = .ok (.getfield 133, 3) := by decide +kernel
theorem dd_M_product_87 : decode bb_M_product 87 = .ok (.lstore 6, 2) := by decide +kernel
theorem dd_M_product_89 : decode bb_M_product 89 = .ok (.iinc 8 1, 3) := by decide +kernel
theorem dd_M_product_92 : decode bb_M_product 92 = .ok (.goto (-83), 3) := by decide +kernel
theorem dd_M_product_95 : decode bb_M_product 95 = .ok (.aload_n 0, 1) := by decide +kernel
theorem dd_M_product_96 : decode bb_M_product 96 = .ok (.lload 4, 2) := by decide +kernel
theorem dd_M_product_98 : decode bb_M_product 98 = .ok (.putfield 129, 3) := by decide +kernel
theorem dd_M_product_101 : decode bb_M_product 101 = .ok (.aload_n 0, 1) := by decide +kernel
theorem dd_M_product_102 : decode bb_M_product 102 = .ok (.lload 6, 2) := by decide +kernel
theorem dd_M_product_104 : decode bb_M_product 104 = .ok (.putfield 133, 3) := by decide +kernel
theorem dd_M_product_107 : decode bb_M_product 107 = .ok (.return_, 1) := by decide +kernel
theorem dd_M_over_0 : decode bb_M_over 0 = .ok (.aload_n 0, 1) := by decide +kernel
theorem dd_M_over_1 : decode bb_M_over 1 = .ok (.lload_n 1, 1) := by decide +kernel
theorem dd_M_over_2 : decode bb_M_over 2 = .ok (.lload 5, 2) := by decide +kernel
theorem dd_M_over_4 : decode bb_M_over 4 = .ok (.invokestatic 144, 3) := by decide +kernel
theorem dd_M_over_7 : decode bb_M_over 7 = .ok (.lload_n 3, 1) := by decide +kernel
theorem dd_M_over_8 : decode bb_M_over 8 = .ok (.lneg, 1) := by decide +kernel
theorem dd_M_over_9 : decode bb_M_over 9 = .ok (.lload 5, 2) := by decide +kernel
theorem dd_M_over_11 : decode bb_M_over 11 = .ok (.invokestatic 144, 3) := by decide +kernel
theorem dd_M_over_14 : decode bb_M_over 14 = .ok (.lneg, 1) := by decide +kernel
theorem dd_M_over_15 : decode bb_M_over 15 = .ok (.invokevirtual 140, 3) := by decide +kernel
theorem dd_M_over_18 : decode bb_M_over 18 = .ok (.return_, 1) := by decide +kernel
theorem dd_M_state_0 : decode bb_M_state 0 = .ok (.aload_n 0, 1) := by decide +kernel
theorem dd_M_state_1 : decode bb_M_state 1 = .ok (.iconst 0, 1) := by decide +kernel
theorem dd_M_state_2 : decode bb_M_state 2 = .ok (.putfield 118, 3) := by decide +kernel
theorem dd_M_state_5 : decode bb_M_state 5 = .ok (.iload_n 1, 1) := by decide +kernel
theorem dd_M_state_6 : decode bb_M_state 6 = .ok (.tableswitch 68 0 5 #[38, 43, 48, 53, 58, 63], 38) := by decide +kernel
theorem dd_M_state_44 : decode bb_M_state 44 = .ok (.aload_n 0, 1) := by decide +kernel
theorem dd_M_state_45 : decode bb_M_state 45 = .ok (.getfield 206, 3) := by decide +kernel
theorem dd_M_state_48 : decode bb_M_state 48 = .ok (.ireturn, 1) := by decide +kernel
theorem dd_M_state_49 : decode bb_M_state 49 = .ok (.aload_n 0, 1) := by decide +kernel
theorem dd_M_state_50 : decode bb_M_state 50 = .ok (.getfield 70, 3) := by decide +kernel
theorem dd_M_state_53 : decode bb_M_state 53 = .ok (.ireturn, 1) := by decide +kernel
theorem dd_M_state_54 : decode bb_M_state 54 = .ok (.aload_n 0, 1) := by decide +kernel
theorem dd_M_state_55 : decode bb_M_state 55 = .ok (.getfield 218, 3) := by decide +kernel
theorem dd_M_state_58 : decode bb_M_state 58 = .ok (.ireturn, 1) := by decide +kernel
theorem dd_M_state_59 : decode bb_M_state 59 = .ok (.aload_n 0, 1) := by decide +kernel
theorem dd_M_state_60 : decode bb_M_state 60 = .ok (.getfield 212, 3) := by decide +kernel
theorem dd_M_state_63 : decode bb_M_state 63 = .ok (.ireturn, 1) := by decide +kernel
theorem dd_M_state_64 : decode bb_M_state 64 = .ok (.aload_n 0, 1) := by decide +kernel
theorem dd_M_state_65 : decode bb_M_state 65 = .ok (.getfield 215, 3) := by decide +kernel
theorem dd_M_state_68 : decode bb_M_state 68 = .ok (.ireturn, 1) := by decide +kernel
theorem dd_M_state_69 : decode bb_M_state 69 = .ok (.aload_n 0, 1) := by decide +kernel
theorem dd_M_state_70 : decode bb_M_state 70 = .ok (.getfield 221, 3) := by decide +kernel
theorem dd_M_state_73 : decode bb_M_state 73 = .ok (.ireturn, 1) := by decide +kernel
theorem dd_M_state_74 : decode bb_M_state 74 = .ok (.iconst (-1), 1) := by decide +kernel
theorem dd_M_state_75 : decode bb_M_state 75 = .ok (.ireturn, 1) := by decide +kernel
theorem dd_M_box_0 : decode bb_M_box 0 = .ok (.iload_n 2, 1) := by decide +kernel
theorem dd_M_box_1 : decode bb_M_box 1 = .ok (.ifCond .lt 24, 3) := by decide +kernel
theorem dd_M_box_4 : decode bb_M_box 4 = .ok (.iload_n 2, 1) := by decide +kernel
theorem dd_M_box_5 : decode bb_M_box 5 = .ok (.aload_n 0, 1) := by decide +kernel
theorem dd_M_box_6 : decode bb_M_box 6 = .ok (.getfield 197, 3) := by decide +kernel
theorem dd_M_box_9 : decode bb_M_box 9 = .ok (.if_icmp .ge 16, 3) := by decide +kernel
theorem dd_M_box_12 : decode bb_M_box 12 = .ok (.iload_n 3, 1) := by decide +kernel
theorem dd_M_box_13 : decode bb_M_box 13 = .ok (.ifCond .lt 12, 3) := by decide +kernel
theorem dd_M_box_16 : decode bb_M_box 16 = .ok (.iload_n 3, 1) := by decide +kernel
theorem dd_M_box_17 : decode bb_M_box 17 = .ok (.iconst 4, 1) := by decide +kernel
theorem dd_M_box_18 : decode bb_M_box 18 = .ok (.if_icmp .ge 7, 3) := by decide +kernel
theorem dd_M_box_21 : decode bb_M_box 21 = .ok (.iconst 1, 1) := by decide +kernel
theorem dd_M_box_22 : decode bb_M_box 22 = .ok (.goto 4, 3) := by decide +kernel
theorem dd_M_box_25 : decode bb_M_box 25 = .ok (.iconst 0, 1) := by decide +kernel
theorem dd_M_box_26 : decode bb_M_box 26 = .ok (.istore 4, 2) := by decide +kernel
theorem dd_M_box_28 : decode bb_M_box 28 = .ok (.iload_n 2, 1) := by decide +kernel
theorem dd_M_box_29 : decode bb_M_box 29 = .ok (.iconst 3, 1) := by decide +kernel
theorem dd_M_box_30 : decode bb_M_box 30 = .ok (.if_icmp .ne 16, 3) := by decide +kernel
theorem dd_M_box_33 : decode bb_M_box 33 = .ok (.iload_n 3, 1) := by decide +kernel
theorem dd_M_box_34 : decode bb_M_box 34 = .ok (.ifCond .eq 8, 3) := by decide +kernel
theorem dd_M_box_37 : decode bb_M_box 37 = .ok (.iload_n 3, 1) := by decide +kernel
theorem dd_M_box_38 : decode bb_M_box 38 = .ok (.iconst 1, 1) := by decide +kernel
theorem dd_M_box_39 : decode bb_M_box 39 = .ok (.if_icmp .ne 7, 3) := by decide +kernel
theorem dd_M_box_42 : decode bb_M_box 42 = .ok (.iconst 1, 1) := by decide +kernel
theorem dd_M_box_43 : decode bb_M_box 43 = .ok (.goto 4, 3) := by decide +kernel
theorem dd_M_box_46 : decode bb_M_box 46 = .ok (.iconst 0, 1) := by decide +kernel
theorem dd_M_box_47 : decode bb_M_box 47 = .ok (.istore 5, 2) := by decide +kernel
theorem dd_M_box_49 : decode bb_M_box 49 = .ok (.aload_n 0, 1) := by decide +kernel
theorem dd_M_box_50 : decode bb_M_box 50 = .ok (.iload_n 1, 1) := by decide +kernel
theorem dd_M_box_51 : decode bb_M_box 51 = .ok (.ifCond .lt 32, 3) := by decide +kernel
theorem dd_M_box_54 : decode bb_M_box 54 = .ok (.iload_n 1, 1) := by decide +kernel
theorem dd_M_box_55 : decode bb_M_box 55 = .ok (.aload_n 0, 1) := by decide +kernel
theorem dd_M_box_56 : decode bb_M_box 56 = .ok (.getfield 218, 3) := by decide +kernel
theorem dd_M_box_59 : decode bb_M_box 59 = .ok (.if_icmp .ge 24, 3) := by decide +kernel
theorem dd_M_box_62 : decode bb_M_box 62 = .ok (.iload_n 1, 1) := by decide +kernel
theorem dd_M_box_63 : decode bb_M_box 63 = .ok (.sipush 400, 3) := by decide +kernel
theorem dd_M_box_66 : decode bb_M_box 66 = .ok (.if_icmp .ge 17, 3) := by decide +kernel
theorem dd_M_box_69 : decode bb_M_box 69 = .ok (.iload 4, 2) := by decide +kernel
theorem dd_M_box_71 : decode bb_M_box 71 = .ok (.ifCond .ne 8, 3) := by decide +kernel
theorem dd_M_box_74 : decode bb_M_box 74 = .ok (.iload 5, 2) := by decide +kernel
theorem dd_M_box_76 : decode bb_M_box 76 = .ok (.ifCond .eq 7, 3) := by decide +kernel
theorem dd_M_box_79 : decode bb_M_box 79 = .ok (.iconst 0, 1) := by decide +kernel
theorem dd_M_box_80 : decode bb_M_box 80 = .ok (.goto 4, 3) := by decide +kernel
theorem dd_M_box_83 : decode bb_M_box 83 = .ok (.iconst 1, 1) := by decide +kernel
theorem dd_M_box_84 : decode bb_M_box 84 = .ok (.putfield 118, 3) := by decide +kernel
theorem dd_M_box_87 : decode bb_M_box 87 = .ok (.aload_n 0, 1) := by decide +kernel
theorem dd_M_box_88 : decode bb_M_box 88 = .ok (.getfield 118, 3) := by decide +kernel
theorem dd_M_box_91 : decode bb_M_box 91 = .ok (.ifCond .le 5, 3) := by decide +kernel
theorem dd_M_box_94 : decode bb_M_box 94 = .ok (.iconst 0, 1) := by decide +kernel
theorem dd_M_box_95 : decode bb_M_box 95 = .ok (.ireturn, 1) := by decide +kernel
theorem dd_M_box_96 : decode bb_M_box 96 = .ok (.iload 5, 2) := by decide +kernel
theorem dd_M_box_98 : decode bb_M_box 98 = .ok (.ifCond .eq 23, 3) := by decide +kernel
theorem dd_M_box_101 : decode bb_M_box 101 = .ok (.iload_n 3, 1) := by decide +kernel
theorem dd_M_box_102 : decode bb_M_box 102 = .ok (.ifCond .ne 12, 3) := by decide +kernel
theorem dd_M_box_105 : decode bb_M_box 105 = .ok (.aload_n 0, 1) := by decide +kernel
theorem dd_M_box_106 : decode bb_M_box 106 = .ok (.getfield 85, 3) := by decide +kernel
theorem dd_M_box_109 : decode bb_M_box 109 = .ok (.iload_n 1, 1) := by decide +kernel
theorem dd_M_box_110 : decode bb_M_box 110 = .ok (.iaload, 1) := by decide +kernel
theorem dd_M_box_111 : decode bb_M_box 111 = .ok (.goto 9, 3) := by decide +kernel
theorem dd_M_box_114 : decode bb_M_box 114 = .ok (.aload_n 0, 1) := by decide +kernel
theorem dd_M_box_115 : decode bb_M_box 115 = .ok (.getfield 88, 3) := by decide +kernel
theorem dd_M_box_118 : decode bb_M_box 118 = .ok (.iload_n 1, 1) := by decide +kernel
theorem dd_M_box_119 : decode bb_M_box 119 = .ok (.iaload, 1) := by decide +kernel
theorem dd_M_box_120 : decode bb_M_box 120 = .ok (.ireturn, 1) := by decide +kernel
theorem dd_M_box_121 : decode bb_M_box 121 = .ok (.iconst 3, 1) := by decide +kernel
theorem dd_M_box_122 : decode bb_M_box 122 = .ok (.iload_n 1, 1) := by decide +kernel
theorem dd_M_box_123 : decode bb_M_box 123 = .ok (.imul, 1) := by decide +kernel
theorem dd_M_box_124 : decode bb_M_box 124 = .ok (.iload_n 2, 1) := by decide +kernel
theorem dd_M_box_125 : decode bb_M_box 125 = .ok (.iadd, 1) := by decide +kernel
theorem dd_M_box_126 : decode bb_M_box 126 = .ok (.istore 6, 2) := by decide +kernel
theorem dd_M_box_128 : decode bb_M_box 128 = .ok (.iload_n 3, 1) := by decide +kernel
theorem dd_M_box_129 : decode bb_M_box 129 = .ok (.ifCond .ne 13, 3) := by decide +kernel
theorem dd_M_box_132 : decode bb_M_box 132 = .ok (.aload_n 0, 1) := by decide +kernel
theorem dd_M_box_133 : decode bb_M_box 133 = .ok (.getfield 73, 3) := by decide +kernel
theorem dd_M_box_136 : decode bb_M_box 136 = .ok (.iload 6, 2) := by decide +kernel
theorem dd_M_box_138 : decode bb_M_box 138 = .ok (.iaload, 1) := by decide +kernel
theorem dd_M_box_139 : decode bb_M_box 139 = .ok (.goto 40, 3) := by decide +kernel
theorem dd_M_box_142 : decode bb_M_box 142 = .ok (.iload_n 3, 1) := by decide +kernel
theorem dd_M_box_143 : decode bb_M_box 143 = .ok (.iconst 1, 1) := by decide +kernel
theorem dd_M_box_144 : decode bb_M_box 144 = .ok (.if_icmp .ne 13, 3) := by decide +kernel
theorem dd_M_box_147 : decode bb_M_box 147 = .ok (.aload_n 0, 1) := by decide +kernel
theorem dd_M_box_148 : decode bb_M_box 148 = .ok (.getfield 76, 3) := by decide +kernel
theorem dd_M_box_151 : decode bb_M_box 151 = .ok (.iload 6, 2) := by decide +kernel
theorem dd_M_box_153 : decode bb_M_box 153 = .ok (.iaload, 1) := by decide +kernel
theorem dd_M_box_154 : decode bb_M_box 154 = .ok (.goto 25, 3) := by decide +kernel
theorem dd_M_box_157 : decode bb_M_box 157 = .ok (.iload_n 3, 1) := by decide +kernel
theorem dd_M_box_158 : decode bb_M_box 158 = .ok (.iconst 2, 1) := by decide +kernel
theorem dd_M_box_159 : decode bb_M_box 159 = .ok (.if_icmp .ne 13, 3) := by decide +kernel
theorem dd_M_box_162 : decode bb_M_box 162 = .ok (.aload_n 0, 1) := by decide +kernel
theorem dd_M_box_163 : decode bb_M_box 163 = .ok (.getfield 79, 3) := by decide +kernel
theorem dd_M_box_166 : decode bb_M_box 166 = .ok (.iload 6, 2) := by decide +kernel
theorem dd_M_box_168 : decode bb_M_box 168 = .ok (.iaload, 1) := by decide +kernel
theorem dd_M_box_169 : decode bb_M_box 169 = .ok (.goto 10, 3) := by decide +kernel
theorem dd_M_box_172 : decode bb_M_box 172 = .ok (.aload_n 0, 1) := by decide +kernel
theorem dd_M_box_173 : decode bb_M_box 173 = .ok (.getfield 82, 3) := by decide +kernel
theorem dd_M_box_176 : decode bb_M_box 176 = .ok (.iload 6, 2) := by decide +kernel
theorem dd_M_box_178 : decode bb_M_box 178 = .ok (.iaload, 1) := by decide +kernel
theorem dd_M_box_179 : decode bb_M_box 179 = .ok (.ireturn, 1) := by decide +kernel
theorem dd_M_crossing_0 : decode bb_M_crossing 0 = .ok (.aload_n 0, 1) := by decide +kernel
theorem dd_M_crossing_1 : decode bb_M_crossing 1 = .ok (.iload_n 1, 1) := by decide +kernel
theorem dd_M_crossing_2 : decode bb_M_crossing 2 = .ok (.ifCond .lt 30, 3) := by decide +kernel
theorem dd_M_crossing_5 : decode bb_M_crossing 5 = .ok (.iload_n 1, 1) := by decide +kernel
theorem dd_M_crossing_6 : decode bb_M_crossing 6 = .ok (.aload_n 0, 1) := by decide +kernel
theorem dd_M_crossing_7 : decode bb_M_crossing 7 = .ok (.getfield 221, 3) := by decide +kernel
theorem dd_M_crossing_10 : decode bb_M_crossing 10 = .ok (.if_icmp .ge 22, 3) := by decide +kernel
theorem dd_M_crossing_13 : decode bb_M_crossing 13 = .ok (.iload_n 1, 1) := by decide +kernel
theorem dd_M_crossing_14 : decode bb_M_crossing 14 = .ok (.bipush 100, 2) := by decide +kernel
theorem dd_M_crossing_16 : decode bb_M_crossing 16 = .ok (.if_icmp .ge 16, 3) := by decide +kernel
theorem dd_M_crossing_19 : decode bb_M_crossing 19 = .ok (.iload_n 2, 1) := by decide +kernel
theorem dd_M_crossing_20 : decode bb_M_crossing 20 = .ok (.ifCond .lt 12, 3) := by decide +kernel
theorem dd_M_crossing_23 : decode bb_M_crossing 23 = .ok (.iload_n 2, 1) := by decide +kernel
theorem dd_M_crossing_24 : decode bb_M_crossing 24 = .ok (.iconst 3, 1) := by decide +kernel
theorem dd_M_crossing_25 : decode bb_M_crossing 25 = .ok (.if_icmp .ge 7, 3) := by decide +kernel
theorem dd_M_crossing_28 : decode bb_M_crossing 28 = .ok (.iconst 0, 1) := by decide +kernel
theorem dd_M_crossing_29 : decode bb_M_crossing 29 = .ok (.goto 4, 3) := by decide +kernel
theorem dd_M_crossing_32 : decode bb_M_crossing 32 = .ok (.iconst 1, 1) := by decide +kernel
theorem dd_M_crossing_33 : decode bb_M_crossing 33 = .ok (.putfield 118, 3) := by decide +kernel
theorem dd_M_crossing_36 : decode bb_M_crossing 36 = .ok (.aload_n 0, 1) := by decide +kernel
theorem dd_M_crossing_37 : decode bb_M_crossing 37 = .ok (.getfield 118, 3) := by decide +kernel
theorem dd_M_crossing_40 : decode bb_M_crossing 40 = .ok (.ifCond .le 7, 3) := by decide +kernel
theorem dd_M_crossing_43 : decode bb_M_crossing 43 = .ok (.iconst 0, 1) := by decide +kernel
theorem dd_M_crossing_44 : decode bb_M_crossing 44 = .ok (.goto 13, 3) := by decide +kernel
theorem dd_M_crossing_47 : decode bb_M_crossing 47 = .ok (.aload_n 0, 1) := by decide +kernel
theorem dd_M_crossing_48 : decode bb_M_crossing 48 = .ok (.getfield 91, 3) := by decide +kernel
theorem dd_M_crossing_51 : decode bb_M_crossing 51 = .ok (.iconst 3, 1) := by decide +kernel
theorem dd_M_crossing_52 : decode bb_M_crossing 52 = .ok (.iload_n 1, 1) := by decide +kernel
theorem dd_M_crossing_53 : decode bb_M_crossing 53 = .ok (.imul, 1) := by decide +kernel
theorem dd_M_crossing_54 : decode bb_M_crossing 54 = .ok (.iload_n 2, 1) := by decide +kernel
theorem dd_M_crossing_55 : decode bb_M_crossing 55 = .ok (.iadd, 1) := by decide +kernel
theorem dd_M_crossing_56 : decode bb_M_crossing 56 = .ok (.iaload, 1) := by decide +kernel
theorem dd_M_crossing_57 : decode bb_M_crossing 57 = .ok (.ireturn, 1) := by decide +kernel
theorem dd_M_coefficient_0 : decode bb_M_coefficient 0 = .ok (.aload_n 0, 1) := by decide +kernel
theorem dd_M_coefficient_1 : decode bb_M_coefficient 1 = .ok (.iload_n 1, 1) := by decide +kernel
theorem dd_M_coefficient_2 : decode bb_M_coefficient 2 = .ok (.ifCond .lt 25, 3) := by decide +kernel
theorem dd_M_coefficient_5 : decode bb_M_coefficient 5 = .ok (.iload_n 1, 1) := by decide +kernel
theorem dd_M_coefficient_6 : decode bb_M_coefficient 6 = .ok (.aload_n 0, 1) := by decide +kernel
theorem dd_M_coefficient_7 : decode bb_M_coefficient 7 = .ok (.getfield 197, 3) := by decide +kernel
theorem dd_M_coefficient_10 : decode bb_M_coefficient 10 = .ok (.if_icmp .ge 17, 3) := by decide +kernel
theorem dd_M_coefficient_13 : decode bb_M_coefficient 13 = .ok (.iload_n 2, 1) := by decide +kernel
theorem dd_M_coefficient_14 : decode bb_M_coefficient 14 = .ok (.ifCond .lt 13, 3) := by decide +kernel
theorem dd_M_coefficient_17 : decode bb_M_coefficient 17 = .ok (.iload_n 2, 1) := by decide +kernel
theorem dd_M_coefficient_18 : decode bb_M_coefficient 18 = .ok (.bipush 10, 2) := by decide +kernel
theorem dd_M_coefficient_20 : decode bb_M_coefficient 20 = .ok (.if_icmp .ge 7, 3) := by decide +kernel
theorem dd_M_coefficient_23 : decode bb_M_coefficient 23 = .ok (.iconst 0, 1) := by decide +kernel
theorem dd_M_coefficient_24 : decode bb_M_coefficient 24 = .ok (.goto 4, 3) := by decide +kernel
theorem dd_M_coefficient_27 : decode bb_M_coefficient 27 = .ok (.iconst 1, 1) := by decide +kernel
theorem dd_M_coefficient_28 : decode bb_M_coefficient 28 = .ok (.putfield 118, 3) := by decide +kernel
theorem dd_M_coefficient_31 : decode bb_M_coefficient 31 = .ok (.aload_n 0, 1) := by decide +kernel
theorem dd_M_coefficient_32 : decode bb_M_coefficient 32 = .ok (.getfield 118, 3) := by decide +kernel
theorem dd_M_coefficient_35 : decode bb_M_coefficient 35 = .ok (.ifCond .le 5, 3) := by decide +kernel
theorem dd_M_coefficient_38 : decode bb_M_coefficient 38 = .ok (.iconst 0, 1) := by decide +kernel
theorem dd_M_coefficient_39 : decode bb_M_coefficient 39 = .ok (.ireturn, 1) := by decide +kernel
theorem dd_M_coefficient_40 : decode bb_M_coefficient 40 = .ok (.aload_n 0, 1) := by decide +kernel
theorem dd_M_coefficient_41 : decode bb_M_coefficient 41 = .ok (.iconst 0, 1) := by decide +kernel
theorem dd_M_coefficient_42 : decode bb_M_coefficient 42 = .ok (.putfield 136, 3) := by decide +kernel
theorem dd_M_coefficient_45 : decode bb_M_coefficient 45 = .ok (.aload_n 0, 1) := by decide +kernel
theorem dd_M_coefficient_46 : decode bb_M_coefficient 46 = .ok (.iconst 0, 1) := by decide +kernel
theorem dd_M_coefficient_47 : decode bb_M_coefficient 47 = .ok (.iconst 0, 1) := by decide +kernel
theorem dd_M_coefficient_48 : decode bb_M_coefficient 48 = .ok (.invokevirtual 270, 3) := by decide +kernel
theorem dd_M_coefficient_51 : decode bb_M_coefficient 51 = .ok (.aload_n 0, 1) := by decide +kernel
theorem dd_M_coefficient_52 : decode bb_M_coefficient 52 = .ok (.iconst 0, 1) := by decide +kernel
theorem dd_M_coefficient_53 : decode bb_M_coefficient 53 = .ok (.iload_n 2, 1) := by decide +kernel
theorem dd_M_coefficient_54 : decode bb_M_coefficient 54 = .ok (.invokevirtual 274, 3) := by decide +kernel
theorem dd_M_coefficient_57 : decode bb_M_coefficient 57 = .ok (.aload_n 0, 1) := by decide +kernel
theorem dd_M_coefficient_58 : decode bb_M_coefficient 58 = .ok (.getfield 136, 3) := by decide +kernel
theorem dd_M_coefficient_61 : decode bb_M_coefficient 61 = .ok (.ifCond .eq 10, 3) := by decide +kernel
theorem dd_M_coefficient_64 : decode bb_M_coefficient 64 = .ok (.aload_n 0, 1) := by decide +kernel
theorem dd_M_coefficient_65 : decode bb_M_coefficient 65 = .ok (.iconst 2, 1) := by decide +kernel
theorem dd_M_coefficient_66 : decode bb_M_coefficient 66 = .ok (.putfield 118, 3) := by decide +kernel
theorem dd_M_coefficient_69 : decode bb_M_coefficient 69 = .ok (.iconst 0, 1) := by decide +kernel
theorem dd_M_coefficient_70 : decode bb_M_coefficient 70 = .ok (.ireturn, 1) := by decide +kernel
theorem dd_M_coefficient_71 : decode bb_M_coefficient 71 = .ok (.iload_n 3, 1) := by decide +kernel
theorem dd_M_coefficient_72 : decode bb_M_coefficient 72 = .ok (.ifCond .eq 17, 3) := by decide +kernel
theorem dd_M_coefficient_75 : decode bb_M_coefficient 75 = .ok (.aload_n 0, 1) := by decide +kernel
theorem dd_M_coefficient_76 : decode bb_M_coefficient 76 = .ok (.getfield 109, 3) := by decide +kernel
theorem dd_M_coefficient_79 : decode bb_M_coefficient 79 = .ok (.bipush 10, 2) := by decide +kernel
theorem dd_M_coefficient_81 : decode bb_M_coefficient 81 = .ok (.iload_n 1, 1) := by decide +kernel
theorem dd_M_coefficient_82 : decode bb_M_coefficient 82 = .ok (.imul, 1) := by decide +kernel
theorem dd_M_coefficient_83 : decode bb_M_coefficient 83 = .ok (.iload_n 2, 1) := by decide +kernel
theorem dd_M_coefficient_84 : decode bb_M_coefficient 84 = .ok (.iadd, 1) := by decide +kernel
theorem dd_M_coefficient_85 : decode bb_M_coefficient 85 = .ok (.laload, 1) := by decide +kernel
theorem dd_M_coefficient_86 : decode bb_M_coefficient 86 = .ok (.goto 14, 3) := by decide +kernel
theorem dd_M_coefficient_89 : decode bb_M_coefficient 89 = .ok (.aload_n 0, 1) := by decide +kernel
theorem dd_M_coefficient_90 : decode bb_M_coefficient 90 = .ok (.getfield 106, 3) := by decide +kernel
theorem dd_M_coefficient_93 : decode bb_M_coefficient 93 = .ok (.bipush 10, 2) := by decide +kernel
theorem dd_M_coefficient_95 : decode bb_M_coefficient 95 = .ok (.iload_n 1, 1) := by decide +kernel
theorem dd_M_coefficient_96 : decode bb_M_coefficient 96 = .ok (.imul, 1) := by decide +kernel
theorem dd_M_coefficient_97 : decode bb_M_coefficient 97 = .ok (.iload_n 2, 1) := by decide +kernel
theorem dd_M_coefficient_98 : decode bb_M_coefficient 98 = .ok (.iadd, 1) := by decide +kernel
theorem dd_M_coefficient_99 : decode bb_M_coefficient 99 = .ok (.laload, 1) := by decide +kernel
theorem dd_M_coefficient_100 : decode bb_M_coefficient 100 = .ok (.l2i, 1) := by decide +kernel
theorem dd_M_coefficient_101 : decode bb_M_coefficient 101 = .ok (.ireturn, 1) := by decide +kernel
