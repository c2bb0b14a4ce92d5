theorem dd_M_type_112 : decode bb_M_type 112 = .ok (.iadd, 1) := by decide +kernel
theorem dd_M_type_113 : decode bb_M_type 113 = .ok (.putfield 148, 3) := by decide +kernel
theorem dd_M_type_116 : decode bb_M_type 116 = .ok (.iinc 4 (-1), 3) := by decide +kernel
theorem dd_M_type_119 : decode bb_M_type 119 = .ok (.goto (-39), 3) := by decide +kernel
theorem dd_M_type_122 : decode bb_M_type 122 = .ok (.iconst 1, 1) := by decide +kernel
theorem dd_M_type_123 : decode bb_M_type 123 = .ok (.ireturn, 1) := by decide +kernel
theorem dd_M_compile_0 : decode bb_M_compile 0 = .ok (.aload_n 0, 1) := by decide +kernel
theorem dd_M_compile_1 : decode bb_M_compile 1 = .ok (.invokevirtual 194, 3) := by decide +kernel
theorem dd_M_compile_4 : decode bb_M_compile 4 = .ok (.aload_n 0, 1) := by decide +kernel
theorem dd_M_compile_5 : decode bb_M_compile 5 = .ok (.iconst 0, 1) := by decide +kernel
theorem dd_M_compile_6 : decode bb_M_compile 6 = .ok (.putfield 148, 3) := by decide +kernel
theorem dd_M_compile_9 : decode bb_M_compile 9 = .ok (.aload_n 0, 1) := by decide +kernel
theorem dd_M_compile_10 : decode bb_M_compile 10 = .ok (.aload_n 0, 1) := by decide +kernel
theorem dd_M_compile_11 : decode bb_M_compile 11 = .ok (.getfield 13, 3) := by decide +kernel
theorem dd_M_compile_14 : decode bb_M_compile 14 = .ok (.putfield 20, 3) := by decide +kernel
theorem dd_M_compile_17 : decode bb_M_compile 17 = .ok (.aload_n 0, 1) := by decide +kernel
theorem dd_M_compile_18 : decode bb_M_compile 18 = .ok (.aload_n 0, 1) := by decide +kernel
theorem dd_M_compile_19 : decode bb_M_compile 19 = .ok (.getfield 13, 3) := by decide +kernel
theorem dd_M_compile_22 : decode bb_M_compile 22 = .ok (.ifCond .lt 7, 3) := by decide +kernel
theorem dd_M_compile_25 : decode bb_M_compile 25 = .ok (.iconst 1, 1) := by decide +kernel
theorem dd_M_compile_26 : decode bb_M_compile 26 = .ok (.goto 4, 3) := by decide +kernel
theorem dd_M_compile_29 : decode bb_M_compile 29 = .ok (.iconst 0, 1) := by decide +kernel
theorem dd_M_compile_30 : decode bb_M_compile 30 = .ok (.putfield 118, 3) := by decide +kernel
theorem dd_M_compile_33 : decode bb_M_compile 33 = .ok (.aload_n 0, 1) := by decide +kernel
theorem dd_M_compile_34 : decode bb_M_compile 34 = .ok (.getfield 13, 3) := by decide +kernel
theorem dd_M_compile_37 : decode bb_M_compile 37 = .ok (.ifCond .lt 5, 3) := by decide +kernel
theorem dd_M_compile_40 : decode bb_M_compile 40 = .ok (.iconst 0, 1) := by decide +kernel
theorem dd_M_compile_41 : decode bb_M_compile 41 = .ok (.ireturn, 1) := by decide +kernel
theorem dd_M_compile_42 : decode bb_M_compile 42 = .ok (.aload_n 0, 1) := by decide +kernel
theorem dd_M_compile_43 : decode bb_M_compile 43 = .ok (.aload_n 0, 1) := by decide +kernel
theorem dd_M_compile_44 : decode bb_M_compile 44 = .ok (.getfield 185, 3) := by decide +kernel
theorem dd_M_compile_47 : decode bb_M_compile 47 = .ok (.putfield 197, 3) := by decide +kernel
theorem dd_M_compile_50 : decode bb_M_compile 50 = .ok (.aload_n 0, 1) := by decide +kernel
theorem dd_M_compile_51 : decode bb_M_compile 51 = .ok (.aload_n 0, 1) := by decide +kernel
theorem dd_M_compile_52 : decode bb_M_compile 52 = .ok (.getfield 188, 3) := by decide +kernel
theorem dd_M_compile_55 : decode bb_M_compile 55 = .ok (.putfield 200, 3) := by decide +kernel
theorem dd_M_compile_58 : decode bb_M_compile 58 = .ok (.iconst 0, 1) := by decide +kernel
theorem dd_M_compile_59 : decode bb_M_compile 59 = .ok (.istore_n 1, 1) := by decide +kernel
theorem dd_M_compile_60 : decode bb_M_compile 60 = .ok (.iload_n 1, 1) := by decide +kernel
theorem dd_M_compile_61 : decode bb_M_compile 61 = .ok (.iconst 4, 1) := by decide +kernel
theorem dd_M_compile_62 : decode bb_M_compile 62 = .ok (.if_icmp .ge 21, 3) := by decide +kernel
theorem dd_M_compile_65 : decode bb_M_compile 65 = .ok (.aload_n 0, 1) := by decide +kernel
theorem dd_M_compile_66 : decode bb_M_compile 66 = .ok (.getfield 23, 3) := by decide +kernel
theorem dd_M_compile_69 : decode bb_M_compile 69 = .ok (.iload_n 1, 1) := by decide +kernel
theorem dd_M_compile_70 : decode bb_M_compile 70 = .ok (.aload_n 0, 1) := by decide +kernel
theorem dd_M_compile_71 : decode bb_M_compile 71 = .ok (.getfield 36, 3) := by decide +kernel
theorem dd_M_compile_74 : decode bb_M_compile 74 = .ok (.iload_n 1, 1) := by decide +kernel
theorem dd_M_compile_75 : decode bb_M_compile 75 = .ok (.iaload, 1) := by decide +kernel
theorem dd_M_compile_76 : decode bb_M_compile 76 = .ok (.iastore, 1) := by decide +kernel
theorem dd_M_compile_77 : decode bb_M_compile 77 = .ok (.iinc 1 1, 3) := by decide +kernel
theorem dd_M_compile_80 : decode bb_M_compile 80 = .ok (.goto (-20), 3) := by decide +kernel
theorem dd_M_compile_83 : decode bb_M_compile 83 = .ok (.iconst 0, 1) := by decide +kernel
theorem dd_M_compile_84 : decode bb_M_compile 84 = .ok (.istore_n 1, 1) := by decide +kernel
theorem dd_M_compile_85 : decode bb_M_compile 85 = .ok (.iload_n 1, 1) := by decide +kernel
theorem dd_M_compile_86 : decode bb_M_compile 86 = .ok (.bipush 48, 2) := by decide +kernel
theorem dd_M_compile_88 : decode bb_M_compile 88 = .ok (.if_icmp .ge 33, 3) := by decide +kernel
theorem dd_M_compile_91 : decode bb_M_compile 91 = .ok (.aload_n 0, 1) := by decide +kernel
theorem dd_M_compile_92 : decode bb_M_compile 92 = .ok (.getfield 26, 3) := by decide +kernel
theorem dd_M_compile_95 : decode bb_M_compile 95 = .ok (.iload_n 1, 1) := by decide +kernel
theorem dd_M_compile_96 : decode bb_M_compile 96 = .ok (.aload_n 0, 1) := by decide +kernel
theorem dd_M_compile_97 : decode bb_M_compile 97 = .ok (.getfield 39, 3) := by decide +kernel
theorem dd_M_compile_100 : decode bb_M_compile 100 = .ok (.iload_n 1, 1) := by decide +kernel
theorem dd_M_compile_101 : decode bb_M_compile 101 = .ok (.laload, 1) := by decide +kernel
theorem dd_M_compile_102 : decode bb_M_compile 102 = .ok (.lastore, 1) := by decide +kernel
theorem dd_M_compile_103 : decode bb_M_compile 103 = .ok (.aload_n 0, 1) := by decide +kernel
theorem dd_M_compile_104 : decode bb_M_compile 104 = .ok (.getfield 30, 3) := by decide +kernel
theorem dd_M_compile_107 : decode bb_M_compile 107 = .ok (.iload_n 1, 1) := by decide +kernel
theorem dd_M_compile_108 : decode bb_M_compile 108 = .ok (.aload_n 0, 1) := by decide +kernel
theorem dd_M_compile_109 : decode bb_M_compile 109 = .ok (.getfield 42, 3) := by decide +kernel
theorem dd_M_compile_112 : decode bb_M_compile 112 = .ok (.iload_n 1, 1) := by decide +kernel
theorem dd_M_compile_113 : decode bb_M_compile 113 = .ok (.laload, 1) := by decide +kernel
theorem dd_M_compile_114 : decode bb_M_compile 114 = .ok (.lastore, 1) := by decide +kernel
theorem dd_M_compile_115 : decode bb_M_compile 115 = .ok (.iinc 1 1, 3) := by decide +kernel
theorem dd_M_compile_118 : decode bb_M_compile 118 = .ok (.goto (-33), 3) := by decide +kernel
theorem dd_M_compile_121 : decode bb_M_compile 121 = .ok (.iconst 0, 1) := by decide +kernel
theorem dd_M_compile_122 : decode bb_M_compile 122 = .ok (.istore_n 1, 1) := by decide +kernel
theorem dd_M_compile_123 : decode bb_M_compile 123 = .ok (.iload_n 1, 1) := by decide +kernel
theorem dd_M_compile_124 : decode bb_M_compile 124 = .ok (.sipush 144, 3) := by decide +kernel
theorem dd_M_compile_127 : decode bb_M_compile 127 = .ok (.if_icmp .ge 21, 3) := by decide +kernel
theorem dd_M_compile_130 : decode bb_M_compile 130 = .ok (.aload_n 0, 1) := by decide +kernel
theorem dd_M_compile_131 : decode bb_M_compile 131 = .ok (.getfield 33, 3) := by decide +kernel
theorem dd_M_compile_134 : decode bb_M_compile 134 = .ok (.iload_n 1, 1) := by decide +kernel
theorem dd_M_compile_135 : decode bb_M_compile 135 = .ok (.aload_n 0, 1) := by decide +kernel
theorem dd_M_compile_136 : decode bb_M_compile 136 = .ok (.getfield 45, 3) := by decide +kernel
theorem dd_M_compile_139 : decode bb_M_compile 139 = .ok (.iload_n 1, 1) := by decide +kernel
theorem dd_M_compile_140 : decode bb_M_compile 140 = .ok (.iaload, 1) := by decide +kernel
theorem dd_M_compile_141 : decode bb_M_compile 141 = .ok (.iastore, 1) := by decide +kernel
theorem dd_M_compile_142 : decode bb_M_compile 142 = .ok (.iinc 1 1, 3) := by decide +kernel
theorem dd_M_compile_145 : decode bb_M_compile 145 = .ok (.goto (-22), 3) := by decide +kernel
theorem dd_M_compile_148 : decode bb_M_compile 148 = .ok (.iconst 0, 1) := by decide +kernel
theorem dd_M_compile_149 : decode bb_M_compile 149 = .ok (.istore_n 1, 1) := by decide +kernel
theorem dd_M_compile_150 : decode bb_M_compile 150 = .ok (.iload_n 1, 1) := by decide +kernel
theorem dd_M_compile_151 : decode bb_M_compile 151 = .ok (.iconst 3, 1) := by decide +kernel
theorem dd_M_compile_152 : decode bb_M_compile 152 = .ok (.if_icmp .ge 23, 3) := by decide +kernel
theorem dd_M_compile_155 : decode bb_M_compile 155 = .ok (.aload_n 0, 1) := by decide +kernel
theorem dd_M_compile_156 : decode bb_M_compile 156 = .ok (.getfield 58, 3) := by decide +kernel
theorem dd_M_compile_159 : decode bb_M_compile 159 = .ok (.iload_n 1, 1) := by decide +kernel
theorem dd_M_compile_160 : decode bb_M_compile 160 = .ok (.lconst 0, 1) := by decide +kernel
theorem dd_M_compile_161 : decode bb_M_compile 161 = .ok (.lastore, 1) := by decide +kernel
theorem dd_M_compile_162 : decode bb_M_compile 162 = .ok (.aload_n 0, 1) := by decide +kernel
theorem dd_M_compile_163 : decode bb_M_compile 163 = .ok (.getfield 61, 3) := by decide +kernel
theorem dd_M_compile_166 : decode bb_M_compile 166 = .ok (.iload_n 1, 1) := by decide +kernel
theorem dd_M_compile_167 : decode bb_M_compile 167 = .ok (.lconst 0, 1) := by decide +kernel
theorem dd_M_compile_168 : decode bb_M_compile 168 = .ok (.lastore, 1) := by decide +kernel
theorem dd_M_compile_169 : decode bb_M_compile 169 = .ok (.iinc 1 1, 3) := by decide +kernel
theorem dd_M_compile_172 : decode bb_M_compile 172 = .ok (.goto (-22), 3) := by decide +kernel
theorem dd_M_compile_175 : decode bb_M_compile 175 = .ok (.aload_n 0, 1) := by decide +kernel
theorem dd_M_compile_176 : decode bb_M_compile 176 = .ok (.invokevirtual 203, 3) := by decide +kernel
theorem dd_M_compile_179 : decode bb_M_compile 179 = .ok (.aload_n 0, 1) := by decide +kernel
theorem dd_M_compile_180 : decode bb_M_compile 180 = .ok (.getfield 197, 3) := by decide +kernel
theorem dd_M_compile_183 : decode bb_M_compile 183 = .ok (.ireturn, 1) := by decide +kernel
theorem dd_M_readProblem_0 : decode bb_M_readProblem 0 = .ok (.aload_n 0, 1) := by decide +kernel
theorem dd_M_readProblem_1 : decode bb_M_readProblem 1 = .ok (.iconst 0, 1) := by decide +kernel
theorem dd_M_readProblem_2 : decode bb_M_readProblem 2 = .ok (.putfield 153, 3) := by decide +kernel
theorem dd_M_readProblem_5 : decode bb_M_readProblem 5 = .ok (.aload_n 0, 1) := by decide +kernel
theorem dd_M_readProblem_6 : decode bb_M_readProblem 6 = .ok (.iconst (-1), 1) := by decide +kernel
theorem dd_M_readProblem_7 : decode bb_M_readProblem 7 = .ok (.putfield 13, 3) := by decide +kernel
theorem dd_M_readProblem_10 : decode bb_M_readProblem 10 = .ok (.aload_n 0, 1) := by decide +kernel
theorem dd_M_readProblem_11 : decode bb_M_readProblem 11 = .ok (.iconst 0, 1) := by decide +kernel
theorem dd_M_readProblem_12 : decode bb_M_readProblem 12 = .ok (.putfield 185, 3) := by decide +kernel
theorem dd_M_readProblem_15 : decode bb_M_readProblem 15 = .ok (.aload_n 0, 1) := by decide +kernel
theorem dd_M_readProblem_16 : decode bb_M_readProblem 16 = .ok (.iconst 0, 1) := by decide +kernel
theorem dd_M_readProblem_17 : decode bb_M_readProblem 17 = .ok (.putfield 188, 3) := by decide +kernel
theorem dd_M_readProblem_20 : decode bb_M_readProblem 20 = .ok (.iconst 0, 1) := by decide +kernel
theorem dd_M_readProblem_21 : decode bb_M_readProblem 21 = .ok (.istore_n 1, 1) := by decide +kernel
theorem dd_M_readProblem_22 : decode bb_M_readProblem 22 = .ok (.iload_n 1, 1) := by decide +kernel
theorem dd_M_readProblem_23 : decode bb_M_readProblem 23 = .ok (.iconst 3, 1) := by decide +kernel
theorem dd_M_readProblem_24 : decode bb_M_readProblem 24 = .ok (.if_icmp .ge 16, 3) := by decide +kernel
theorem dd_M_readProblem_27 : decode bb_M_readProblem 27 = .ok (.aload_n 0, 1) := by decide +kernel
theorem dd_M_readProblem_28 : decode bb_M_readProblem 28 = .ok (.getfield 17, 3) := by decide +kernel
theorem dd_M_readProblem_31 : decode bb_M_readProblem 31 = .ok (.iload_n 1, 1) := by decide +kernel
theorem dd_M_readProblem_32 : decode bb_M_readProblem 32 = .ok (.iconst (-1), 1) := by decide +kernel
theorem dd_M_readProblem_33 : decode bb_M_readProblem 33 = .ok (.iastore, 1) := by decide +kernel
theorem dd_M_readProblem_34 : decode bb_M_readProblem 34 = .ok (.iinc 1 1, 3) := by decide +kernel
theorem dd_M_readProblem_37 : decode bb_M_readProblem 37 = .ok (.goto (-15), 3) := by decide +kernel
theorem dd_M_readProblem_40 : decode bb_M_readProblem 40 = .ok (.iconst 1, 1) := by decide +kernel
theorem dd_M_readProblem_41 : decode bb_M_readProblem 41 = .ok (.istore_n 1, 1) := by decide +kernel
theorem dd_M_readProblem_42 : decode bb_M_readProblem 42 = .ok (.iload_n 1, 1) := by decide +kernel
theorem dd_M_readProblem_43 : decode bb_M_readProblem 43 = .ok (.ifCond .eq 166, 3) := by decide +kernel
theorem dd_M_readProblem_46 : decode bb_M_readProblem 46 = .ok (.aload_n 0, 1) := by decide +kernel
theorem dd_M_readProblem_47 : decode bb_M_readProblem 47 = .ok (.getfield 13, 3) := by decide +kernel
theorem dd_M_readProblem_50 : decode bb_M_readProblem 50 = .ok (.ifCond .ge 159, 3) := by decide +kernel
theorem dd_M_readProblem_53 : decode bb_M_readProblem 53 = .ok (.aload_n 0, 1) := by decide +kernel
theorem dd_M_readProblem_54 : decode bb_M_readProblem 54 = .ok (.getfield 185, 3) := by decide +kernel
theorem dd_M_readProblem_57 : decode bb_M_readProblem 57 = .ok (.iconst 3, 1) := by decide +kernel
theorem dd_M_readProblem_58 : decode bb_M_readProblem 58 = .ok (.if_icmp .ge 21, 3) := by decide +kernel
theorem dd_M_readProblem_61 : decode bb_M_readProblem 61 = .ok (.aload_n 0, 1) := by decide +kernel
theorem dd_M_readProblem_62 : decode bb_M_readProblem 62 = .ok (.invokevirtual 156, 3) := by decide +kernel
theorem dd_M_readProblem_65 : decode bb_M_readProblem 65 = .ok (.bipush 120, 2) := by decide +kernel
theorem dd_M_readProblem_67 : decode bb_M_readProblem 67 = .ok (.aload_n 0, 1) := by decide +kernel
theorem dd_M_readProblem_68 : decode bb_M_readProblem 68 = .ok (.getfield 185, 3) := by decide +kernel
theorem dd_M_readProblem_71 : decode bb_M_readProblem 71 = .ok (.iadd, 1) := by decide +kernel
theorem dd_M_readProblem_72 : decode bb_M_readProblem 72 = .ok (.if_icmp .ne 7, 3) := by decide +kernel
theorem dd_M_readProblem_75 : decode bb_M_readProblem 75 = .ok (.iconst 1, 1) := by decide +kernel
theorem dd_M_readProblem_76 : decode bb_M_readProblem 76 = .ok (.goto 4, 3) := by decide +kernel
theorem dd_M_readProblem_79 : decode bb_M_readProblem 79 = .ok (.iconst 0, 1) := by decide +kernel
theorem dd_M_readProblem_80 : decode bb_M_readProblem 80 = .ok (.istore_n 2, 1) := by decide +kernel
theorem dd_M_readProblem_81 : decode bb_M_readProblem 81 = .ok (.iload_n 2, 1) := by decide +kernel
theorem dd_M_readProblem_82 : decode bb_M_readProblem 82 = .ok (.ifCond .ne 23, 3) := by decide +kernel
theorem dd_M_readProblem_85 : decode bb_M_readProblem 85 = .ok (.aload_n 0, 1) := by decide +kernel
theorem dd_M_readProblem_86 : decode bb_M_readProblem 86 = .ok (.getfield 185, 3) := by decide +kernel
theorem dd_M_readProblem_89 : decode bb_M_readProblem 89 = .ok (.ifCond .le 16, 3) := by decide +kernel
theorem dd_M_readProblem_92 : decode bb_M_readProblem 92 = .ok (.aload_n 0, 1) := by decide +kernel
theorem dd_M_readProblem_93 : decode bb_M_readProblem 93 = .ok (.invokevirtual 156, 3) := by decide +kernel
theorem dd_M_readProblem_96 : decode bb_M_readProblem 96 = .ok (.bipush 103, 2) := by decide +kernel
theorem dd_M_readProblem_98 : decode bb_M_readProblem 98 = .ok (.if_icmp .ne 7, 3) := by decide +kernel
theorem dd_M_readProblem_101 : decode bb_M_readProblem 101 = .ok (.iconst 1, 1) := by decide +kernel
theorem dd_M_readProblem_102 : decode bb_M_readProblem 102 = .ok (.goto 4, 3) := by decide +kernel
theorem dd_M_readProblem_105 : decode bb_M_readProblem 105 = .ok (.iconst 0, 1) := by decide +kernel
theorem dd_M_readProblem_106 : decode bb_M_readProblem 106 = .ok (.istore_n 3, 1) := by decide +kernel
theorem dd_M_readProblem_107 : decode bb_M_readProblem 107 = .ok (.iload_n 2, 1) := by decide +kernel
theorem dd_M_readProblem_108 : decode bb_M_readProblem 108 = .ok (.ifCond .ne 15, 3) := by decide +kernel
theorem dd_M_readProblem_111 : decode bb_M_readProblem 111 = .ok (.iload_n 3, 1) := by decide +kernel
theorem dd_M_readProblem_112 : decode bb_M_readProblem 112 = .ok (.ifCond .ne 11, 3) := by decide +kernel
theorem dd_M_readProblem_115 : decode bb_M_readProblem 115 = .ok (.aload_n 0, 1) := by decide +kernel
theorem dd_M_readProblem_116 : decode bb_M_readProblem 116 = .ok (.aload_n 0, 1) := by decide +kernel
theorem dd_M_readProblem_117 : decode bb_M_readProblem 117 = .ok (.getfield 153, 3) := by decide +kernel
theorem dd_M_readProblem_120 : decode bb_M_readProblem 120 = .ok (.invokevirtual 160, 3) := by decide +kernel
theorem dd_M_readProblem_123 : decode bb_M_readProblem 123 = .ok (.aload_n 0, 1) := by decide +kernel
theorem dd_M_readProblem_124 : decode bb_M_readProblem 124 = .ok (.dup, 1) := by decide +kernel
theorem dd_M_readProblem_125 : decode bb_M_readProblem 125 = .ok (.getfield 153, 3) := by decide +kernel
theorem dd_M_readProblem_128 : decode bb_M_readProblem 128 = .ok (.iconst 1, 1) := by decide +kernel
theorem dd_M_readProblem_129 : decode bb_M_readProblem 129 = .ok (.iadd, 1) := by decide +kernel
theorem dd_M_readProblem_130 : decode bb_M_readProblem 130 = .ok (.putfield 153, 3) := by decide +kernel
theorem dd_M_readProblem_133 : decode bb_M_readProblem 133 = .ok (.aload_n 0, 1) := by decide +kernel
theorem dd_M_readProblem_134 : decode bb_M_readProblem 134 = .ok (.bipush 61, 2) := by decide +kernel
theorem dd_M_readProblem_136 : decode bb_M_readProblem 136 = .ok (.invokevirtual 182, 3) := by decide +kernel
theorem dd_M_readProblem_139 : decode bb_M_readProblem 139 = .ok (.aload_n 0, 1) := by decide +kernel
theorem dd_M_readProblem_140 : decode bb_M_readProblem 140 = .ok (.getfield 13, 3) := by decide +kernel
theorem dd_M_readProblem_143 : decode bb_M_readProblem 143 = .ok (.ifCond .ge 19, 3) := by decide +kernel
theorem dd_M_readProblem_146 : decode bb_M_readProblem 146 = .ok (.aload_n 0, 1) := by decide +kernel
theorem dd_M_readProblem_147 : decode bb_M_readProblem 147 = .ok (.iload_n 2, 1) := by decide +kernel
theorem dd_M_readProblem_148 : decode bb_M_readProblem 148 = .ok (.ifCond .eq 10, 3) := by decide +kernel
theorem dd_M_readProblem_151 : decode bb_M_readProblem 151 = .ok (.aload_n 0, 1) := by decide +kernel
theorem dd_M_readProblem_152 : decode bb_M_readProblem 152 = .ok (.getfield 185, 3) := by decide +kernel
theorem dd_M_readProblem_155 : decode bb_M_readProblem 155 = .ok (.goto 4, 3) := by decide +kernel
theorem dd_M_readProblem_158 : decode bb_M_readProblem 158 = .ok (.iconst 3, 1) := by decide +kernel
theorem dd_M_readProblem_159 : decode bb_M_readProblem 159 = .ok (.invokevirtual 191, 3) := by decide +kernel
theorem dd_M_readProblem_162 : decode bb_M_readProblem 162 = .ok (.aload_n 0, 1) := by decide +kernel
theorem dd_M_readProblem_163 : decode bb_M_readProblem 163 = .ok (.dup, 1) := by decide +kernel
theorem dd_M_readProblem_164 : decode bb_M_readProblem 164 = .ok (.getfield 185, 3) := by decide +kernel
theorem dd_M_readProblem_167 : decode bb_M_readProblem 167 = .ok (.iload_n 2, 1) := by decide +kernel
theorem dd_M_readProblem_168 : decode bb_M_readProblem 168 = .ok (.ifCond .eq 7, 3) := by decide +kernel
theorem dd_M_readProblem_171 : decode bb_M_readProblem 171 = .ok (.iconst 1, 1) := by decide +kernel
theorem dd_M_readProblem_172 : decode bb_M_readProblem 172 = .ok (.goto 4, 3) := by decide +kernel
theorem dd_M_readProblem_175 : decode bb_M_readProblem 175 = .ok (.iconst 0, 1) := by decide +kernel
theorem dd_M_readProblem_176 : decode bb_M_readProblem 176 = .ok (.iadd, 1) := by decide +kernel
theorem dd_M_readProblem_177 : decode bb_M_readProblem 177 = .ok (.putfield 185, 3) := by decide +kernel
theorem dd_M_readProblem_180 : decode bb_M_readProblem 180 = .ok (.aload_n 0, 1) := by decide +kernel
theorem dd_M_readProblem_181 : decode bb_M_readProblem 181 = .ok (.iload_n 3, 1) := by decide +kernel
theorem dd_M_readProblem_182 : decode bb_M_readProblem 182 = .ok (.putfield 188, 3) := by decide +kernel
theorem dd_M_readProblem_185 : decode bb_M_readProblem 185 = .ok (.aload_n 0, 1) := by decide +kernel
theorem dd_M_readProblem_186 : decode bb_M_readProblem 186 = .ok (.getfield 153, 3) := by decide +kernel
theorem dd_M_readProblem_189 : decode bb_M_readProblem 189 = .ok (.aload_n 0, 1) := by decide +kernel
theorem dd_M_readProblem_190 : decode bb_M_readProblem 190 = .ok (.getfield 148, 3) := by decide +kernel
theorem dd_M_readProblem_193 : decode bb_M_readProblem 193 = .ok (.if_icmp .ge 11, 3) := by decide +kernel
theorem dd_M_readProblem_196 : decode bb_M_readProblem 196 = .ok (.iload_n 3, 1) := by decide +kernel
theorem dd_M_readProblem_197 : decode bb_M_readProblem 197 = .ok (.ifCond .ne 7, 3) := by decide +kernel
theorem dd_M_readProblem_200 : decode bb_M_readProblem 200 = .ok (.iconst 1, 1) := by decide +kernel
theorem dd_M_readProblem_201 : decode bb_M_readProblem 201 = .ok (.goto 4, 3) := by decide +kernel
theorem dd_M_readProblem_204 : decode bb_M_readProblem 204 = .ok (.iconst 0, 1) := by decide +kernel
theorem dd_M_readProblem_205 : decode bb_M_readProblem 205 = .ok (.istore_n 1, 1) := by decide +kernel
theorem dd_M_readProblem_206 : decode bb_M_readProblem 206 = .ok (.goto (-164), 3) := by decide +kernel
theorem dd_M_readProblem_209 : decode bb_M_readProblem 209 = .ok (.aload_n 0, 1) := by decide +kernel
theorem dd_M_readProblem_210 : decode bb_M_readProblem 210 = .ok (.getfield 13, 3) := by decide +kernel
theorem dd_M_readProblem_213 : decode bb_M_readProblem 213 = .ok (.ifCond .ge 22, 3) := by decide +kernel
theorem dd_M_readProblem_216 : decode bb_M_readProblem 216 = .ok (.aload_n 0, 1) := by decide +kernel
theorem dd_M_readProblem_217 : decode bb_M_readProblem 217 = .ok (.getfield 153, 3) := by decide +kernel
theorem dd_M_readProblem_220 : decode bb_M_readProblem 220 = .ok (.aload_n 0, 1) := by decide +kernel
theorem dd_M_readProblem_221 : decode bb_M_readProblem 221 = .ok (.getfield 148, 3) := by decide +kernel
theorem dd_M_readProblem_224 : decode bb_M_readProblem 224 = .ok (.if_icmp .ge 11, 3) := by decide +kernel
theorem dd_M_readProblem_227 : decode bb_M_readProblem 227 = .ok (.aload_n 0, 1) := by decide +kernel
theorem dd_M_readProblem_228 : decode bb_M_readProblem 228 = .ok (.aload_n 0, 1) := by decide +kernel
theorem dd_M_readProblem_229 : decode bb_M_readProblem 229 = .ok (.getfield 153, 3) := by decide +kernel
theorem dd_M_readProblem_232 : decode bb_M_readProblem 232 = .ok (.invokevirtual 160, 3) := by decide +kernel
theorem dd_M_readProblem_235 : decode bb_M_readProblem 235 = .ok (.aload_n 0, 1) := by decide +kernel
theorem dd_M_readProblem_236 : decode bb_M_readProblem 236 = .ok (.getfield 185, 3) := by decide +kernel
theorem dd_M_readProblem_239 : decode bb_M_readProblem 239 = .ok (.istore_n 2, 1) := by decide +kernel
theorem dd_M_readProblem_240 : decode bb_M_readProblem 240 = .ok (.iload_n 2, 1) := by decide +kernel
theorem dd_M_readProblem_241 : decode bb_M_readProblem 241 = .ok (.iconst 3, 1) := by decide +kernel
theorem dd_M_readProblem_242 : decode bb_M_readProblem 242 = .ok (.if_icmp .ge 65, 3) := by decide +kernel
theorem dd_M_readProblem_245 : decode bb_M_readProblem 245 = .ok (.aload_n 0, 1) := by decide +kernel
theorem dd_M_readProblem_246 : decode bb_M_readProblem 246 = .ok (.getfield 13, 3) := by decide +kernel
theorem dd_M_readProblem_249 : decode bb_M_readProblem 249 = .ok (.ifCond .ge 58, 3) := by decide +kernel
theorem dd_M_readProblem_252 : decode bb_M_readProblem 252 = .ok (.iload_n 2, 1) := by decide +kernel
theorem dd_M_readProblem_253 : decode bb_M_readProblem 253 = .ok (.iconst 1, 1) := by decide +kernel
theorem dd_M_readProblem_254 : decode bb_M_readProblem 254 = .ok (.if_icmp .ne 12, 3) := by decide +kernel
theorem dd_M_readProblem_257 : decode bb_M_readProblem 257 = .ok (.aload_n 0, 1) := by decide +kernel
theorem dd_M_readProblem_258 : decode bb_M_readProblem 258 = .ok (.getfield 17, 3) := by decide +kernel
theorem dd_M_readProblem_261 : decode bb_M_readProblem 261 = .ok (.iconst 2, 1) := by decide +kernel
theorem dd_M_readProblem_262 : decode bb_M_readProblem 262 = .ok (.iaload, 1) := by decide +kernel
theorem dd_M_readProblem_263 : decode bb_M_readProblem 263 = .ok (.goto 4, 3) := by decide +kernel
theorem dd_M_readProblem_266 : decode bb_M_readProblem 266 = .ok (.iconst (-1), 1) := by decide +kernel
theorem dd_M_readProblem_267 : decode bb_M_readProblem 267 = .ok (.istore_n 3, 1) := by decide +kernel
theorem dd_M_readProblem_268 : decode bb_M_readProblem 268 = .ok (.aload_n 0, 1) := by decide +kernel
theorem dd_M_readProblem_269 : decode bb_M_readProblem 269 = .ok (.getfield 17, 3) := by decide +kernel
theorem dd_M_readProblem_272 : decode bb_M_readProblem 272 = .ok (.iload_n 2, 1) := by decide +kernel
theorem dd_M_readProblem_273 : decode bb_M_readProblem 273 = .ok (.iaload, 1) := by decide +kernel
theorem dd_M_readProblem_274 : decode bb_M_readProblem 274 = .ok (.istore 4, 2) := by decide +kernel
theorem dd_M_readProblem_276 : decode bb_M_readProblem 276 = .ok (.iload 4, 2) := by decide +kernel
theorem dd_M_readProblem_278 : decode bb_M_readProblem 278 = .ok (.ifCond .lt 23, 3) := by decide +kernel
theorem dd_M_readProblem_281 : decode bb_M_readProblem 281 = .ok (.aload_n 0, 1) := by decide +kernel
theorem dd_M_readProblem_282 : decode bb_M_readProblem 282 = .ok (.iload_n 3, 1) := by decide +kernel
theorem dd_M_readProblem_283 : decode bb_M_readProblem 283 = .ok (.ifCond .lt 13, 3) := by decide +kernel
theorem dd_M_readProblem_286 : decode bb_M_readProblem 286 = .ok (.iload_n 3, 1) := by decide +kernel
theorem dd_M_readProblem_287 : decode bb_M_readProblem 287 = .ok (.iload 4, 2) := by decide +kernel
theorem dd_M_readProblem_289 : decode bb_M_readProblem 289 = .ok (.if_icmp .ge 7, 3) := by decide +kernel
theorem dd_M_readProblem_292 : decode bb_M_readProblem 292 = .ok (.iload_n 3, 1) := by decide +kernel
theorem dd_M_readProblem_293 : decode bb_M_readProblem 293 = .ok (.goto 5, 3) := by decide +kernel
theorem dd_M_readProblem_296 : decode bb_M_readProblem 296 = .ok (.iload 4, 2) := by decide +kernel
theorem dd_M_readProblem_298 : decode bb_M_readProblem 298 = .ok (.invokevirtual 160, 3) := by decide +kernel
theorem dd_M_readProblem_301 : decode bb_M_readProblem 301 = .ok (.iinc 2 1, 3) := by decide +kernel
theorem dd_M_readProblem_304 : decode bb_M_readProblem 304 = .ok (.goto (-64), 3) := by decide +kernel
theorem dd_M_readProblem_307 : decode bb_M_readProblem 307 = .ok (.return_, 1) := by decide +kernel
theorem dd_M_see_0 : decode bb_M_see 0 = .ok (.aload_n 0, 1) := by decide +kernel
theorem dd_M_see_1 : decode bb_M_see 1 = .ok (.getfield 153, 3) := by decide +kernel
theorem dd_M_see_4 : decode bb_M_see 4 = .ok (.aload_n 0, 1) := by decide +kernel
theorem dd_M_see_5 : decode bb_M_see 5 = .ok (.getfield 148, 3) := by decide +kernel
theorem dd_M_see_8 : decode bb_M_see 8 = .ok (.if_icmp .ge 15, 3) := by decide +kernel
theorem dd_M_see_11 : decode bb_M_see 11 = .ok (.aload_n 0, 1) := by decide +kernel
theorem dd_M_see_12 : decode bb_M_see 12 = .ok (.getfield 7, 3) := by decide +kernel
theorem dd_M_see_15 : decode bb_M_see 15 = .ok (.aload_n 0, 1) := by decide +kernel
theorem dd_M_see_16 : decode bb_M_see 16 = .ok (.getfield 153, 3) := by decide +kernel
theorem dd_M_see_19 : decode bb_M_see 19 = .ok (.iaload, 1) := by decide +kernel
theorem dd_M_see_20 : decode bb_M_see 20 = .ok (.goto 4, 3) := by decide +kernel
theorem dd_M_see_23 : decode bb_M_see 23 = .ok (.iconst 0, 1) := by decide +kernel
theorem dd_M_see_24 : decode bb_M_see 24 = .ok (.ireturn, 1) := by decide +kernel
theorem dd_M_wrongAt_0 : decode bb_M_wrongAt 0 = .ok (.aload_n 0, 1) := by decide +kernel
theorem dd_M_wrongAt_1 : decode bb_M_wrongAt 1 = .ok (.getfield 13, 3) := by decide +kernel
theorem dd_M_wrongAt_4 : decode bb_M_wrongAt 4 = .ok (.ifCond .ge 8, 3) := by decide +kernel
theorem dd_M_wrongAt_7 : decode bb_M_wrongAt 7 = .ok (.aload_n 0, 1) := by decide +kernel
theorem dd_M_wrongAt_8 : decode bb_M_wrongAt 8 = .ok (.iload_n 1, 1) := by decide +kernel
theorem dd_M_wrongAt_9 : decode bb_M_wrongAt 9 = .ok (.putfield 13, 3) := by decide +kernel
theorem dd_M_wrongAt_12 : decode bb_M_wrongAt 12 = .ok (.return_, 1) := by decide +kernel
theorem dd_M_expect_0 : decode bb_M_expect 0 = .ok (.aload_n 0, 1) := by decide +kernel
theorem dd_M_expect_1 : decode bb_M_expect 1 = .ok (.getfield 13, 3) := by decide +kernel
theorem dd_M_expect_4 : decode bb_M_expect 4 = .ok (.ifCond .lt 4, 3) := by decide +kernel
theorem dd_M_expect_7 : decode bb_M_expect 7 = .ok (.return_, 1) := by decide +kernel
theorem dd_M_expect_8 : decode bb_M_expect 8 = .ok (.aload_n 0, 1) := by decide +kernel
theorem dd_M_expect_9 : decode bb_M_expect 9 = .ok (.invokevirtual 156, 3) := by decide +kernel
theorem dd_M_expect_12 : decode bb_M_expect 12 = .ok (.iload_n 1, 1) := by decide +kernel
theorem dd_M_expect_13 : decode bb_M_expect 13 = .ok (.if_icmp .eq 11, 3) := by decide +kernel
theorem dd_M_expect_16 : decode bb_M_expect 16 = .ok (.aload_n 0, 1) := by decide +kernel
theorem dd_M_expect_17 : decode bb_M_expect 17 = .ok (.aload_n 0, 1) := by decide +kernel
theorem dd_M_expect_18 : decode bb_M_expect 18 = .ok (.getfield 153, 3) := by decide +kernel
theorem dd_M_expect_21 : decode bb_M_expect 21 = .ok (.invokevirtual 160, 3) := by decide +kernel
theorem dd_M_expect_24 : decode bb_M_expect 24 = .ok (.aload_n 0, 1) := by decide +kernel
theorem dd_M_expect_25 : decode bb_M_expect 25 = .ok (.dup, 1) := by decide +kernel
theorem dd_M_expect_26 : decode bb_M_expect 26 = .ok (.getfield 153, 3) := by decide +kernel
theorem dd_M_expect_29 : decode bb_M_expect 29 = .ok (.iconst 1, 1) := by decide +kernel
theorem dd_M_expect_30 : decode bb_M_expect 30 = .ok (.iadd, 1) := by decide +kernel
theorem dd_M_expect_31 : decode bb_M_expect 31 = .ok (.putfield 153, 3) := by decide +kernel
theorem dd_M_expect_34 : decode bb_M_expect 34 = .ok (.return_, 1) := by decide +kernel
theorem dd_M_readPolynomial_0 : decode bb_M_readPolynomial 0 = .ok (.iconst 0, 1) := by decide +kernel
theorem dd_M_readPolynomial_1 : decode bb_M_readPolynomial 1 = .ok (.istore_n 2, 1) := by decide +kernel
theorem dd_M_readPolynomial_2 : decode bb_M_readPolynomial 2 = .ok (.aload_n 0, 1) := by decide +kernel
theorem dd_M_readPolynomial_3 : decode bb_M_readPolynomial 3 = .ok (.invokevirtual 156, 3) := by decide +kernel
theorem dd_M_readPolynomial_6 : decode bb_M_readPolynomial 6 = .ok (.bipush 45, 2) := by decide +kernel
theorem dd_M_readPolynomial_8 : decode bb_M_readPolynomial 8 = .ok (.if_icmp .ne 7, 3) := by decide +kernel
theorem dd_M_readPolynomial_11 : decode bb_M_readPolynomial 11 = .ok (.iconst 1, 1) := by decide +kernel
theorem dd_M_readPolynomial_12 : decode bb_M_readPolynomial 12 = .ok (.goto 4, 3) := by decide +kernel
theorem dd_M_readPolynomial_15 : decode bb_M_readPolynomial 15 = .ok (.iconst 0, 1) := by decide +kernel
theorem dd_M_readPolynomial_16 : decode bb_M_readPolynomial 16 = .ok (.istore_n 3, 1) := by decide +kernel
theorem dd_M_readPolynomial_17 : decode bb_M_readPolynomial 17 = .ok (.iload_n 3, 1) := by decide +kernel
theorem dd_M_readPolynomial_18 : decode bb_M_readPolynomial 18 = .ok (.ifCond .eq 13, 3) := by decide +kernel
theorem dd_M_readPolynomial_21 : decode bb_M_readPolynomial 21 = .ok (.aload_n 0, 1) := by decide +kernel
theorem dd_M_readPolynomial_22 : decode bb_M_readPolynomial 22 = .ok (.dup, 1) := by decide +kernel
theorem dd_M_readPolynomial_23 : decode bb_M_readPolynomial 23 = .ok (.getfield 153, 3) := by decide +kernel
theorem dd_M_readPolynomial_26 : decode bb_M_readPolynomial 26 = .ok (.iconst 1, 1) := by decide +kernel
theorem dd_M_readPolynomial_27 : decode bb_M_readPolynomial 27 = .ok (.iadd, 1) := by decide +kernel
theorem dd_M_readPolynomial_28 : decode bb_M_readPolynomial 28 = .ok (.putfield 153, 3) := by decide +kernel
theorem dd_M_readPolynomial_31 : decode bb_M_readPolynomial 31 = .ok (.iconst 1, 1) := by decide +kernel
theorem dd_M_readPolynomial_32 : decode bb_M_readPolynomial 32 = .ok (.istore 4, 2) := by decide +kernel
theorem dd_M_readPolynomial_34 : decode bb_M_readPolynomial 34 = .ok (.iload 4, 2) := by decide +kernel
theorem dd_M_readPolynomial_36 : decode bb_M_readPolynomial 36 = .ok (.ifCond .eq 108, 3) := by decide +kernel
theorem dd_M_readPolynomial_39 : decode bb_M_readPolynomial 39 = .ok (.aload_n 0, 1) := by decide +kernel
theorem dd_M_readPolynomial_40 : decode bb_M_readPolynomial 40 = .ok (.getfield 13, 3) := by decide +kernel
theorem dd_M_readPolynomial_43 : decode bb_M_readPolynomial 43 = .ok (.ifCond .ge 101, 3) := by decide +kernel
theorem dd_M_readPolynomial_46 : decode bb_M_readPolynomial 46 = .ok (.aload_n 0, 1) := by decide +kernel
theorem dd_M_readPolynomial_47 : decode bb_M_readPolynomial 47 = .ok (.bipush 12, 2) := by decide +kernel
theorem dd_M_readPolynomial_49 : decode bb_M_readPolynomial 49 = .ok (.iload_n 1, 1) := by decide +kernel
theorem dd_M_readPolynomial_50 : decode bb_M_readPolynomial 50 = .ok (.imul, 1) := by decide +kernel
theorem dd_M_readPolynomial_51 : decode bb_M_readPolynomial 51 = .ok (.iload_n 2, 1) := by decide +kernel
theorem dd_M_readPolynomial_52 : decode bb_M_readPolynomial 52 = .ok (.iadd, 1) := by decide +kernel
theorem dd_M_readPolynomial_53 : decode bb_M_readPolynomial 53 = .ok (.iload_n 3, 1) := by decide +kernel
theorem dd_M_readPolynomial_54 : decode bb_M_readPolynomial 54 = .ok (.invokevirtual 179, 3) := by decide +kernel
theorem dd_M_readPolynomial_57 : decode bb_M_readPolynomial 57 = .ok (.iinc 2 1, 3) := by decide +kernel
theorem dd_M_readPolynomial_60 : decode bb_M_readPolynomial 60 = .ok (.aload_n 0, 1) := by decide +kernel
theorem dd_M_readPolynomial_61 : decode bb_M_readPolynomial 61 = .ok (.getfield 13, 3) := by decide +kernel
theorem dd_M_readPolynomial_64 : decode bb_M_readPolynomial 64 = .ok (.ifCond .ge 25, 3) := by decide +kernel
theorem dd_M_readPolynomial_67 : decode bb_M_readPolynomial 67 = .ok (.aload_n 0, 1) := by decide +kernel
theorem dd_M_readPolynomial_68 : decode bb_M_readPolynomial 68 = .ok (.invokevirtual 156, 3) := by decide +kernel
theorem dd_M_readPolynomial_71 : decode bb_M_readPolynomial 71 = .ok (.bipush 43, 2) := by decide +kernel
theorem dd_M_readPolynomial_73 : decode bb_M_readPolynomial 73 = .ok (.if_icmp .eq 12, 3) := by decide +kernel
theorem dd_M_readPolynomial_76 : decode bb_M_readPolynomial 76 = .ok (.aload_n 0, 1) := by decide +kernel
theorem dd_M_readPolynomial_77 : decode bb_M_readPolynomial 77 = .ok (.invokevirtual 156, 3) := by decide +kernel
theorem dd_M_readPolynomial_80 : decode bb_M_readPolynomial 80 = .ok (.bipush 45, 2) := by decide +kernel
theorem dd_M_readPolynomial_82 : decode bb_M_readPolynomial 82 = .ok (.if_icmp .ne 7, 3) := by decide +kernel
theorem dd_M_readPolynomial_85 : decode bb_M_readPolynomial 85 = .ok (.iconst 1, 1) := by decide +kernel
theorem dd_M_readPolynomial_86 : decode bb_M_readPolynomial 86 = .ok (.goto 4, 3) := by decide +kernel
theorem dd_M_readPolynomial_89 : decode bb_M_readPolynomial 89 = .ok (.iconst 0, 1) := by decide +kernel
theorem dd_M_readPolynomial_90 : decode bb_M_readPolynomial 90 = .ok (.istore 4, 2) := by decide +kernel
theorem dd_M_readPolynomial_92 : decode bb_M_readPolynomial 92 = .ok (.iload 4, 2) := by decide +kernel
theorem dd_M_readPolynomial_94 : decode bb_M_readPolynomial 94 = .ok (.ifCond .eq 17, 3) := by decide +kernel
theorem dd_M_readPolynomial_97 : decode bb_M_readPolynomial 97 = .ok (.iload_n 2, 1) := by decide +kernel
theorem dd_M_readPolynomial_98 : decode bb_M_readPolynomial 98 = .ok (.bipush 12, 2) := by decide +kernel
theorem dd_M_readPolynomial_100 : decode bb_M_readPolynomial 100 = .ok (.if_icmp .ne 11, 3) := by decide +kernel
theorem dd_M_readPolynomial_103 : decode bb_M_readPolynomial 103 = .ok (.aload_n 0, 1) := by decide +kernel
theorem dd_M_readPolynomial_104 : decode bb_M_readPolynomial 104 = .ok (.aload_n 0, 1) := by decide +kernel
theorem dd_M_readPolynomial_105 : decode bb_M_readPolynomial 105 = .ok (.getfield 153, 3) := by decide +kernel
theorem dd_M_readPolynomial_108 : decode bb_M_readPolynomial 108 = .ok (.invokevirtual 160, 3) := by decide +kernel
theorem dd_M_readPolynomial_111 : decode bb_M_readPolynomial 111 = .ok (.iload 4, 2) := by decide +kernel
theorem dd_M_readPolynomial_113 : decode bb_M_readPolynomial 113 = .ok (.ifCond .eq (-79), 3) := by decide +kernel
theorem dd_M_readPolynomial_116 : decode bb_M_readPolynomial 116 = .ok (.aload_n 0, 1) := by decide +kernel
theorem dd_M_readPolynomial_117 : decode bb_M_readPolynomial 117 = .ok (.invokevirtual 156, 3) := by decide +kernel
theorem dd_M_readPolynomial_120 : decode bb_M_readPolynomial 120 = .ok (.bipush 45, 2) := by decide +kernel
theorem dd_M_readPolynomial_122 : decode bb_M_readPolynomial 122 = .ok (.if_icmp .ne 7, 3) := by decide +kernel
theorem dd_M_readPolynomial_125 : decode bb_M_readPolynomial 125 = .ok (.iconst 1, 1) := by decide +kernel
theorem dd_M_readPolynomial_126 : decode bb_M_readPolynomial 126 = .ok (.goto 4, 3) := by decide +kernel
theorem dd_M_readPolynomial_129 : decode bb_M_readPolynomial 129 = .ok (.iconst 0, 1) := by decide +kernel
theorem dd_M_readPolynomial_130 : decode bb_M_readPolynomial 130 = .ok (.istore_n 3, 1) := by decide +kernel
theorem dd_M_readPolynomial_131 : decode bb_M_readPolynomial 131 = .ok (.aload_n 0, 1) := by decide +kernel
theorem dd_M_readPolynomial_132 : decode bb_M_readPolynomial 132 = .ok (.dup, 1) := by decide +kernel
theorem dd_M_readPolynomial_133 : decode bb_M_readPolynomial 133 = .ok (.getfield 153, 3) := by decide +kernel
theorem dd_M_readPolynomial_136 : decode bb_M_readPolynomial 136 = .ok (.iconst 1, 1) := by decide +kernel
theorem dd_M_readPolynomial_137 : decode bb_M_readPolynomial 137 = .ok (.iadd, 1) := by decide +kernel
theorem dd_M_readPolynomial_138 : decode bb_M_readPolynomial 138 = .ok (.putfield 153, 3) := by decide +kernel
theorem dd_M_readPolynomial_141 : decode bb_M_readPolynomial 141 = .ok (.goto (-107), 3) := by decide +kernel
theorem dd_M_readPolynomial_144 : decode bb_M_readPolynomial 144 = .ok (.aload_n 0, 1) := by decide +kernel
theorem dd_M_readPolynomial_145 : decode bb_M_readPolynomial 145 = .ok (.getfield 36, 3) := by decide +kernel
theorem dd_M_readPolynomial_148 : decode bb_M_readPolynomial 148 = .ok (.iload_n 1, 1) := by decide +kernel
theorem dd_M_readPolynomial_149 : decode bb_M_readPolynomial 149 = .ok (.iload_n 2, 1) := by decide +kernel
theorem dd_M_readPolynomial_150 : decode bb_M_readPolynomial 150 = .ok (.iastore, 1) := by decide +kernel
theorem dd_M_readPolynomial_151 : decode bb_M_readPolynomial 151 = .ok (.aload_n 0, 1) := by decide +kernel
theorem dd_M_readPolynomial_152 : decode bb_M_readPolynomial 152 = .ok (.bipush 59, 2) := by decide +kernel
theorem dd_M_readPolynomial_154 : decode bb_M_readPolynomial 154 = .ok (.invokevirtual 182, 3) := by decide +kernel
theorem dd_M_readPolynomial_157 : decode bb_M_readPolynomial 157 = .ok (.return_, 1) := by decide +kernel
theorem dd_M_readTerm_0 : decode bb_M_readTerm 0 = .ok (.iconst 0, 1) := by decide +kernel
theorem dd_M_readTerm_1 : decode bb_M_readTerm 1 = .ok (.istore_n 3, 1) := by decide +kernel
theorem dd_M_readTerm_2 : decode bb_M_readTerm 2 = .ok (.iload_n 3, 1) := by decide +kernel
theorem dd_M_readTerm_3 : decode bb_M_readTerm 3 = .ok (.iconst 3, 1) := by decide +kernel
theorem dd_M_readTerm_4 : decode bb_M_readTerm 4 = .ok (.if_icmp .ge 20, 3) := by decide +kernel
theorem dd_M_readTerm_7 : decode bb_M_readTerm 7 = .ok (.aload_n 0, 1) := by decide +kernel
theorem dd_M_readTerm_8 : decode bb_M_readTerm 8 = .ok (.getfield 45, 3) := by decide +kernel
theorem dd_M_readTerm_11 : decode bb_M_readTerm 11 = .ok (.iconst 3, 1) := by decide +kernel
theorem dd_M_readTerm_12 : decode bb_M_readTerm 12 = .ok (.iload_n 1, 1) := by decide +kernel
theorem dd_M_readTerm_13 : decode bb_M_readTerm 13 = .ok (.imul, 1) := by decide +kernel
theorem dd_M_readTerm_14 : decode bb_M_readTerm 14 = .ok (.iload_n 3, 1) := by decide +kernel
theorem dd_M_readTerm_15 : decode bb_M_readTerm 15 = .ok (.iadd, 1) := by decide +kernel
theorem dd_M_readTerm_16 : decode bb_M_readTerm 16 = .ok (.iconst 0, 1) := by decide +kernel
theorem dd_M_readTerm_17 : decode bb_M_readTerm 17 = .ok (.iastore, 1) := by decide +kernel
theorem dd_M_readTerm_18 : decode bb_M_readTerm 18 = .ok (.iinc 3 1, 3) := by decide +kernel
theorem dd_M_readTerm_21 : decode bb_M_readTerm 21 = .ok (.goto (-19), 3) := by decide +kernel
theorem dd_M_readTerm_24 : decode bb_M_readTerm 24 = .ok (.aload_n 0, 1) := by decide +kernel
theorem dd_M_readTerm_25 : decode bb_M_readTerm 25 = .ok (.invokevirtual 164, 3) := by decide +kernel
theorem dd_M_readTerm_28 : decode bb_M_readTerm 28 = .ok (.ifCond .ne 18, 3) := by decide +kernel
theorem dd_M_readTerm_31 : decode bb_M_readTerm 31 = .ok (.aload_n 0, 1) := by decide +kernel
theorem dd_M_readTerm_32 : decode bb_M_readTerm 32 = .ok (.invokevirtual 172, 3) := by decide +kernel
theorem dd_M_readTerm_35 : decode bb_M_readTerm 35 = .ok (.ifCond .ne 11, 3) := by decide +kernel
theorem dd_M_readTerm_38 : decode bb_M_readTerm 38 = .ok (.aload_n 0, 1) := by decide +kernel
theorem dd_M_readTerm_39 : decode bb_M_readTerm 39 = .ok (.aload_n 0, 1) := by decide +kernel
theorem dd_M_readTerm_40 : decode bb_M_readTerm 40 = .ok (.getfield 153, 3) := by decide +kernel
theorem dd_M_readTerm_43 : decode bb_M_readTerm 43 = .ok (.invokevirtual 160, 3) := by decide +kernel
theorem dd_M_readTerm_46 : decode bb_M_readTerm 46 = .ok (.aload_n 0, 1) := by decide +kernel
theorem dd_M_readTerm_47 : decode bb_M_readTerm 47 = .ok (.getfield 13, 3) := by decide +kernel
theorem dd_M_readTerm_50 : decode bb_M_readTerm 50 = .ok (.ifCond .lt 4, 3) := by decide +kernel
theorem dd_M_readTerm_53 : decode bb_M_readTerm 53 = .ok (.return_, 1) := by decide +kernel
theorem dd_M_readTerm_54 : decode bb_M_readTerm 54 = .ok (.aload_n 0, 1) := by decide +kernel
theorem dd_M_readTerm_55 : decode bb_M_readTerm 55 = .ok (.iload_n 1, 1) := by decide +kernel
theorem dd_M_readTerm_56 : decode bb_M_readTerm 56 = .ok (.iload_n 2, 1) := by decide +kernel
theorem dd_M_readTerm_57 : decode bb_M_readTerm 57 = .ok (.invokevirtual 175, 3) := by decide +kernel
theorem dd_M_readTerm_60 : decode bb_M_readTerm 60 = .ok (.iconst 0, 1) := by decide +kernel
theorem dd_M_readTerm_61 : decode bb_M_readTerm 61 = .ok (.istore_n 3, 1) := by decide +kernel
theorem dd_M_readTerm_62 : decode bb_M_readTerm 62 = .ok (.aload_n 0, 1) := by decide +kernel
theorem dd_M_readTerm_63 : decode bb_M_readTerm 63 = .ok (.getfield 13, 3) := by decide +kernel
theorem dd_M_readTerm_66 : decode bb_M_readTerm 66 = .ok (.ifCond .ge 160, 3) := by decide +kernel
theorem dd_M_readTerm_69 : decode bb_M_readTerm 69 = .ok (.aload_n 0, 1) := by decide +kernel
theorem dd_M_readTerm_70 : decode bb_M_readTerm 70 = .ok (.invokevirtual 172, 3) := by decide +kernel
theorem dd_M_readTerm_73 : decode bb_M_readTerm 73 = .ok (.ifCond .eq 153, 3) := by decide +kernel
theorem dd_M_readTerm_76 : decode bb_M_readTerm 76 = .ok (.aload_n 0, 1) := by decide +kernel
theorem dd_M_readTerm_77 : decode bb_M_readTerm 77 = .ok (.invokevirtual 156, 3) := by decide +kernel
theorem dd_M_readTerm_80 : decode bb_M_readTerm 80 = .ok (.bipush 120, 2) := by decide +kernel
theorem dd_M_readTerm_82 : decode bb_M_readTerm 82 = .ok (.isub, 1) := by decide +kernel
theorem dd_M_readTerm_83 : decode bb_M_readTerm 83 = .ok (.istore 4, 2) := by decide +kernel
theorem dd_M_readTerm_85 : decode bb_M_readTerm 85 = .ok (.aload_n 0, 1) := by decide +kernel
theorem dd_M_readTerm_86 : decode bb_M_readTerm 86 = .ok (.getfield 17, 3) := by decide +kernel
theorem dd_M_readTerm_89 : decode bb_M_readTerm 89 = .ok (.iload 4, 2) := by decide +kernel
theorem dd_M_readTerm_91 : decode bb_M_readTerm 91 = .ok (.iaload, 1) := by decide +kernel
theorem dd_M_readTerm_92 : decode bb_M_readTerm 92 = .ok (.ifCond .ge 14, 3) := by decide +kernel
theorem dd_M_readTerm_95 : decode bb_M_readTerm 95 = .ok (.aload_n 0, 1) := by decide +kernel
theorem dd_M_readTerm_96 : decode bb_M_readTerm 96 = .ok (.getfield 17, 3) := by decide +kernel
theorem dd_M_readTerm_99 : decode bb_M_readTerm 99 = .ok (.iload 4, 2) := by decide +kernel
theorem dd_M_readTerm_101 : decode bb_M_readTerm 101 = .ok (.aload_n 0, 1) := by decide +kernel
theorem dd_M_readTerm_102 : decode bb_M_readTerm 102 = .ok (.getfield 153, 3) := by decide +kernel
theorem dd_M_readTerm_105 : decode bb_M_readTerm 105 = .ok (.iastore, 1) := by decide +kernel
theorem dd_M_readTerm_106 : decode bb_M_readTerm 106 = .ok (.iconst 1, 1) := by decide +kernel
theorem dd_M_readTerm_107 : decode bb_M_readTerm 107 = .ok (.istore 5, 2) := by decide +kernel
theorem dd_M_readTerm_109 : decode bb_M_readTerm 109 = .ok (.iload_n 3, 1) := by decide +kernel
theorem dd_M_readTerm_110 : decode bb_M_readTerm 110 = .ok (.iconst 1, 1) := by decide +kernel
theorem dd_M_readTerm_111 : decode bb_M_readTerm 111 = .ok (.iadd, 1) := by decide +kernel
theorem dd_M_readTerm_112 : decode bb_M_readTerm 112 = .ok (.bipush 6, 2) := by decide +kernel
theorem dd_M_readTerm_114 : decode bb_M_readTerm 114 = .ok (.if_icmp .le 11, 3) := by decide +kernel
theorem dd_M_readTerm_117 : decode bb_M_readTerm 117 = .ok (.aload_n 0, 1) := by decide +kernel
theorem dd_M_readTerm_118 : decode bb_M_readTerm 118 = .ok (.aload_n 0, 1) := by decide +kernel
theorem dd_M_readTerm_119 : decode bb_M_readTerm 119 = .ok (.getfield 153, 3) := by decide +kernel
theorem dd_M_readTerm_122 : decode bb_M_readTerm 122 = .ok (.invokevirtual 160, 3) := by decide +kernel
theorem dd_M_readTerm_125 : decode bb_M_readTerm 125 = .ok (.aload_n 0, 1) := by decide +kernel
theorem dd_M_readTerm_126 : decode bb_M_readTerm 126 = .ok (.dup, 1) := by decide +kernel
theorem dd_M_readTerm_127 : decode bb_M_readTerm 127 = .ok (.getfield 153, 3) := by decide +kernel
theorem dd_M_readTerm_130 : decode bb_M_readTerm 130 = .ok (.iconst 1, 1) := by decide +kernel
theorem dd_M_readTerm_131 : decode bb_M_readTerm 131 = .ok (.iadd, 1) := by decide +kernel
theorem dd_M_readTerm_132 : decode bb_M_readTerm 132 = .ok (.putfield 153, 3) := by decide +kernel
theorem dd_M_readTerm_135 : decode bb_M_readTerm 135 = .ok (.aload_n 0, 1) := by decide +kernel
theorem dd_M_readTerm_136 : decode bb_M_readTerm 136 = .ok (.invokevirtual 156, 3) := by decide +kernel
theorem dd_M_readTerm_139 : decode bb_M_readTerm 139 = .ok (.bipush 94, 2) := by decide +kernel
theorem dd_M_readTerm_141 : decode bb_M_readTerm 141 = .ok (.if_icmp .ne 61, 3) := by decide +kernel
theorem dd_M_readTerm_144 : decode bb_M_readTerm 144 = .ok (.aload_n 0, 1) := by decide +kernel
theorem dd_M_readTerm_145 : decode bb_M_readTerm 145 = .ok (.dup, 1) := by decide +kernel
theorem dd_M_readTerm_146 : decode bb_M_readTerm 146 = .ok (.getfield 153, 3) := by decide +kernel
theorem dd_M_readTerm_149 : decode bb_M_readTerm 149 = .ok (.iconst 1, 1) := by decide +kernel
theorem dd_M_readTerm_150 : decode bb_M_readTerm 150 = .ok (.iadd, 1) := by decide +kernel
theorem dd_M_readTerm_151 : decode bb_M_readTerm 151 = .ok (.putfield 153, 3) := by decide +kernel
theorem dd_M_readTerm_154 : decode bb_M_readTerm 154 = .ok (.aload_n 0, 1) := by decide +kernel
theorem dd_M_readTerm_155 : decode bb_M_readTerm 155 = .ok (.invokevirtual 156, 3) := by decide +kernel
theorem dd_M_readTerm_158 : decode bb_M_readTerm 158 = .ok (.bipush 48, 2) := by decide +kernel
theorem dd_M_readTerm_160 : decode bb_M_readTerm 160 = .ok (.isub, 1) := by decide +kernel
theorem dd_M_readTerm_161 : decode bb_M_readTerm 161 = .ok (.istore 5, 2) := by decide +kernel
theorem dd_M_readTerm_163 : decode bb_M_readTerm 163 = .ok (.iload 5, 2) := by decide +kernel
theorem dd_M_readTerm_165 : decode bb_M_readTerm 165 = .ok (.iconst 1, 1) := by decide +kernel
theorem dd_M_readTerm_166 : decode bb_M_readTerm 166 = .ok (.if_icmp .lt 18, 3) := by decide +kernel
theorem dd_M_readTerm_169 : decode bb_M_readTerm 169 = .ok (.iload 5, 2) := by decide +kernel
theorem dd_M_readTerm_171 : decode bb_M_readTerm 171 = .ok (.iconst 4, 1) := by decide +kernel
theorem dd_M_readTerm_172 : decode bb_M_readTerm 172 = .ok (.if_icmp .gt 12, 3) := by decide +kernel
theorem dd_M_readTerm_175 : decode bb_M_readTerm 175 = .ok (.iload_n 3, 1) := by decide +kernel
theorem dd_M_readTerm_176 : decode bb_M_readTerm 176 = .ok (.iload 5, 2) := by decide +kernel
theorem dd_M_readTerm_178 : decode bb_M_readTerm 178 = .ok (.iadd, 1) := by decide +kernel
theorem dd_M_readTerm_179 : decode bb_M_readTerm 179 = .ok (.bipush 6, 2) := by decide +kernel
theorem dd_M_readTerm_181 : decode bb_M_readTerm 181 = .ok (.if_icmp .le 11, 3) := by decide +kernel
theorem dd_M_readTerm_184 : decode bb_M_readTerm 184 = .ok (.aload_n 0, 1) := by decide +kernel
theorem dd_M_readTerm_185 : decode bb_M_readTerm 185 = .ok (.aload_n 0, 1) := by decide +kernel
theorem dd_M_readTerm_186 : decode bb_M_readTerm 186 = .ok (.getfield 153, 3) := by decide +kernel
theorem dd_M_readTerm_189 : decode bb_M_readTerm 189 = .ok (.invokevirtual 160, 3) := by decide +kernel
theorem dd_M_readTerm_192 : decode bb_M_readTerm 192 = .ok (.aload_n 0, 1) := by decide +kernel
theorem dd_M_readTerm_193 : decode bb_M_readTerm 193 = .ok (.dup, 1) := by decide +kernel
theorem dd_M_readTerm_194 : decode bb_M_readTerm 194 = .ok (.getfield 153, 3) := by decide +kernel
theorem dd_M_readTerm_197 : decode bb_M_readTerm 197 = .ok (.iconst 1, 1) := by decide +kernel
theorem dd_M_readTerm_198 : decode bb_M_readTerm 198 = .ok (.iadd, 1) := by decide +kernel
theorem dd_M_readTerm_199 : decode bb_M_readTerm 199 = .ok (.putfield 153, 3) := by decide +kernel
theorem dd_M_readTerm_202 : decode bb_M_readTerm 202 = .ok (.iload_n 3, 1) := by decide +kernel
theorem dd_M_readTerm_203 : decode bb_M_readTerm 203 = .ok (.iload 5, 2) := by decide +kernel
theorem dd_M_readTerm_205 : decode bb_M_readTerm 205 = .ok (.iadd, 1) := by decide +kernel
theorem dd_M_readTerm_206 : decode bb_M_readTerm 206 = .ok (.istore_n 3, 1) := by decide +kernel
theorem dd_M_readTerm_207 : decode bb_M_readTerm 207 = .ok (.aload_n 0, 1) := by decide +kernel
theorem dd_M_readTerm_208 : decode bb_M_readTerm 208 = .ok (.getfield 45, 3) := by decide +kernel
theorem dd_M_readTerm_211 : decode bb_M_readTerm 211 = .ok (.iconst 3, 1) := by decide +kernel
theorem dd_M_readTerm_212 : decode bb_M_readTerm 212 = .ok (.iload_n 1, 1) := by decide +kernel
theorem dd_M_readTerm_213 : decode bb_M_readTerm 213 = .ok (.imul, 1) := by decide +kernel
theorem dd_M_readTerm_214 : decode bb_M_readTerm 214 = .ok (.iload 4, 2) := by decide +kernel
theorem dd_M_readTerm_216 : decode bb_M_readTerm 216 = .ok (.iadd, 1) := by decide +kernel
theorem dd_M_readTerm_217 : decode bb_M_readTerm 217 = .ok (.dup2, 1) := by decide +kernel
theorem dd_M_readTerm_218 : decode bb_M_readTerm 218 = .ok (.iaload, 1) := by decide +kernel
theorem dd_M_readTerm_219 : decode bb_M_readTerm 219 = .ok (.iload 5, 2) := by decide +kernel
theorem dd_M_readTerm_221 : decode bb_M_readTerm 221 = .ok (.iadd, 1) := by decide +kernel
theorem dd_M_readTerm_222 : decode bb_M_readTerm 222 = .ok (.iastore, 1) := by decide +kernel
theorem dd_M_readTerm_223 : decode bb_M_readTerm 223 = .ok (.goto (-161), 3) := by decide +kernel
theorem dd_M_readTerm_226 : decode bb_M_readTerm 226 = .ok (.return_, 1) := by decide +kernel
theorem dd_M_isDigit_0 : decode bb_M_isDigit 0 = .ok (.aload_n 0, 1) := by decide +kernel
theorem dd_M_isDigit_1 : decode bb_M_isDigit 1 = .ok (.invokevirtual 156, 3) := by decide +kernel
theorem dd_M_isDigit_4 : decode bb_M_isDigit 4 = .ok (.bipush 48, 2) := by decide +kernel
theorem dd_M_isDigit_6 : decode bb_M_isDigit 6 = .ok (.if_icmp .lt 16, 3) := by decide +kernel
theorem dd_M_isDigit_9 : decode bb_M_isDigit 9 = .ok (.aload_n 0, 1) := by decide +kernel
theorem dd_M_isDigit_10 : decode bb_M_isDigit 10 = .ok (.invokevirtual 156, 3) := by decide +kernel
theorem dd_M_isDigit_13 : decode bb_M_isDigit 13 = .ok (.bipush 57, 2) := by decide +kernel
theorem dd_M_isDigit_15 : decode bb_M_isDigit 15 = .ok (.if_icmp .gt 7, 3) := by decide +kernel
theorem dd_M_isDigit_18 : decode bb_M_isDigit 18 = .ok (.iconst 1, 1) := by decide +kernel
theorem dd_M_isDigit_19 : decode bb_M_isDigit 19 = .ok (.goto 4, 3) := by decide +kernel
theorem dd_M_isDigit_22 : decode bb_M_isDigit 22 = .ok (.iconst 0, 1) := by decide +kernel
theorem dd_M_isDigit_23 : decode bb_M_isDigit 23 = .ok (.ireturn, 1) := by decide +kernel
theorem dd_M_isLetter_0 : decode bb_M_isLetter 0 = .ok (.aload_n 0, 1) := by decide +kernel
theorem dd_M_isLetter_1 : decode bb_M_isLetter 1 = .ok (.invokevirtual 156, 3) := by decide +kernel
theorem dd_M_isLetter_4 : decode bb_M_isLetter 4 = .ok (.bipush 120, 2) := by decide +kernel
theorem dd_M_isLetter_6 : decode bb_M_isLetter 6 = .ok (.if_icmp .lt 16, 3) := by decide +kernel
theorem dd_M_isLetter_9 : decode bb_M_isLetter 9 = .ok (.aload_n 0, 1) := by decide +kernel
theorem dd_M_isLetter_10 : decode bb_M_isLetter 10 = .ok (.invokevirtual 156, 3) := by decide +kernel
theorem dd_M_isLetter_13 : decode bb_M_isLetter 13 = .ok (.bipush 122, 2) := by decide +kernel
theorem dd_M_isLetter_15 : decode bb_M_isLetter 15 = .ok (.if_icmp .gt 7, 3) := by decide +kernel
theorem dd_M_isLetter_18 : decode bb_M_isLetter 18 = .ok (.iconst 1, 1) := by decide +kernel
theorem dd_M_isLetter_19 : decode bb_M_isLetter 19 = .ok (.goto 4, 3) := by decide +kernel
theorem dd_M_isLetter_22 : decode bb_M_isLetter 22 = .ok (.iconst 0, 1) := by decide +kernel
theorem dd_M_isLetter_23 : decode bb_M_isLetter 23 = .ok (.ireturn, 1) := by decide +kernel
theorem dd_M_readNumber_0 : decode bb_M_readNumber 0 = .ok (.lconst 1, 1) := by decide +kernel
theorem dd_M_readNumber_1 : decode bb_M_readNumber 1 = .ok (.lstore_n 3, 1) := by decide +kernel
theorem dd_M_readNumber_2 : decode bb_M_readNumber 2 = .ok (.lconst 1, 1) := by decide +kernel
theorem dd_M_readNumber_3 : decode bb_M_readNumber 3 = .ok (.lstore 5, 2) := by decide +kernel
theorem dd_M_readNumber_5 : decode bb_M_readNumber 5 = .ok (.aload_n 0, 1) := by decide +kernel
theorem dd_M_readNumber_6 : decode bb_M_readNumber 6 = .ok (.invokevirtual 164, 3) := by decide +kernel
theorem dd_M_readNumber_9 : decode bb_M_readNumber 9 = .ok (.ifCond .eq 59, 3) := by decide +kernel
theorem dd_M_readNumber_12 : decode bb_M_readNumber 12 = .ok (.aload_n 0, 1) := by decide +kernel
theorem dd_M_readNumber_13 : decode bb_M_readNumber 13 = .ok (.iconst 3, 1) := by decide +kernel
theorem dd_M_readNumber_14 : decode bb_M_readNumber 14 = .ok (.invokevirtual 168, 3) := by decide +kernel
theorem dd_M_readNumber_17 : decode bb_M_readNumber 17 = .ok (.i2l, 1) := by decide +kernel
theorem dd_M_readNumber_18 : decode bb_M_readNumber 18 = .ok (.lstore_n 3, 1) := by decide +kernel
theorem dd_M_readNumber_19 : decode bb_M_readNumber 19 = .ok (.aload_n 0, 1) := by decide +kernel
theorem dd_M_readNumber_20 : decode bb_M_readNumber 20 = .ok (.invokevirtual 156, 3) := by decide +kernel
theorem dd_M_readNumber_23 : decode bb_M_readNumber 23 = .ok (.bipush 47, 2) := by decide +kernel
theorem dd_M_readNumber_25 : decode bb_M_readNumber 25 = .ok (.if_icmp .ne 43, 3) := by decide +kernel
theorem dd_M_readNumber_28 : decode bb_M_readNumber 28 = .ok (.aload_n 0, 1) := by decide +kernel
theorem dd_M_readNumber_29 : decode bb_M_readNumber 29 = .ok (.dup, 1) := by decide +kernel
theorem dd_M_readNumber_30 : decode bb_M_readNumber 30 = .ok (.getfield 153, 3) := by decide +kernel
theorem dd_M_readNumber_33 : decode bb_M_readNumber 33 = .ok (.iconst 1, 1) := by decide +kernel
theorem dd_M_readNumber_34 : decode bb_M_readNumber 34 = .ok (.iadd, 1) := by decide +kernel
theorem dd_M_readNumber_35 : decode bb_M_readNumber 35 = .ok (.putfield 153, 3) := by decide +kernel
theorem dd_M_readNumber_38 : decode bb_M_readNumber 38 = .ok (.aload_n 0, 1) := by decide +kernel
theorem dd_M_readNumber_39 : decode bb_M_readNumber 39 = .ok (.getfield 153, 3) := by decide +kernel
theorem dd_M_readNumber_42 : decode bb_M_readNumber 42 = .ok (.istore 7, 2) := by decide +kernel
theorem dd_M_readNumber_44 : decode bb_M_readNumber 44 = .ok (.aload_n 0, 1) := by decide +kernel
theorem dd_M_readNumber_45 : decode bb_M_readNumber 45 = .ok (.iconst 2, 1) := by decide +kernel
theorem dd_M_readNumber_46 : decode bb_M_readNumber 46 = .ok (.invokevirtual 168, 3) := by decide +kernel
theorem dd_M_readNumber_49 : decode bb_M_readNumber 49 = .ok (.i2l, 1) := by decide +kernel
theorem dd_M_readNumber_50 : decode bb_M_readNumber 50 = .ok (.lstore 5, 2) := by decide +kernel
theorem dd_M_readNumber_52 : decode bb_M_readNumber 52 = .ok (.lload 5, 2) := by decide +kernel
theorem dd_M_readNumber_54 : decode bb_M_readNumber 54 = .ok (.lconst 0, 1) := by decide +kernel
theorem dd_M_readNumber_55 : decode bb_M_readNumber 55 = .ok (.lcmp, 1) := by decide +kernel
theorem dd_M_readNumber_56 : decode bb_M_readNumber 56 = .ok (.ifCond .ne 12, 3) := by decide +kernel
theorem dd_M_readNumber_59 : decode bb_M_readNumber 59 = .ok (.aload_n 0, 1) := by decide +kernel
theorem dd_M_readNumber_60 : decode bb_M_readNumber 60 = .ok (.iload 7, 2) := by decide +kernel
theorem dd_M_readNumber_62 : decode bb_M_readNumber 62 = .ok (.invokevirtual 160, 3) := by decide +kernel
theorem dd_M_readNumber_65 : decode bb_M_readNumber 65 = .ok (.lconst 1, 1) := by decide +kernel
theorem dd_M_readNumber_66 : decode bb_M_readNumber 66 = .ok (.lstore 5, 2) := by decide +kernel
theorem dd_M_readNumber_68 : decode bb_M_readNumber 68 = .ok (.lload_n 3, 1) := by decide +kernel
theorem dd_M_readNumber_69 : decode bb_M_readNumber 69 = .ok (.bipush 20, 2) := by decide +kernel
theorem dd_M_readNumber_71 : decode bb_M_readNumber 71 = .ok (.lshl, 1) := by decide +kernel
theorem dd_M_readNumber_72 : decode bb_M_readNumber 72 = .ok (.lload 5, 2) := by decide +kernel
theorem dd_M_readNumber_74 : decode bb_M_readNumber 74 = .ok (.invokestatic 144, 3) := by decide +kernel
theorem dd_M_readNumber_77 : decode bb_M_readNumber 77 = .ok (.lstore 7, 2) := by decide +kernel
theorem dd_M_readNumber_79 : decode bb_M_readNumber 79 = .ok (.lload_n 3, 1) := by decide +kernel
theorem dd_M_readNumber_80 : decode bb_M_readNumber 80 = .ok (.bipush 20, 2) := by decide +kernel
theorem dd_M_readNumber_82 : decode bb_M_readNumber 82 = .ok (.lshl, 1) := by decide +kernel
theorem dd_M_readNumber_83 : decode bb_M_readNumber 83 = .ok (.lneg, 1) := by decide +kernel
theorem dd_M_readNumber_84 : decode bb_M_readNumber 84 = .ok (.lload 5, 2) := by decide +kernel
theorem dd_M_readNumber_86 : decode bb_M_readNumber 86 = .ok (.invokestatic 144, 3) := by decide +kernel
theorem dd_M_readNumber_89 : decode bb_M_readNumber 89 = .ok (.lneg, 1) := by decide +kernel
theorem dd_M_readNumber_90 : decode bb_M_readNumber 90 = .ok (.lstore 9, 2) := by decide +kernel
theorem dd_M_readNumber_92 : decode bb_M_readNumber 92 = .ok (.aload_n 0, 1) := by decide +kernel
theorem dd_M_readNumber_93 : decode bb_M_readNumber 93 = .ok (.getfield 39, 3) := by decide +kernel
theorem dd_M_readNumber_96 : decode bb_M_readNumber 96 = .ok (.iload_n 1, 1) := by decide +kernel
theorem dd_M_readNumber_97 : decode bb_M_readNumber 97 = .ok (.iload_n 2, 1) := by decide +kernel
theorem dd_M_readNumber_98 : decode bb_M_readNumber 98 = .ok (.ifCond .eq 9, 3) := by decide +kernel
theorem dd_M_readNumber_101 : decode bb_M_readNumber 101 = .ok (.lload 9, 2) := by decide +kernel
theorem dd_M_readNumber_103 : decode bb_M_readNumber 103 = .ok (.lneg, 1) := by decide +kernel
theorem dd_M_readNumber_104 : decode bb_M_readNumber 104 = .ok (.goto 5, 3) := by decide +kernel
theorem dd_M_readNumber_107 : decode bb_M_readNumber 107 = .ok (.lload 7, 2) := by decide +kernel
theorem dd_M_readNumber_109 : decode bb_M_readNumber 109 = .ok (.lastore, 1) := by decide +kernel
theorem dd_M_readNumber_110 : decode bb_M_readNumber 110 = .ok (.aload_n 0, 1) := by decide +kernel
theorem dd_M_readNumber_111 : decode bb_M_readNumber 111 = .ok (.getfield 42, 3) := by decide +kernel
theorem dd_M_readNumber_114 : decode bb_M_readNumber 114 = .ok (.iload_n 1, 1) := by decide +kernel
theorem dd_M_readNumber_115 : decode bb_M_readNumber 115 = .ok (.iload_n 2, 1) := by decide +kernel
theorem dd_M_readNumber_116 : decode bb_M_readNumber 116 = .ok (.ifCond .eq 9, 3) := by decide +kernel
theorem dd_M_readNumber_119 : decode bb_M_readNumber 119 = .ok (.lload 7, 2) := by decide +kernel
theorem dd_M_readNumber_121 : decode bb_M_readNumber 121 = .ok (.lneg, 1) := by decide +kernel
theorem dd_M_readNumber_122 : decode bb_M_readNumber 122 = .ok (.goto 5, 3) := by decide +kernel
theorem dd_M_readNumber_125 : decode bb_M_readNumber 125 = .ok (.lload 9, 2) := by decide +kernel
theorem dd_M_readNumber_127 : decode bb_M_readNumber 127 = .ok (.lastore, 1) := by decide +kernel
theorem dd_M_readNumber_128 : decode bb_M_readNumber 128 = .ok (.return_, 1) := by decide +kernel
theorem dd_M_digits_0 : decode bb_M_digits 0 = .ok (.aload_n 0, 1) := by decide +kernel
theorem dd_M_digits_1 : decode bb_M_digits 1 = .ok (.invokevirtual 164, 3) := by decide +kernel
theorem dd_M_digits_4 : decode bb_M_digits 4 = .ok (.ifCond .ne 11, 3) := by decide +kernel
theorem dd_M_digits_7 : decode bb_M_digits 7 = .ok (.aload_n 0, 1) := by decide +kernel
theorem dd_M_digits_8 : decode bb_M_digits 8 = .ok (.aload_n 0, 1) := by decide +kernel
theorem dd_M_digits_9 : decode bb_M_digits 9 = .ok (.getfield 153, 3) := by decide +kernel
theorem dd_M_digits_12 : decode bb_M_digits 12 = .ok (.invokevirtual 160, 3) := by decide +kernel
theorem dd_M_digits_15 : decode bb_M_digits 15 = .ok (.iconst 0, 1) := by decide +kernel
theorem dd_M_digits_16 : decode bb_M_digits 16 = .ok (.istore_n 2, 1) := by decide +kernel
theorem dd_M_digits_17 : decode bb_M_digits 17 = .ok (.iconst 0, 1) := by decide +kernel
theorem dd_M_digits_18 : decode bb_M_digits 18 = .ok (.istore_n 3, 1) := by decide +kernel
theorem dd_M_digits_19 : decode bb_M_digits 19 = .ok (.iload_n 3, 1) := by decide +kernel
theorem dd_M_digits_20 : decode bb_M_digits 20 = .ok (.iload_n 1, 1) := by decide +kernel
theorem dd_M_digits_21 : decode bb_M_digits 21 = .ok (.if_icmp .ge 39, 3) := by decide +kernel
theorem dd_M_digits_24 : decode bb_M_digits 24 = .ok (.aload_n 0, 1) := by decide +kernel
theorem dd_M_digits_25 : decode bb_M_digits 25 = .ok (.invokevirtual 164, 3) := by decide +kernel
theorem dd_M_digits_28 : decode bb_M_digits 28 = .ok (.ifCond .eq 32, 3) := by decide +kernel
theorem dd_M_digits_31 : decode bb_M_digits 31 = .ok (.bipush 10, 2) := by decide +kernel
theorem dd_M_digits_33 : decode bb_M_digits 33 = .ok (.iload_n 2, 1) := by decide +kernel
theorem dd_M_digits_34 : decode bb_M_digits 34 = .ok (.imul, 1) := by decide +kernel
theorem dd_M_digits_35 : decode bb_M_digits 35 = .ok (.aload_n 0, 1) := by decide +kernel
theorem dd_M_digits_36 : decode bb_M_digits 36 = .ok (.invokevirtual 156, 3) := by decide +kernel
theorem dd_M_digits_39 : decode bb_M_digits 39 = .ok (.iadd, 1) := by decide +kernel
theorem dd_M_digits_40 : decode bb_M_digits 40 = .ok (.bipush 48, 2) := by decide +kernel
theorem dd_M_digits_42 : decode bb_M_digits 42 = .ok (.isub, 1) := by decide +kernel
theorem dd_M_digits_43 : decode bb_M_digits 43 = .ok (.istore_n 2, 1) := by decide +kernel
theorem dd_M_digits_44 : decode bb_M_digits 44 = .ok (.aload_n 0, 1) := by decide +kernel
theorem dd_M_digits_45 : decode bb_M_digits 45 = .ok (.dup, 1) := by decide +kernel
theorem dd_M_digits_46 : decode bb_M_digits 46 = .ok (.getfield 153, 3) := by decide +kernel
theorem dd_M_digits_49 : decode bb_M_digits 49 = .ok (.iconst 1, 1) := by decide +kernel
theorem dd_M_digits_50 : decode bb_M_digits 50 = .ok (.iadd, 1) := by decide +kernel
theorem dd_M_digits_51 : decode bb_M_digits 51 = .ok (.putfield 153, 3) := by decide +kernel
theorem dd_M_digits_54 : decode bb_M_digits 54 = .ok (.iinc 3 1, 3) := by decide +kernel
theorem dd_M_digits_57 : decode bb_M_digits 57 = .ok (.goto (-38), 3) := by decide +kernel
theorem dd_M_digits_60 : decode bb_M_digits 60 = .ok (.iload_n 2, 1) := by decide +kernel
theorem dd_M_digits_61 : decode bb_M_digits 61 = .ok (.ireturn, 1) := by decide +kernel
theorem dd_M_down_0 : decode bb_M_down 0 = .ok (.lload_n 0, 1) := by decide +kernel
theorem dd_M_down_1 : decode bb_M_down 1 = .ok (.lload_n 2, 1) := by decide +kernel
theorem dd_M_down_2 : decode bb_M_down 2 = .ok (.ldiv, 1) := by decide +kernel
theorem dd_M_down_3 : decode bb_M_down 3 = .ok (.lstore 4, 2) := by decide +kernel
theorem dd_M_down_5 : decode bb_M_down 5 = .ok (.lload 4, 2) := by decide +kernel
theorem dd_M_down_7 : decode bb_M_down 7 = .ok (.lload_n 2, 1) := by decide +kernel
theorem dd_M_down_8 : decode bb_M_down 8 = .ok (.lmul, 1) := by decide +kernel
theorem dd_M_down_9 : decode bb_M_down 9 = .ok (.lload_n 0, 1) := by decide +kernel
theorem dd_M_down_10 : decode bb_M_down 10 = .ok (.lcmp, 1) := by decide +kernel
theorem dd_M_down_11 : decode bb_M_down 11 = .ok (.ifCond .le 10, 3) := by decide +kernel
theorem dd_M_down_14 : decode bb_M_down 14 = .ok (.lload 4, 2) := by decide +kernel
theorem dd_M_down_16 : decode bb_M_down 16 = .ok (.lconst 1, 1) := by decide +kernel
theorem dd_M_down_17 : decode bb_M_down 17 = .ok (.lsub, 1) := by decide +kernel
theorem dd_M_down_18 : decode bb_M_down 18 = .ok (.goto 5, 3) := by decide +kernel
theorem dd_M_down_21 : decode bb_M_down 21 = .ok (.lload 4, 2) := by decide +kernel
theorem dd_M_down_23 : decode bb_M_down 23 = .ok (.lreturn, 1) := by decide +kernel
theorem dd_M_anew_0 : decode bb_M_anew 0 = .ok (.aload_n 0, 1) := by decide +kernel
theorem dd_M_anew_1 : decode bb_M_anew 1 = .ok (.iconst 0, 1) := by decide +kernel
theorem dd_M_anew_2 : decode bb_M_anew 2 = .ok (.putfield 206, 3) := by decide +kernel
theorem dd_M_anew_5 : decode bb_M_anew 5 = .ok (.aload_n 0, 1) := by decide +kernel
theorem dd_M_anew_6 : decode bb_M_anew 6 = .ok (.aload_n 0, 1) := by decide +kernel
theorem dd_M_anew_7 : decode bb_M_anew 7 = .ok (.getfield 55, 3) := by decide +kernel
theorem dd_M_anew_10 : decode bb_M_anew 10 = .ok (.putfield 70, 3) := by decide +kernel
theorem dd_M_anew_13 : decode bb_M_anew 13 = .ok (.aload_n 0, 1) := by decide +kernel
theorem dd_M_anew_14 : decode bb_M_anew 14 = .ok (.iconst 0, 1) := by decide +kernel
theorem dd_M_anew_15 : decode bb_M_anew 15 = .ok (.putfield 209, 3) := by decide +kernel
theorem dd_M_anew_18 : decode bb_M_anew 18 = .ok (.aload_n 0, 1) := by decide +kernel
theorem dd_M_anew_19 : decode bb_M_anew 19 = .ok (.iconst 0, 1) := by decide +kernel
theorem dd_M_anew_20 : decode bb_M_anew 20 = .ok (.putfield 212, 3) := by decide +kernel
theorem dd_M_anew_23 : decode bb_M_anew 23 = .ok (.aload_n 0, 1) := by decide +kernel
theorem dd_M_anew_24 : decode bb_M_anew 24 = .ok (.iconst 0, 1) := by decide +kernel
theorem dd_M_anew_25 : decode bb_M_anew 25 = .ok (.putfield 215, 3) := by decide +kernel
theorem dd_M_anew_28 : decode bb_M_anew 28 = .ok (.aload_n 0, 1) := by decide +kernel
theorem dd_M_anew_29 : decode bb_M_anew 29 = .ok (.iconst 0, 1) := by decide +kernel
theorem dd_M_anew_30 : decode bb_M_anew 30 = .ok (.putfield 218, 3) := by decide +kernel
theorem dd_M_anew_33 : decode bb_M_anew 33 = .ok (.aload_n 0, 1) := by decide +kernel
theorem dd_M_anew_34 : decode bb_M_anew 34 = .ok (.iconst 0, 1) := by decide +kernel
theorem dd_M_anew_35 : decode bb_M_anew 35 = .ok (.putfield 221, 3) := by decide +kernel
theorem dd_M_anew_38 : decode bb_M_anew 38 = .ok (.aload_n 0, 1) := by decide +kernel
theorem dd_M_anew_39 : decode bb_M_anew 39 = .ok (.iconst 0, 1) := by decide +kernel
theorem dd_M_anew_40 : decode bb_M_anew 40 = .ok (.putfield 224, 3) := by decide +kernel
theorem dd_M_anew_43 : decode bb_M_anew 43 = .ok (.aload_n 0, 1) := by decide +kernel
theorem dd_M_anew_44 : decode bb_M_anew 44 = .ok (.getfield 197, 3) := by decide +kernel
theorem dd_M_anew_47 : decode bb_M_anew 47 = .ok (.ifCond .ne 4, 3) := by decide +kernel
theorem dd_M_anew_50 : decode bb_M_anew 50 = .ok (.return_, 1) := by decide +kernel
theorem dd_M_anew_51 : decode bb_M_anew 51 = .ok (.iconst 0, 1) := by decide +kernel
theorem dd_M_anew_52 : decode bb_M_anew 52 = .ok (.istore_n 1, 1) := by decide +kernel
theorem dd_M_anew_53 : decode bb_M_anew 53 = .ok (.iload_n 1, 1) := by decide +kernel
theorem dd_M_anew_54 : decode bb_M_anew 54 = .ok (.aload_n 0, 1) := by decide +kernel
theorem dd_M_anew_55 : decode bb_M_anew 55 = .ok (.getfield 197, 3) := by decide +kernel
theorem dd_M_anew_58 : decode bb_M_anew 58 = .ok (.if_icmp .ge 57, 3) := by decide +kernel
theorem dd_M_anew_61 : decode bb_M_anew 61 = .ok (.aload_n 0, 1) := by decide +kernel
theorem dd_M_anew_62 : decode bb_M_anew 62 = .ok (.getfield 64, 3) := by decide +kernel
theorem dd_M_anew_65 : decode bb_M_anew 65 = .ok (.iload_n 1, 1) := by decide +kernel
theorem dd_M_anew_66 : decode bb_M_anew 66 = .ok (.aload_n 0, 1) := by decide +kernel
theorem dd_M_anew_67 : decode bb_M_anew 67 = .ok (.getfield 58, 3) := by decide +kernel
theorem dd_M_anew_70 : decode bb_M_anew 70 = .ok (.iload_n 1, 1) := by decide +kernel
theorem dd_M_anew_71 : decode bb_M_anew 71 = .ok (.laload, 1) := by decide +kernel
theorem dd_M_anew_72 : decode bb_M_anew 72 = .ok (.lastore, 1) := by decide +kernel
theorem dd_M_anew_73 : decode bb_M_anew 73 = .ok (.aload_n 0, 1) := by decide +kernel
theorem dd_M_anew_74 : decode bb_M_anew 74 = .ok (.getfield 67, 3) := by decide +kernel
theorem dd_M_anew_77 : decode bb_M_anew 77 = .ok (.iload_n 1, 1) := by decide +kernel
theorem dd_M_anew_78 : decode bb_M_anew 78 = .ok (.aload_n 0, 1) := by decide +kernel
theorem dd_M_anew_79 : decode bb_M_anew 79 = .ok (.getfield 61, 3) := by decide +kernel
theorem dd_M_anew_82 : decode bb_M_anew 82 = .ok (.iload_n 1, 1) := by decide +kernel
theorem dd_M_anew_83 : decode bb_M_anew 83 = .ok (.laload, 1) := by decide +kernel
theorem dd_M_anew_84 : decode bb_M_anew 84 = .ok (.lastore, 1) := by decide +kernel
theorem dd_M_anew_85 : decode bb_M_anew 85 = .ok (.aload_n 0, 1) := by decide +kernel
theorem dd_M_anew_86 : decode bb_M_anew 86 = .ok (.getfield 100, 3) := by decide +kernel
theorem dd_M_anew_89 : decode bb_M_anew 89 = .ok (.iload_n 1, 1) := by decide +kernel
theorem dd_M_anew_90 : decode bb_M_anew 90 = .ok (.aload_n 0, 1) := by decide +kernel
theorem dd_M_anew_91 : decode bb_M_anew 91 = .ok (.getfield 58, 3) := by decide +kernel
theorem dd_M_anew_94 : decode bb_M_anew 94 = .ok (.iload_n 1, 1) := by decide +kernel
theorem dd_M_anew_95 : decode bb_M_anew 95 = .ok (.laload, 1) := by decide +kernel
theorem dd_M_anew_96 : decode bb_M_anew 96 = .ok (.lastore, 1) := by decide +kernel
theorem dd_M_anew_97 : decode bb_M_anew 97 = .ok (.aload_n 0, 1) := by decide +kernel
theorem dd_M_anew_98 : decode bb_M_anew 98 = .ok (.getfield 103, 3) := by decide +kernel
theorem dd_M_anew_101 : decode bb_M_anew 101 = .ok (.iload_n 1, 1) := by decide +kernel
theorem dd_M_anew_102 : decode bb_M_anew 102 = .ok (.aload_n 0, 1) := by decide +kernel
theorem dd_M_anew_103 : decode bb_M_anew 103 = .ok (.getfield 61, 3) := by decide +kernel
theorem dd_M_anew_106 : decode bb_M_anew 106 = .ok (.iload_n 1, 1) := by decide +kernel
theorem dd_M_anew_107 : decode bb_M_anew 107 = .ok (.laload, 1) := by decide +kernel
theorem dd_M_anew_108 : decode bb_M_anew 108 = .ok (.lastore, 1) := by decide +kernel
theorem dd_M_anew_109 : decode bb_M_anew 109 = .ok (.iinc 1 1, 3) := by decide +kernel
theorem dd_M_anew_112 : decode bb_M_anew 112 = .ok (.goto (-59), 3) := by decide +kernel
theorem dd_M_anew_115 : decode bb_M_anew 115 = .ok (.aload_n 0, 1) := by decide +kernel
theorem dd_M_anew_116 : decode bb_M_anew 116 = .ok (.invokevirtual 227, 3) := by decide +kernel
theorem dd_M_anew_119 : decode bb_M_anew 119 = .ok (.return_, 1) := by decide +kernel
theorem dd_M_keep_0 : decode bb_M_keep 0 = .ok (.aload_n 0, 1) := by decide +kernel
theorem dd_M_keep_1 : decode bb_M_keep 1 = .ok (.invokevirtual 238, 3) := by decide +kernel
theorem dd_M_keep_4 : decode bb_M_keep 4 = .ok (.istore_n 1, 1) := by decide +kernel
theorem dd_M_keep_5 : decode bb_M_keep 5 = .ok (.aload_n 0, 1) := by decide +kernel
theorem dd_M_keep_6 : decode bb_M_keep 6 = .ok (.getfield 218, 3) := by decide +kernel
theorem dd_M_keep_9 : decode bb_M_keep 9 = .ok (.sipush 400, 3) := by decide +kernel
theorem dd_M_keep_12 : decode bb_M_keep 12 = .ok (.if_icmp .ge 122, 3) := by decide +kernel
theorem dd_M_keep_15 : decode bb_M_keep 15 = .ok (.iconst 0, 1) := by decide +kernel
theorem dd_M_keep_16 : decode bb_M_keep 16 = .ok (.istore_n 2, 1) := by decide +kernel
theorem dd_M_keep_17 : decode bb_M_keep 17 = .ok (.iload_n 2, 1) := by decide +kernel
theorem dd_M_keep_18 : decode bb_M_keep 18 = .ok (.aload_n 0, 1) := by decide +kernel
theorem dd_M_keep_19 : decode bb_M_keep 19 = .ok (.getfield 197, 3) := by decide +kernel
theorem dd_M_keep_22 : decode bb_M_keep 22 = .ok (.if_icmp .ge 89, 3) := by decide +kernel
theorem dd_M_keep_25 : decode bb_M_keep 25 = .ok (.aload_n 0, 1) := by decide +kernel
theorem dd_M_keep_26 : decode bb_M_keep 26 = .ok (.getfield 73, 3) := by decide +kernel
theorem dd_M_keep_29 : decode bb_M_keep 29 = .ok (.iconst 3, 1) := by decide +kernel
theorem dd_M_keep_30 : decode bb_M_keep 30 = .ok (.aload_n 0, 1) := by decide +kernel
theorem dd_M_keep_31 : decode bb_M_keep 31 = .ok (.getfield 218, 3) := by decide +kernel
theorem dd_M_keep_34 : decode bb_M_keep 34 = .ok (.imul, 1) := by decide +kernel
theorem dd_M_keep_35 : decode bb_M_keep 35 = .ok (.iload_n 2, 1) := by decide +kernel
theorem dd_M_keep_36 : decode bb_M_keep 36 = .ok (.iadd, 1) := by decide +kernel
theorem dd_M_keep_37 : decode bb_M_keep 37 = .ok (.aload_n 0, 1) := by decide +kernel
theorem dd_M_keep_38 : decode bb_M_keep 38 = .ok (.getfield 64, 3) := by decide +kernel
theorem dd_M_keep_41 : decode bb_M_keep 41 = .ok (.iload_n 2, 1) := by decide +kernel
theorem dd_M_keep_42 : decode bb_M_keep 42 = .ok (.laload, 1) := by decide +kernel
theorem dd_M_keep_43 : decode bb_M_keep 43 = .ok (.l2i, 1) := by decide +kernel
theorem dd_M_keep_44 : decode bb_M_keep 44 = .ok (.iastore, 1) := by decide +kernel
theorem dd_M_keep_45 : decode bb_M_keep 45 = .ok (.aload_n 0, 1) := by decide +kernel
theorem dd_M_keep_46 : decode bb_M_keep 46 = .ok (.getfield 76, 3) := by decide +kernel
theorem dd_M_keep_49 : decode bb_M_keep 49 = .ok (.iconst 3, 1) := by decide +kernel
theorem dd_M_keep_50 : decode bb_M_keep 50 = .ok (.aload_n 0, 1) := by decide +kernel
theorem dd_M_keep_51 : decode bb_M_keep 51 = .ok (.getfield 218, 3) := by decide +kernel
theorem dd_M_keep_54 : decode bb_M_keep 54 = .ok (.imul, 1) := by decide +kernel
theorem dd_M_keep_55 : decode bb_M_keep 55 = .ok (.iload_n 2, 1) := by decide +kernel
theorem dd_M_keep_56 : decode bb_M_keep 56 = .ok (.iadd, 1) := by decide +kernel
theorem dd_M_keep_57 : decode bb_M_keep 57 = .ok (.aload_n 0, 1) := by decide +kernel
theorem dd_M_keep_58 : decode bb_M_keep 58 = .ok (.getfield 67, 3) := by decide +kernel
theorem dd_M_keep_61 : decode bb_M_keep 61 = .ok (.iload_n 2, 1) := by decide +kernel
theorem dd_M_keep_62 : decode bb_M_keep 62 = .ok (.laload, 1) := by decide +kernel
theorem dd_M_keep_63 : decode bb_M_keep 63 = .ok (.l2i, 1) := by decide +kernel
theorem dd_M_keep_64 : decode bb_M_keep 64 = .ok (.iastore, 1) := by decide +kernel
theorem dd_M_keep_65 : decode bb_M_keep 65 = .ok (.aload_n 0, 1) := by decide +kernel
theorem dd_M_keep_66 : decode bb_M_keep 66 = .ok (.getfield 79, 3) := by decide +kernel
theorem dd_M_keep_69 : decode bb_M_keep 69 = .ok (.iconst 3, 1) := by decide +kernel
theorem dd_M_keep_70 : decode bb_M_keep 70 = .ok (.aload_n 0, 1) := by decide +kernel
theorem dd_M_keep_71 : decode bb_M_keep 71 = .ok (.getfield 218, 3) := by decide +kernel
theorem dd_M_keep_74 : decode bb_M_keep 74 = .ok (.imul, 1) := by decide +kernel
theorem dd_M_keep_75 : decode bb_M_keep 75 = .ok (.iload_n 2, 1) := by decide +kernel
theorem dd_M_keep_76 : decode bb_M_keep 76 = .ok (.iadd, 1) := by decide +kernel
theorem dd_M_keep_77 : decode bb_M_keep 77 = .ok (.aload_n 0, 1) := by decide +kernel
theorem dd_M_keep_78 : decode bb_M_keep 78 = .ok (.getfield 100, 3) := by decide +kernel
theorem dd_M_keep_81 : decode bb_M_keep 81 = .ok (.iload_n 2, 1) := by decide +kernel
theorem dd_M_keep_82 : decode bb_M_keep 82 = .ok (.laload, 1) := by decide +kernel
theorem dd_M_keep_83 : decode bb_M_keep 83 = .ok (.l2i, 1) := by decide +kernel
theorem dd_M_keep_84 : decode bb_M_keep 84 = .ok (.iastore, 1) := by decide +kernel
theorem dd_M_keep_85 : decode bb_M_keep 85 = .ok (.aload_n 0, 1) := by decide +kernel
theorem dd_M_keep_86 : decode bb_M_keep 86 = .ok (.getfield 82, 3) := by decide +kernel
theorem dd_M_keep_89 : decode bb_M_keep 89 = .ok (.iconst 3, 1) := by decide +kernel
theorem dd_M_keep_90 : decode bb_M_keep 90 = .ok (.aload_n 0, 1) := by decide +kernel
theorem dd_M_keep_91 : decode bb_M_keep 91 = .ok (.getfield 218, 3) := by decide +kernel
theorem dd_M_keep_94 : decode bb_M_keep 94 = .ok (.imul, 1) := by decide +kernel
theorem dd_M_keep_95 : decode bb_M_keep 95 = .ok (.iload_n 2, 1) := by decide +kernel
theorem dd_M_keep_96 : decode bb_M_keep 96 = .ok (.iadd, 1) := by decide +kernel
theorem dd_M_keep_97 : decode bb_M_keep 97 = .ok (.aload_n 0, 1) := by decide +kernel
theorem dd_M_keep_98 : decode bb_M_keep 98 = .ok (.getfield 103, 3) := by decide +kernel
theorem dd_M_keep_101 : decode bb_M_keep 101 = .ok (.iload_n 2, 1) := by decide +kernel
theorem dd_M_keep_102 : decode bb_M_keep 102 = .ok (.laload, 1) := by decide +kernel
theorem dd_M_keep_103 : decode bb_M_keep 103 = .ok (.l2i, 1) := by decide +kernel
theorem dd_M_keep_104 : decode bb_M_keep 104 = .ok (.iastore, 1) := by decide +kernel
theorem dd_M_keep_105 : decode bb_M_keep 105 = .ok (.iinc 2 1, 3) := by decide +kernel
theorem dd_M_keep_108 : decode bb_M_keep 108 = .ok (.goto (-91), 3) := by decide +kernel
theorem dd_M_keep_111 : decode bb_M_keep 111 = .ok (.aload_n 0, 1) := by decide +kernel
theorem dd_M_keep_112 : decode bb_M_keep 112 = .ok (.getfield 85, 3) := by decide +kernel
theorem dd_M_keep_115 : decode bb_M_keep 115 = .ok (.aload_n 0, 1) := by decide +kernel
theorem dd_M_keep_116 : decode bb_M_keep 116 = .ok (.getfield 218, 3) := by decide +kernel
theorem dd_M_keep_119 : decode bb_M_keep 119 = .ok (.aload_n 0, 1) := by decide +kernel
theorem dd_M_keep_120 : decode bb_M_keep 120 = .ok (.getfield 206, 3) := by decide +kernel
theorem dd_M_keep_123 : decode bb_M_keep 123 = .ok (.iastore, 1) := by decide +kernel
theorem dd_M_keep_124 : decode bb_M_keep 124 = .ok (.aload_n 0, 1) := by decide +kernel
theorem dd_M_keep_125 : decode bb_M_keep 125 = .ok (.getfield 88, 3) := by decide +kernel
theorem dd_M_keep_128 : decode bb_M_keep 128 = .ok (.aload_n 0, 1) := by decide +kernel
theorem dd_M_keep_129 : decode bb_M_keep 129 = .ok (.getfield 218, 3) := by decide +kernel
theorem dd_M_keep_132 : decode bb_M_keep 132 = .ok (.iload_n 1, 1) := by decide +kernel
theorem dd_M_keep_133 : decode bb_M_keep 133 = .ok (.iastore, 1) := by decide +kernel
theorem dd_M_keep_134 : decode bb_M_keep 134 = .ok (.iload_n 1, 1) := by decide +kernel
theorem dd_M_keep_135 : decode bb_M_keep 135 = .ok (.ifCond .eq 30, 3) := by decide +kernel
theorem dd_M_keep_138 : decode bb_M_keep 138 = .ok (.aload_n 0, 1) := by decide +kernel
theorem dd_M_keep_139 : decode bb_M_keep 139 = .ok (.getfield 224, 3) := by decide +kernel
theorem dd_M_keep_142 : decode bb_M_keep 142 = .ok (.iload_n 1, 1) := by decide +kernel
theorem dd_M_keep_143 : decode bb_M_keep 143 = .ok (.ineg, 1) := by decide +kernel
theorem dd_M_keep_144 : decode bb_M_keep 144 = .ok (.if_icmp .ne 8, 3) := by decide +kernel
theorem dd_M_keep_147 : decode bb_M_keep 147 = .ok (.aload_n 0, 1) := by decide +kernel
theorem dd_M_keep_148 : decode bb_M_keep 148 = .ok (.iload_n 1, 1) := by decide +kernel
theorem dd_M_keep_149 : decode bb_M_keep 149 = .ok (.invokevirtual 241, 3) := by decide +kernel
theorem dd_M_keep_152 : decode bb_M_keep 152 = .ok (.aload_n 0, 1) := by decide +kernel
theorem dd_M_keep_153 : decode bb_M_keep 153 = .ok (.iload_n 1, 1) := by decide +kernel
theorem dd_M_keep_154 : decode bb_M_keep 154 = .ok (.putfield 224, 3) := by decide +kernel
theorem dd_M_keep_157 : decode bb_M_keep 157 = .ok (.aload_n 0, 1) := by decide +kernel
theorem dd_M_keep_158 : decode bb_M_keep 158 = .ok (.aload_n 0, 1) := by decide +kernel
theorem dd_M_keep_159 : decode bb_M_keep 159 = .ok (.getfield 218, 3) := by decide +kernel
theorem dd_M_keep_162 : decode bb_M_keep 162 = .ok (.putfield 244, 3) := by decide +kernel
theorem dd_M_keep_165 : decode bb_M_keep 165 = .ok (.aload_n 0, 1) := by decide +kernel
theorem dd_M_keep_166 : decode bb_M_keep 166 = .ok (.dup, 1) := by decide +kernel
theorem dd_M_keep_167 : decode bb_M_keep 167 = .ok (.getfield 218, 3) := by decide +kernel
theorem dd_M_keep_170 : decode bb_M_keep 170 = .ok (.iconst 1, 1) := by decide +kernel
theorem dd_M_keep_171 : decode bb_M_keep 171 = .ok (.iadd, 1) := by decide +kernel
theorem dd_M_keep_172 : decode bb_M_keep 172 = .ok (.putfield 218, 3) := by decide +kernel
theorem dd_M_keep_175 : decode bb_M_keep 175 = .ok (.return_, 1) := by decide +kernel
theorem dd_M_signOf_0 : decode bb_M_signOf 0 = .ok (.aload_n 0, 1) := by decide +kernel
theorem dd_M_signOf_1 : decode bb_M_signOf 1 = .ok (.getfield 200, 3) := by decide +kernel
theorem dd_M_signOf_4 : decode bb_M_signOf 4 = .ok (.ifCond .ne 5, 3) := by decide +kernel
theorem dd_M_signOf_7 : decode bb_M_signOf 7 = .ok (.iconst 0, 1) := by decide +kernel
theorem dd_M_signOf_8 : decode bb_M_signOf 8 = .ok (.ireturn, 1) := by decide +kernel
theorem dd_M_signOf_9 : decode bb_M_signOf 9 = .ok (.aload_n 0, 1) := by decide +kernel
theorem dd_M_signOf_10 : decode bb_M_signOf 10 = .ok (.iconst 0, 1) := by decide +kernel
theorem dd_M_signOf_11 : decode bb_M_signOf 11 = .ok (.putfield 136, 3) := by decide +kernel
theorem dd_M_signOf_14 : decode bb_M_signOf 14 = .ok (.iconst 0, 1) := by decide +kernel
theorem dd_M_signOf_15 : decode bb_M_signOf 15 = .ok (.istore_n 1, 1) := by decide +kernel
theorem dd_M_signOf_16 : decode bb_M_signOf 16 = .ok (.iload_n 1, 1) := by decide +kernel
theorem dd_M_signOf_17 : decode bb_M_signOf 17 = .ok (.aload_n 0, 1) := by decide +kernel
theorem dd_M_signOf_18 : decode bb_M_signOf 18 = .ok (.getfield 197, 3) := by decide +kernel
theorem dd_M_signOf_21 : decode bb_M_signOf 21 = .ok (.if_icmp .ge 33, 3) := by decide +kernel
theorem dd_M_signOf_24 : decode bb_M_signOf 24 = .ok (.aload_n 0, 1) := by decide +kernel
theorem dd_M_signOf_25 : decode bb_M_signOf 25 = .ok (.getfield 94, 3) := by decide +kernel
theorem dd_M_signOf_28 : decode bb_M_signOf 28 = .ok (.iload_n 1, 1) := by decide +kernel
theorem dd_M_signOf_29 : decode bb_M_signOf 29 = .ok (.aload_n 0, 1) := by decide +kernel
theorem dd_M_signOf_30 : decode bb_M_signOf 30 = .ok (.getfield 64, 3) := by decide +kernel
theorem dd_M_signOf_33 : decode bb_M_signOf 33 = .ok (.iload_n 1, 1) := by decide +kernel
theorem dd_M_signOf_34 : decode bb_M_signOf 34 = .ok (.laload, 1) := by decide +kernel
theorem dd_M_signOf_35 : decode bb_M_signOf 35 = .ok (.lastore, 1) := by decide +kernel
theorem dd_M_signOf_36 : decode bb_M_signOf 36 = .ok (.aload_n 0, 1) := by decide +kernel
theorem dd_M_signOf_37 : decode bb_M_signOf 37 = .ok (.getfield 97, 3) := by decide +kernel
theorem dd_M_signOf_40 : decode bb_M_signOf 40 = .ok (.iload_n 1, 1) := by decide +kernel
theorem dd_M_signOf_41 : decode bb_M_signOf 41 = .ok (.aload_n 0, 1) := by decide +kernel
theorem dd_M_signOf_42 : decode bb_M_signOf 42 = .ok (.getfield 67, 3) := by decide +kernel
theorem dd_M_signOf_45 : decode bb_M_signOf 45 = .ok (.iload_n 1, 1) := by decide +kernel
theorem dd_M_signOf_46 : decode bb_M_signOf 46 = .ok (.laload, 1) := by decide +kernel
theorem dd_M_signOf_47 : decode bb_M_signOf 47 = .ok (.lastore, 1) := by decide +kernel
theorem dd_M_signOf_48 : decode bb_M_signOf 48 = .ok (.iinc 1 1, 3) := by decide +kernel
theorem dd_M_signOf_51 : decode bb_M_signOf 51 = .ok (.goto (-35), 3) := by decide +kernel
theorem dd_M_signOf_54 : decode bb_M_signOf 54 = .ok (.aload_n 0, 1) := by decide +kernel
theorem dd_M_signOf_55 : decode bb_M_signOf 55 = .ok (.iconst 3, 1) := by decide +kernel
theorem dd_M_signOf_56 : decode bb_M_signOf 56 = .ok (.invokevirtual 235, 3) := by decide +kernel
theorem dd_M_signOf_59 : decode bb_M_signOf 59 = .ok (.aload_n 0, 1) := by decide +kernel
theorem dd_M_signOf_60 : decode bb_M_signOf 60 = .ok (.getfield 136, 3) := by decide +kernel
theorem dd_M_signOf_63 : decode bb_M_signOf 63 = .ok (.ifCond .eq 7, 3) := by decide +kernel
theorem dd_M_signOf_66 : decode bb_M_signOf 66 = .ok (.iconst 0, 1) := by decide +kernel
theorem dd_M_signOf_67 : decode bb_M_signOf 67 = .ok (.goto 30, 3) := by decide +kernel
theorem dd_M_signOf_70 : decode bb_M_signOf 70 = .ok (.aload_n 0, 1) := by decide +kernel
theorem dd_M_signOf_71 : decode bb_M_signOf 71 = .ok (.getfield 129, 3) := by decide +kernel
theorem dd_M_signOf_74 : decode bb_M_signOf 74 = .ok (.lconst 0, 1) := by decide +kernel
theorem dd_M_signOf_75 : decode bb_M_signOf 75 = .ok (.lcmp, 1) := by decide +kernel
theorem dd_M_signOf_76 : decode bb_M_signOf 76 = .ok (.ifCond .le 7, 3) := by decide +kernel
theorem dd_M_signOf_79 : decode bb_M_signOf 79 = .ok (.iconst 1, 1) := by decide +kernel
theorem dd_M_signOf_80 : decode bb_M_signOf 80 = .ok (.goto 17, 3) := by decide +kernel
theorem dd_M_signOf_83 : decode bb_M_signOf 83 = .ok (.aload_n 0, 1) := by decide +kernel
theorem dd_M_signOf_84 : decode bb_M_signOf 84 = .ok (.getfield 133, 3) := by decide +kernel
theorem dd_M_signOf_87 : decode bb_M_signOf 87 = .ok (.lconst 0, 1) := by decide +kernel
theorem dd_M_signOf_88 : decode bb_M_signOf 88 = .ok (.lcmp, 1) := by decide +kernel
theorem dd_M_signOf_89 : decode bb_M_signOf 89 = .ok (.ifCond .ge 7, 3) := by decide +kernel
theorem dd_M_signOf_92 : decode bb_M_signOf 92 = .ok (.iconst (-1), 1) := by decide +kernel
theorem dd_M_signOf_93 : decode bb_M_signOf 93 = .ok (.goto 4, 3) := by decide +kernel
theorem dd_M_signOf_96 : decode bb_M_signOf 96 = .ok (.iconst 0, 1) := by decide +kernel
theorem dd_M_signOf_97 : decode bb_M_signOf 97 = .ok (.ireturn, 1) := by decide +kernel
theorem dd_M_value_0 : decode bb_M_value 0 = .ok (.lconst 0, 1) := by decide +kernel
theorem dd_M_value_1 : decode bb_M_value 1 = .ok (.lstore_n 2, 1) := by decide +kernel
theorem dd_M_value_2 : decode bb_M_value 2 = .ok (.lconst 0, 1) := by decide +kernel
theorem dd_M_value_3 : decode bb_M_value 3 = .ok (.lstore 4, 2) := by decide +kernel
theorem dd_M_value_5 : decode bb_M_value 5 = .ok (.iconst 0, 1) := by decide +kernel
theorem dd_M_value_6 : decode bb_M_value 6 = .ok (.istore 6, 2) := by decide +kernel
theorem dd_M_value_8 : decode bb_M_value 8 = .ok (.iload 6, 2) := by decide +kernel
theorem dd_M_value_10 : decode bb_M_value 10 = .ok (.aload_n 0, 1) := by decide +kernel
theorem dd_M_value_11 : decode bb_M_value 11 = .ok (.getfield 23, 3) := by decide +kernel
theorem dd_M_value_14 : decode bb_M_value 14 = .ok (.iload_n 1, 1) := by decide +kernel
theorem dd_M_value_15 : decode bb_M_value 15 = .ok (.iaload, 1) := by decide +kernel
theorem dd_M_value_16 : decode bb_M_value 16 = .ok (.if_icmp .ge 131, 3) := by decide +kernel
theorem dd_M_value_19 : decode bb_M_value 19 = .ok (.bipush 12, 2) := by decide +kernel
theorem dd_M_value_21 : decode bb_M_value 21 = .ok (.iload_n 1, 1) := by decide +kernel
theorem dd_M_value_22 : decode bb_M_value 22 = .ok (.imul, 1) := by decide +kernel
theorem dd_M_value_23 : decode bb_M_value 23 = .ok (.iload 6, 2) := by decide +kernel
theorem dd_M_value_25 : decode bb_M_value 25 = .ok (.iadd, 1) := by decide +kernel
theorem dd_M_value_26 : decode bb_M_value 26 = .ok (.istore 7, 2) := by decide +kernel
theorem dd_M_value_28 : decode bb_M_value 28 = .ok (.aload_n 0, 1) := by decide +kernel
theorem dd_M_value_29 : decode bb_M_value 29 = .ok (.aload_n 0, 1) := by decide +kernel
theorem dd_M_value_30 : decode bb_M_value 30 = .ok (.getfield 26, 3) := by decide +kernel
theorem dd_M_value_33 : decode bb_M_value 33 = .ok (.iload 7, 2) := by decide +kernel
theorem dd_M_value_35 : decode bb_M_value 35 = .ok (.laload, 1) := by decide +kernel
theorem dd_M_value_36 : decode bb_M_value 36 = .ok (.aload_n 0, 1) := by decide +kernel
theorem dd_M_value_37 : decode bb_M_value 37 = .ok (.getfield 30, 3) := by decide +kernel
theorem dd_M_value_40 : decode bb_M_value 40 = .ok (.iload 7, 2) := by decide +kernel
theorem dd_M_value_42 : decode bb_M_value 42 = .ok (.laload, 1) := by decide +kernel
theorem dd_M_value_43 : decode bb_M_value 43 = .ok (.invokevirtual 140, 3) := by decide +kernel
theorem dd_M_value_46 : decode bb_M_value 46 = .ok (.iconst 0, 1) := by decide +kernel
theorem dd_M_value_47 : decode bb_M_value 47 = .ok (.istore 8, 2) := by decide +kernel
theorem dd_M_value_49 : decode bb_M_value 49 = .ok (.iload 8, 2) := by decide +kernel
theorem dd_M_value_51 : decode bb_M_value 51 = .ok (.iconst 3, 1) := by decide +kernel
theorem dd_M_value_52 : decode bb_M_value 52 = .ok (.if_icmp .ge 61, 3) := by decide +kernel
theorem dd_M_value_55 : decode bb_M_value 55 = .ok (.iconst 0, 1) := by decide +kernel
theorem dd_M_value_56 : decode bb_M_value 56 = .ok (.istore 9, 2) := by decide +kernel
theorem dd_M_value_58 : decode bb_M_value 58 = .ok (.iload 9, 2) := by decide +kernel
theorem dd_M_value_60 : decode bb_M_value 60 = .ok (.aload_n 0, 1) := by decide +kernel
theorem dd_M_value_61 : decode bb_M_value 61 = .ok (.getfield 33, 3) := by decide +kernel
theorem dd_M_value_64 : decode bb_M_value 64 = .ok (.iconst 3, 1) := by decide +kernel
theorem dd_M_value_65 : decode bb_M_value 65 = .ok (.iload 7, 2) := by decide +kernel
theorem dd_M_value_67 : decode bb_M_value 67 = .ok (.imul, 1) := by decide +kernel
theorem dd_M_value_68 : decode bb_M_value 68 = .ok (.iload 8, 2) := by decide +kernel
theorem dd_M_value_70 : decode bb_M_value 70 = .ok (.iadd, 1) := by decide +kernel
theorem dd_M_value_71 : decode bb_M_value 71 = .ok (.iaload, 1) := by decide +kernel
theorem dd_M_value_72 : decode bb_M_value 72 = .ok (.if_icmp .ge 35, 3) := by decide +kernel
theorem dd_M_value_75 : decode bb_M_value 75 = .ok (.aload_n 0, 1) := by decide +kernel
theorem dd_M_value_76 : decode bb_M_value 76 = .ok (.aload_n 0, 1) := by decide +kernel
theorem dd_M_value_77 : decode bb_M_value 77 = .ok (.getfield 129, 3) := by decide +kernel
theorem dd_M_value_80 : decode bb_M_value 80 = .ok (.aload_n 0, 1) := by decide +kernel
theorem dd_M_value_81 : decode bb_M_value 81 = .ok (.getfield 133, 3) := by decide +kernel
theorem dd_M_value_84 : decode bb_M_value 84 = .ok (.aload_n 0, 1) := by decide +kernel
theorem dd_M_value_85 : decode bb_M_value 85 = .ok (.getfield 94, 3) := by decide +kernel
theorem dd_M_value_88 : decode bb_M_value 88 = .ok (.iload 8, 2) := by decide +kernel
theorem dd_M_value_90 : decode bb_M_value 90 = .ok (.laload, 1) := by decide +kernel
theorem dd_M_value_91 : decode bb_M_value 91 = .ok (.aload_n 0, 1) := by decide +kernel
theorem dd_M_value_92 : decode bb_M_value 92 = .ok (.getfield 97, 3) := by decide +kernel
theorem dd_M_value_95 : decode bb_M_value 95 = .ok (.iload 8, 2) := by decide +kernel
theorem dd_M_value_97 : decode bb_M_value 97 = .ok (.laload, 1) := by decide +kernel
theorem dd_M_value_98 : decode bb_M_value 98 = .ok (.invokevirtual 231, 3) := by decide +kernel
theorem dd_M_value_101 : decode bb_M_value 101 = .ok (.iinc 9 1, 3) := by decide +kernel
theorem dd_M_value_104 : decode bb_M_value 104 = .ok (.goto (-46), 3) := by decide +kernel
theorem dd_M_value_107 : decode bb_M_value 107 = .ok (.iinc 8 1, 3) := by decide +kernel
theorem dd_M_value_110 : decode bb_M_value 110 = .ok (.goto (-61), 3) := by decide +kernel
theorem dd_M_value_113 : decode bb_M_value 113 = .ok (.aload_n 0, 1) := by decide +kernel
theorem dd_M_value_114 : decode bb_M_value 114 = .ok (.lload_n 2, 1) := by decide +kernel
theorem dd_M_value_115 : decode bb_M_value 115 = .ok (.aload_n 0, 1) := by decide +kernel
theorem dd_M_value_116 : decode bb_M_value 116 = .ok (.getfield 129, 3) := by decide +kernel
theorem dd_M_value_119 : decode bb_M_value 119 = .ok (.ladd, 1) := by decide +kernel
theorem dd_M_value_120 : decode bb_M_value 120 = .ok (.lload 4, 2) := by decide +kernel
theorem dd_M_value_122 : decode bb_M_value 122 = .ok (.aload_n 0, 1) := by decide +kernel
theorem dd_M_value_123 : decode bb_M_value 123 = .ok (.getfield 133, 3) := by decide +kernel
theorem dd_M_value_126 : decode bb_M_value 126 = .ok (.ladd, 1) := by decide +kernel
theorem dd_M_value_127 : decode bb_M_value 127 = .ok (.invokevirtual 140, 3) := by decide +kernel
theorem dd_M_value_130 : decode bb_M_value 130 = .ok (.aload_n 0, 1) := by decide +kernel
theorem dd_M_value_131 : decode bb_M_value 131 = .ok (.getfield 129, 3) := by decide +kernel
theorem dd_M_value_134 : decode bb_M_value 134 = .ok (.lstore_n 2, 1) := by decide +kernel
theorem dd_M_value_135 : decode bb_M_value 135 = .ok (.aload_n 0, 1) := by decide +kernel
theorem dd_M_value_136 : decode bb_M_value 136 = .ok (.getfield 133, 3) := by decide +kernel
theorem dd_M_value_139 : decode bb_M_value 139 = .ok (.lstore 4, 2) := by decide +kernel
theorem dd_M_value_141 : decode bb_M_value 141 = .ok (.iinc 6 1, 3) := by decide +kernel
theorem dd_M_value_144 : decode bb_M_value 144 = .ok (.goto (-136), 3) := by decide +kernel
theorem dd_M_value_147 : decode bb_M_value 147 = .ok (.return_, 1) := by decide +kernel
theorem dd_M_make_0 : decode bb_M_make 0 = .ok (.aload_n 0, 1) := by decide +kernel
theorem dd_M_make_1 : decode bb_M_make 1 = .ok (.lload_n 1, 1) := by decide +kernel
theorem dd_M_make_2 : decode bb_M_make 2 = .ok (.invokestatic 125, 3) := by decide +kernel
theorem dd_M_make_5 : decode bb_M_make 5 = .ok (.putfield 129, 3) := by decide +kernel
theorem dd_M_make_8 : decode bb_M_make 8 = .ok (.aload_n 0, 1) := by decide +kernel
theorem dd_M_make_9 : decode bb_M_make 9 = .ok (.lload_n 3, 1) := by decide +kernel
theorem dd_M_make_10 : decode bb_M_make 10 = .ok (.invokestatic 125, 3) := by decide +kernel
theorem dd_M_make_13 : decode bb_M_make 13 = .ok (.putfield 133, 3) := by decide +kernel
theorem dd_M_make_16 : decode bb_M_make 16 = .ok (.aload_n 0, 1) := by decide +kernel
theorem dd_M_make_17 : decode bb_M_make 17 = .ok (.aload_n 0, 1) := by decide +kernel
theorem dd_M_make_18 : decode bb_M_make 18 = .ok (.getfield 136, 3) := by decide +kernel
theorem dd_M_make_21 : decode bb_M_make 21 = .ok (.ifCond .ne 21, 3) := by decide +kernel
theorem dd_M_make_24 : decode bb_M_make 24 = .ok (.aload_n 0, 1) := by decide +kernel
theorem dd_M_make_25 : decode bb_M_make 25 = .ok (.getfield 129, 3) := by decide +kernel
theorem dd_M_make_28 : decode bb_M_make 28 = .ok (.lload_n 1, 1) := by decide +kernel
theorem dd_M_make_29 : decode bb_M_make 29 = .ok (.lcmp, 1) := by decide +kernel
theorem dd_M_make_30 : decode bb_M_make 30 = .ok (.ifCond .ne 12, 3) := by decide +kernel
theorem dd_M_make_33 : decode bb_M_make 33 = .ok (.aload_n 0, 1) := by decide +kernel
theorem dd_M_make_34 : decode bb_M_make 34 = .ok (.getfield 133, 3) := by decide +kernel
theorem dd_M_make_37 : decode bb_M_make 37 = .ok (.lload_n 3, 1) := by decide +kernel
theorem dd_M_make_38 : decode bb_M_make 38 = .ok (.lcmp, 1) := by decide +kernel
theorem dd_M_make_39 : decode bb_M_make 39 = .ok (.ifCond .eq 7, 3) := by decide +kernel
theorem dd_M_make_42 : decode bb_M_make 42 = .ok (.iconst 1, 1) := by decide +kernel
theorem dd_M_make_43 : decode bb_M_make 43 = .ok (.goto 4, 3) := by decide +kernel
theorem dd_M_make_46 : decode bb_M_make 46 = .ok (.iconst 0, 1) := by decide +kernel
theorem dd_M_make_47 : decode bb_M_make 47 = .ok (.putfield 136, 3) := by decide +kernel
theorem dd_M_make_50 : decode bb_M_make 50 = .ok (.return_, 1) := by decide +kernel
theorem dd_M_clip_0 : decode bb_M_clip 0 = .ok (.lload_n 0, 1) := by decide +kernel
theorem dd_M_clip_1 : decode bb_M_clip 1 = .ok (.ldc2_w 121, 3) := by decide +kernel
theorem dd_M_clip_4 : decode bb_M_clip 4 = .ok (.lcmp, 1) := by decide +kernel
theorem dd_M_clip_5 : decode bb_M_clip 5 = .ok (.ifCond .le 9, 3) := by decide +kernel
theorem dd_M_clip_8 : decode bb_M_clip 8 = .ok (.ldc2_w 121, 3) := by decide +kernel
theorem dd_M_clip_11 : decode bb_M_clip 11 = .ok (.goto 18, 3) := by decide +kernel
theorem dd_M_clip_14 : decode bb_M_clip 14 = .ok (.lload_n 0, 1) := by decide +kernel
theorem dd_M_clip_15 : decode bb_M_clip 15 = .ok (.ldc2_w 123, 3) := by decide +kernel
theorem dd_M_clip_18 : decode bb_M_clip 18 = .ok (.lcmp, 1) := by decide +kernel
theorem dd_M_clip_19 : decode bb_M_clip 19 = .ok (.ifCond .ge 9, 3) := by decide +kernel
theorem dd_M_clip_22 : decode bb_M_clip 22 = .ok (.ldc2_w 123, 3) := by decide +kernel
theorem dd_M_clip_25 : decode bb_M_clip 25 = .ok (.goto 4, 3) := by decide +kernel
theorem dd_M_clip_28 : decode bb_M_clip 28 = .ok (.lload_n 0, 1) := by decide +kernel
theorem dd_M_clip_29 : decode bb_M_clip 29 = .ok (.lreturn, 1) := by decide +kernel
theorem dd_M_times_0 : decode bb_M_times 0 = .ok (.lload_n 1, 1) := by decide +kernel
theorem dd_M_times_1 : decode bb_M_times 1 = .ok (.lload 5, 2) := by decide +kernel
theorem dd_M_times_3 : decode bb_M_times 3 = .ok (.lmul, 1) := by decide +kernel
theorem dd_M_times_4 : decode bb_M_times 4 = .ok (.lstore 9, 2) := by decide +kernel
theorem dd_M_times_6 : decode bb_M_times 6 = .ok (.lload_n 1, 1) := by decide +kernel
theorem dd_M_times_7 : decode bb_M_times 7 = .ok (.lload 7, 2) := by decide +kernel
theorem dd_M_times_9 : decode bb_M_times 9 = .ok (.lmul, 1) := by decide +kernel
theorem dd_M_times_10 : decode bb_M_times 10 = .ok (.lstore 11, 2) := by decide +kernel
theorem dd_M_times_12 : decode bb_M_times 12 = .ok (.lload_n 3, 1) := by decide +kernel
theorem dd_M_times_13 : decode bb_M_times 13 = .ok (.lload 5, 2) := by decide +kernel
theorem dd_M_times_15 : decode bb_M_times 15 = .ok (.lmul, 1) := by decide +kernel
theorem dd_M_times_16 : decode bb_M_times 16 = .ok (.lstore 13, 2) := by decide +kernel
theorem dd_M_times_18 : decode bb_M_times 18 = .ok (.lload_n 3, 1) := by decide +kernel
theorem dd_M_times_19 : decode bb_M_times 19 = .ok (.lload 7, 2) := by decide +kernel
theorem dd_M_times_21 : decode bb_M_times 21 = .ok (.lmul, 1) := by decide +kernel
theorem dd_M_times_22 : decode bb_M_times 22 = .ok (.lstore 15, 2) := by decide +kernel
theorem dd_M_times_24 : decode bb_M_times 24 = .ok (.lload 9, 2) := by decide +kernel
theorem dd_M_times_26 : decode bb_M_times 26 = .ok (.lload 11, 2) := by decide +kernel
theorem dd_M_times_28 : decode bb_M_times 28 = .ok (.lcmp, 1) := by decide +kernel
theorem dd_M_times_29 : decode bb_M_times 29 = .ok (.ifCond .ge 8, 3) := by decide +kernel
theorem dd_M_times_32 : decode bb_M_times 32 = .ok (.lload 9, 2) := by decide +kernel
theorem dd_M_times_34 : decode bb_M_times 34 = .ok (.goto 5, 3) := by decide +kernel
theorem dd_M_times_37 : decode bb_M_times 37 = .ok (.lload 11, 2) := by decide +kernel
theorem dd_M_times_39 : decode bb_M_times 39 = .ok (.lstore 17, 2) := by decide +kernel
theorem dd_M_times_41 : decode bb_M_times 41 = .ok (.lload 13, 2) := by decide +kernel
theorem dd_M_times_43 : decode bb_M_times 43 = .ok (.lload 17, 2) := by decide +kernel
theorem dd_M_times_45 : decode bb_M_times 45 = .ok (.lcmp, 1) := by decide +kernel
theorem dd_M_times_46 : decode bb_M_times 46 = .ok (.ifCond .ge 8, 3) := by decide +kernel
theorem dd_M_times_49 : decode bb_M_times 49 = .ok (.lload 13, 2) := by decide +kernel
theorem dd_M_times_51 : decode bb_M_times 51 = .ok (.goto 5, 3) := by decide +kernel
theorem dd_M_times_54 : decode bb_M_times 54 = .ok (.lload 17, 2) := by decide +kernel
theorem dd_M_times_56 : decode bb_M_times 56 = .ok (.lstore 17, 2) := by decide +kernel
theorem dd_M_times_58 : decode bb_M_times 58 = .ok (.lload 15, 2) := by decide +kernel
theorem dd_M_times_60 : decode bb_M_times 60 = .ok (.lload 17, 2) := by decide +kernel
theorem dd_M_times_62 : decode bb_M_times 62 = .ok (.lcmp, 1) := by decide +kernel
theorem dd_M_times_63 : decode bb_M_times 63 = .ok (.ifCond .ge 8, 3) := by decide +kernel
theorem dd_M_times_66 : decode bb_M_times 66 = .ok (.lload 15, 2) := by decide +kernel
theorem dd_M_times_68 : decode bb_M_times 68 = .ok (.goto 5, 3) := by decide +kernel
theorem dd_M_times_71 : decode bb_M_times 71 = .ok (.lload 17, 2) := by decide +kernel
theorem dd_M_times_73 : decode bb_M_times 73 = .ok (.lstore 17, 2) := by decide +kernel
theorem dd_M_times_75 : decode bb_M_times 75 = .ok (.lload 9, 2) := by decide +kernel
theorem dd_M_times_77 : decode bb_M_times 77 = .ok (.lload 11, 2) := by decide +kernel
theorem dd_M_times_79 : decode bb_M_times 79 = .ok (.lcmp, 1) := by decide +kernel
theorem dd_M_times_80 : decode bb_M_times 80 = .ok (.ifCond .le 8, 3) := by decide +kernel
theorem dd_M_times_83 : decode bb_M_times 83 = .ok (.lload 9, 2) := by decide +kernel
theorem dd_M_times_85 : decode bb_M_times 85 = .ok (.goto 5, 3) := by decide +kernel
theorem dd_M_times_88 : decode bb_M_times 88 = .ok (.lload 11, 2) := by decide +kernel
theorem dd_M_times_90 : decode bb_M_times 90 = .ok (.lstore 19, 2) := by decide +kernel
theorem dd_M_times_92 : decode bb_M_times 92 = .ok (.lload 13, 2) := by decide +kernel
theorem dd_M_times_94 : decode bb_M_times 94 = .ok (.lload 19, 2) := by decide +kernel
theorem dd_M_times_96 : decode bb_M_times 96 = .ok (.lcmp, 1) := by decide +kernel
theorem dd_M_times_97 : decode bb_M_times 97 = .ok (.ifCond .le 8, 3) := by decide +kernel
theorem dd_M_times_100 : decode bb_M_times 100 = .ok (.lload 13, 2) := by decide +kernel
theorem dd_M_times_102 : decode bb_M_times 102 = .ok (.goto 5, 3) := by decide +kernel
theorem dd_M_times_105 : decode bb_M_times 105 = .ok (.lload 19, 2) := by decide +kernel
theorem dd_M_times_107 : decode bb_M_times 107 = .ok (.lstore 19, 2) := by decide +kernel
theorem dd_M_times_109 : decode bb_M_times 109 = .ok (.lload 15, 2) := by decide +kernel
theorem dd_M_times_111 : decode bb_M_times 111 = .ok (.lload 19, 2) := by decide +kernel
theorem dd_M_times_113 : decode bb_M_times 113 = .ok (.lcmp, 1) := by decide +kernel
theorem dd_M_times_114 : decode bb_M_times 114 = .ok (.ifCond .le 8, 3) := by decide +kernel
theorem dd_M_times_117 : decode bb_M_times 117 = .ok (.lload 15, 2) := by decide +kernel
theorem dd_M_times_119 : decode bb_M_times 119 = .ok (.goto 5, 3) := by decide +kernel
theorem dd_M_times_122 : decode bb_M_times 122 = .ok (.lload 19, 2) := by decide +kernel
theorem dd_M_times_124 : decode bb_M_times 124 = .ok (.lstore 19, 2) := by decide +kernel
theorem dd_M_times_126 : decode bb_M_times 126 = .ok (.aload_n 0, 1) := by decide +kernel
theorem dd_M_times_127 : decode bb_M_times 127 = .ok (.lload 17, 2) := by decide +kernel
theorem dd_M_times_129 : decode bb_M_times 129 = .ok (.bipush 20, 2) := by decide +kernel
theorem dd_M_times_131 : decode bb_M_times 131 = .ok (.lshr, 1) := by decide +kernel
theorem dd_M_times_132 : decode bb_M_times 132 = .ok (.lload 19, 2) := by decide +kernel
theorem dd_M_times_134 : decode bb_M_times 134 = .ok (.lneg, 1) := by decide +kernel
theorem dd_M_times_135 : decode bb_M_times 135 = .ok (.bipush 20, 2) := by decide +kernel
theorem dd_M_times_137 : decode bb_M_times 137 = .ok (.lshr, 1) := by decide +kernel
theorem dd_M_times_138 : decode bb_M_times 138 = .ok (.lneg, 1) := by decide +kernel
theorem dd_M_times_139 : decode bb_M_times 139 = .ok (.invokevirtual 140, 3) := by decide +kernel
theorem dd_M_times_142 : decode bb_M_times 142 = .ok (.return_, 1) := by decide +kernel
theorem dd_M_cross_0 : decode bb_M_cross 0 = .ok (.aload_n 0, 1) := by decide +kernel
theorem dd_M_cross_1 : decode bb_M_cross 1 = .ok (.getfield 221, 3) := by decide +kernel
theorem dd_M_cross_4 : decode bb_M_cross 4 = .ok (.bipush 100, 2) := by decide +kernel
theorem dd_M_cross_6 : decode bb_M_cross 6 = .ok (.if_icmp .ge 49, 3) := by decide +kernel
theorem dd_M_cross_9 : decode bb_M_cross 9 = .ok (.aload_n 0, 1) := by decide +kernel
theorem dd_M_cross_10 : decode bb_M_cross 10 = .ok (.getfield 91, 3) := by decide +kernel
theorem dd_M_cross_13 : decode bb_M_cross 13 = .ok (.iconst 3, 1) := by decide +kernel
theorem dd_M_cross_14 : decode bb_M_cross 14 = .ok (.aload_n 0, 1) := by decide +kernel
theorem dd_M_cross_15 : decode bb_M_cross 15 = .ok (.getfield 221, 3) := by decide +kernel
theorem dd_M_cross_18 : decode bb_M_cross 18 = .ok (.imul, 1) := by decide +kernel
theorem dd_M_cross_19 : decode bb_M_cross 19 = .ok (.aload_n 0, 1) := by decide +kernel
theorem dd_M_cross_20 : decode bb_M_cross 20 = .ok (.getfield 244, 3) := by decide +kernel
theorem dd_M_cross_23 : decode bb_M_cross 23 = .ok (.iastore, 1) := by decide +kernel
theorem dd_M_cross_24 : decode bb_M_cross 24 = .ok (.aload_n 0, 1) := by decide +kernel
theorem dd_M_cross_25 : decode bb_M_cross 25 = .ok (.getfield 91, 3) := by decide +kernel
theorem dd_M_cross_28 : decode bb_M_cross 28 = .ok (.iconst 3, 1) := by decide +kernel
theorem dd_M_cross_29 : decode bb_M_cross 29 = .ok (.aload_n 0, 1) := by decide +kernel
theorem dd_M_cross_30 : decode bb_M_cross 30 = .ok (.getfield 221, 3) := by decide +kernel
theorem dd_M_cross_33 : decode bb_M_cross 33 = .ok (.imul, 1) := by decide +kernel
theorem dd_M_cross_34 : decode bb_M_cross 34 = .ok (.iconst 1, 1) := by decide +kernel
theorem dd_M_cross_35 : decode bb_M_cross 35 = .ok (.iadd, 1) := by decide +kernel
theorem dd_M_cross_36 : decode bb_M_cross 36 = .ok (.aload_n 0, 1) := by decide +kernel
theorem dd_M_cross_37 : decode bb_M_cross 37 = .ok (.getfield 218, 3) := by decide +kernel
theorem dd_M_cross_40 : decode bb_M_cross 40 = .ok (.iastore, 1) := by decide +kernel
theorem dd_M_cross_41 : decode bb_M_cross 41 = .ok (.aload_n 0, 1) := by decide +kernel
theorem dd_M_cross_42 : decode bb_M_cross 42 = .ok (.getfield 91, 3) := by decide +kernel
theorem dd_M_cross_45 : decode bb_M_cross 45 = .ok (.iconst 3, 1) := by decide +kernel
theorem dd_M_cross_46 : decode bb_M_cross 46 = .ok (.aload_n 0, 1) := by decide +kernel
theorem dd_M_cross_47 : decode bb_M_cross 47 = .ok (.getfield 221, 3) := by decide +kernel
theorem dd_M_cross_50 : decode bb_M_cross 50 = .ok (.imul, 1) := by decide +kernel
theorem dd_M_cross_51 : decode bb_M_cross 51 = .ok (.iconst 2, 1) := by decide +kernel
theorem dd_M_cross_52 : decode bb_M_cross 52 = .ok (.iadd, 1) := by decide +kernel
theorem dd_M_cross_53 : decode bb_M_cross 53 = .ok (.iload_n 1, 1) := by decide +kernel
theorem dd_M_cross_54 : decode bb_M_cross 54 = .ok (.iastore, 1) := by decide +kernel
theorem dd_M_cross_55 : decode bb_M_cross 55 = .ok (.aload_n 0, 1) := by decide +kernel
theorem dd_M_cross_56 : decode bb_M_cross 56 = .ok (.dup, 1) := by decide +kernel
theorem dd_M_cross_57 : decode bb_M_cross 57 = .ok (.getfield 221, 3) := by decide +kernel
theorem dd_M_cross_60 : decode bb_M_cross 60 = .ok (.iconst 1, 1) := by decide +kernel
theorem dd_M_cross_61 : decode bb_M_cross 61 = .ok (.iadd, 1) := by decide +kernel
theorem dd_M_cross_62 : decode bb_M_cross 62 = .ok (.putfield 221, 3) := by decide +kernel
theorem dd_M_cross_65 : decode bb_M_cross 65 = .ok (.return_, 1) := by decide +kernel
theorem dd_M_fault_0 : decode bb_M_fault 0 = .ok (.aload_n 0, 1) := by decide +kernel
theorem dd_M_fault_1 : decode bb_M_fault 1 = .ok (.iconst 0, 1) := by decide +kernel
theorem dd_M_fault_2 : decode bb_M_fault 2 = .ok (.putfield 118, 3) := by decide +kernel
theorem dd_M_fault_5 : decode bb_M_fault 5 = .ok (.aload_n 0, 1) := by decide +kernel
theorem dd_M_fault_6 : decode bb_M_fault 6 = .ok (.getfield 20, 3) := by decide +kernel
theorem dd_M_fault_9 : decode bb_M_fault 9 = .ok (.ireturn, 1) := by decide +kernel
theorem dd_M_begin_0 : decode bb_M_begin 0 = .ok (.aload_n 0, 1) := by decide +kernel
theorem dd_M_begin_1 : decode bb_M_begin 1 = .ok (.iconst 0, 1) := by decide +kernel
theorem dd_M_begin_2 : decode bb_M_begin 2 = .ok (.putfield 118, 3) := by decide +kernel
theorem dd_M_begin_5 : decode bb_M_begin 5 = .ok (.iload_n 1, 1) := by decide +kernel
theorem dd_M_begin_6 : decode bb_M_begin 6 = .ok (.ifCond .lt 34, 3) := by decide +kernel
theorem dd_M_begin_9 : decode bb_M_begin 9 = .ok (.iload_n 1, 1) := by decide +kernel
theorem dd_M_begin_10 : decode bb_M_begin 10 = .ok (.aload_n 0, 1) := by decide +kernel
theorem dd_M_begin_11 : decode bb_M_begin 11 = .ok (.getfield 197, 3) := by decide +kernel
theorem dd_M_begin_14 : decode bb_M_begin 14 = .ok (.if_icmp .ge 26, 3) := by decide +kernel
theorem dd_M_begin_17 : decode bb_M_begin 17 = .ok (.iload_n 2, 1) := by decide +kernel
theorem dd_M_begin_18 : decode bb_M_begin 18 = .ok (.iload_n 3, 1) := by decide +kernel
theorem dd_M_begin_19 : decode bb_M_begin 19 = .ok (.if_icmp .gt 21, 3) := by decide +kernel
theorem dd_M_begin_22 : decode bb_M_begin 22 = .ok (.iload_n 2, 1) := by decide +kernel
theorem dd_M_begin_23 : decode bb_M_begin 23 = .ok (.i2l, 1) := by decide +kernel
theorem dd_M_begin_24 : decode bb_M_begin 24 = .ok (.ldc2_w 123, 3) := by decide +kernel
theorem dd_M_begin_27 : decode bb_M_begin 27 = .ok (.lcmp, 1) := by decide +kernel
theorem dd_M_begin_28 : decode bb_M_begin 28 = .ok (.ifCond .lt 12, 3) := by decide +kernel
theorem dd_M_begin_31 : decode bb_M_begin 31 = .ok (.iload_n 3, 1) := by decide +kernel
theorem dd_M_begin_32 : decode bb_M_begin 32 = .ok (.i2l, 1) := by decide +kernel
theorem dd_M_begin_33 : decode bb_M_begin 33 = .ok (.ldc2_w 121, 3) := by decide +kernel
theorem dd_M_begin_36 : decode bb_M_begin 36 = .ok (.lcmp, 1) := by decide +kernel
theorem dd_M_begin_37 : decode bb_M_begin 37 = .ok (.ifCond .le 5, 3) := by decide +kernel
theorem dd_M_begin_40 : decode bb_M_begin 40 = .ok (.iconst 0, 1) := by decide +kernel
theorem dd_M_begin_41 : decode bb_M_begin 41 = .ok (.ireturn, 1) := by decide +kernel
theorem dd_M_begin_42 : decode bb_M_begin 42 = .ok (.aload_n 0, 1) := by decide +kernel
theorem dd_M_begin_43 : decode bb_M_begin 43 = .ok (.getfield 58, 3) := by decide +kernel
theorem dd_M_begin_46 : decode bb_M_begin 46 = .ok (.iload_n 1, 1) := by decide +kernel
theorem dd_M_begin_47 : decode bb_M_begin 47 = .ok (.iload_n 2, 1) := by decide +kernel
theorem dd_M_begin_48 : decode bb_M_begin 48 = .ok (.i2l, 1) := by decide +kernel
theorem dd_M_begin_49 : decode bb_M_begin 49 = .ok (.lastore, 1) := by decide +kernel
theorem dd_M_begin_50 : decode bb_M_begin 50 = .ok (.aload_n 0, 1) := by decide +kernel
theorem dd_M_begin_51 : decode bb_M_begin 51 = .ok (.getfield 61, 3) := by decide +kernel
theorem dd_M_begin_54 : decode bb_M_begin 54 = .ok (.iload_n 1, 1) := by decide +kernel
theorem dd_M_begin_55 : decode bb_M_begin 55 = .ok (.iload_n 3, 1) := by decide +kernel
theorem dd_M_begin_56 : decode bb_M_begin 56 = .ok (.i2l, 1) := by decide +kernel
theorem dd_M_begin_57 : decode bb_M_begin 57 = .ok (.lastore, 1) := by decide +kernel
theorem dd_M_begin_58 : decode bb_M_begin 58 = .ok (.aload_n 0, 1) := by decide +kernel
theorem dd_M_begin_59 : decode bb_M_begin 59 = .ok (.invokevirtual 203, 3) := by decide +kernel
theorem dd_M_begin_62 : decode bb_M_begin 62 = .ok (.iconst 1, 1) := by decide +kernel
theorem dd_M_begin_63 : decode bb_M_begin 63 = .ok (.ireturn, 1) := by decide +kernel
theorem dd_M_settle_0 : decode bb_M_settle 0 = .ok (.aload_n 0, 1) := by decide +kernel
theorem dd_M_settle_1 : decode bb_M_settle 1 = .ok (.iconst 0, 1) := by decide +kernel
theorem dd_M_settle_2 : decode bb_M_settle 2 = .ok (.putfield 118, 3) := by decide +kernel
theorem dd_M_settle_5 : decode bb_M_settle 5 = .ok (.iload_n 1, 1) := by decide +kernel
theorem dd_M_settle_6 : decode bb_M_settle 6 = .ok (.iconst 1, 1) := by decide +kernel
theorem dd_M_settle_7 : decode bb_M_settle 7 = .ok (.if_icmp .lt 36, 3) := by decide +kernel
theorem dd_M_settle_10 : decode bb_M_settle 10 = .ok (.iload_n 1, 1) := by decide +kernel
theorem dd_M_settle_11 : decode bb_M_settle 11 = .ok (.bipush 8, 2) := by decide +kernel
theorem dd_M_settle_13 : decode bb_M_settle 13 = .ok (.if_icmp .gt 30, 3) := by decide +kernel
theorem dd_M_settle_16 : decode bb_M_settle 16 = .ok (.iload_n 2, 1) := by decide +kernel
theorem dd_M_settle_17 : decode bb_M_settle 17 = .ok (.ifCond .lt 26, 3) := by decide +kernel
theorem dd_M_settle_20 : decode bb_M_settle 20 = .ok (.iload_n 2, 1) := by decide +kernel
theorem dd_M_settle_21 : decode bb_M_settle 21 = .ok (.ldc 230, 2) := by decide +kernel
theorem dd_M_settle_23 : decode bb_M_settle 23 = .ok (.if_icmp .gt 20, 3) := by decide +kernel
theorem dd_M_settle_26 : decode bb_M_settle 26 = .ok (.iload_n 2, 1) := by decide +kernel
theorem dd_M_settle_27 : decode bb_M_settle 27 = .ok (.bipush 16, 2) := by decide +kernel
theorem dd_M_settle_29 : decode bb_M_settle 29 = .ok (.irem, 1) := by decide +kernel
theorem dd_M_settle_30 : decode bb_M_settle 30 = .ok (.ifCond .ne 13, 3) := by decide +kernel
theorem dd_M_settle_33 : decode bb_M_settle 33 = .ok (.iload_n 3, 1) := by decide +kernel
theorem dd_M_settle_34 : decode bb_M_settle 34 = .ok (.ifCond .lt 9, 3) := by decide +kernel
theorem dd_M_settle_37 : decode bb_M_settle 37 = .ok (.iload_n 3, 1) := by decide +kernel
theorem dd_M_settle_38 : decode bb_M_settle 38 = .ok (.bipush 10, 2) := by decide +kernel
theorem dd_M_settle_40 : decode bb_M_settle 40 = .ok (.if_icmp .le 5, 3) := by decide +kernel
theorem dd_M_settle_43 : decode bb_M_settle 43 = .ok (.iconst 0, 1) := by decide +kernel
theorem dd_M_settle_44 : decode bb_M_settle 44 = .ok (.ireturn, 1) := by decide +kernel
theorem dd_M_settle_45 : decode bb_M_settle 45 = .ok (.aload_n 0, 1) := by decide +kernel
theorem dd_M_settle_46 : decode bb_M_settle 46 = .ok (.iload_n 1, 1) := by decide +kernel
theorem dd_M_settle_47 : decode bb_M_settle 47 = .ok (.putfield 48, 3) := by decide +kernel
theorem dd_M_settle_50 : decode bb_M_settle 50 = .ok (.aload_n 0, 1) := by decide +kernel
theorem dd_M_settle_51 : decode bb_M_settle 51 = .ok (.iload_n 2, 1) := by decide +kernel
theorem dd_M_settle_52 : decode bb_M_settle 52 = .ok (.putfield 52, 3) := by decide +kernel
theorem dd_M_settle_55 : decode bb_M_settle 55 = .ok (.aload_n 0, 1) := by decide +kernel
theorem dd_M_settle_56 : decode bb_M_settle 56 = .ok (.iload_n 3, 1) := by decide +kernel
theorem dd_M_settle_57 : decode bb_M_settle 57 = .ok (.putfield 55, 3) := by decide +kernel
theorem dd_M_settle_60 : decode bb_M_settle 60 = .ok (.aload_n 0, 1) := by decide +kernel
theorem dd_M_settle_61 : decode bb_M_settle 61 = .ok (.invokevirtual 203, 3) := by decide +kernel
theorem dd_M_settle_64 : decode bb_M_settle 64 = .ok (.iconst 1, 1) := by decide +kernel
theorem dd_M_settle_65 : decode bb_M_settle 65 = .ok (.ireturn, 1) := by decide +kernel
theorem dd_M_step_0 : decode bb_M_step 0 = .ok (.aload_n 0, 1) := by decide +kernel
theorem dd_M_step_1 : decode bb_M_step 1 = .ok (.aload_n 0, 1) := by decide +kernel
theorem dd_M_step_2 : decode bb_M_step 2 = .ok (.getfield 197, 3) := by decide +kernel
theorem dd_M_step_5 : decode bb_M_step 5 = .ok (.ifCond .ne 7, 3) := by decide +kernel
theorem dd_M_step_8 : decode bb_M_step 8 = .ok (.iconst 1, 1) := by decide +kernel
theorem dd_M_step_9 : decode bb_M_step 9 = .ok (.goto 20, 3) := by decide +kernel
theorem dd_M_step_12 : decode bb_M_step 12 = .ok (.iload_n 1, 1) := by decide +kernel
theorem dd_M_step_13 : decode bb_M_step 13 = .ok (.iconst 1, 1) := by decide +kernel
theorem dd_M_step_14 : decode bb_M_step 14 = .ok (.if_icmp .lt 10, 3) := by decide +kernel
theorem dd_M_step_17 : decode bb_M_step 17 = .ok (.iload_n 1, 1) := by decide +kernel
theorem dd_M_step_18 : decode bb_M_step 18 = .ok (.sipush 200, 3) := by decide +kernel
theorem dd_M_step_21 : decode bb_M_step 21 = .ok (.if_icmp .le 7, 3) := by decide +kernel
theorem dd_M_step_24 : decode bb_M_step 24 = .ok (.iconst 3, 1) := by decide +kernel
theorem dd_M_step_25 : decode bb_M_step 25 = .ok (.goto 4, 3) := by decide +kernel
theorem dd_M_step_28 : decode bb_M_step 28 = .ok (.iconst 0, 1) := by decide +kernel
theorem dd_M_step_29 : decode bb_M_step 29 = .ok (.putfield 118, 3) := by decide +kernel
theorem dd_M_step_32 : decode bb_M_step 32 = .ok (.aload_n 0, 1) := by decide +kernel
theorem dd_M_step_33 : decode bb_M_step 33 = .ok (.getfield 118, 3) := by decide +kernel
theorem dd_M_step_36 : decode bb_M_step 36 = .ok (.ifCond .le 5, 3) := by decide +kernel
theorem dd_M_step_39 : decode bb_M_step 39 = .ok (.iconst 0, 1) := by decide +kernel
theorem dd_M_step_40 : decode bb_M_step 40 = .ok (.ireturn, 1) := by decide +kernel
theorem dd_M_step_41 : decode bb_M_step 41 = .ok (.iconst 0, 1) := by decide +kernel
theorem dd_M_step_42 : decode bb_M_step 42 = .ok (.istore_n 2, 1) := by decide +kernel
theorem dd_M_step_43 : decode bb_M_step 43 = .ok (.iload_n 2, 1) := by decide +kernel
theorem dd_M_step_44 : decode bb_M_step 44 = .ok (.iload_n 1, 1) := by decide +kernel
theorem dd_M_step_45 : decode bb_M_step 45 = .ok (.if_icmp .ge 42, 3) := by decide +kernel
theorem dd_M_step_48 : decode bb_M_step 48 = .ok (.aload_n 0, 1) := by decide +kernel
theorem dd_M_step_49 : decode bb_M_step 49 = .ok (.getfield 206, 3) := by decide +kernel
theorem dd_M_step_52 : decode bb_M_step 52 = .ok (.aload_n 0, 1) := by decide +kernel
theorem dd_M_step_53 : decode bb_M_step 53 = .ok (.getfield 52, 3) := by decide +kernel
theorem dd_M_step_56 : decode bb_M_step 56 = .ok (.if_icmp .ge 31, 3) := by decide +kernel
theorem dd_M_step_59 : decode bb_M_step 59 = .ok (.aload_n 0, 1) := by decide +kernel
theorem dd_M_step_60 : decode bb_M_step 60 = .ok (.getfield 118, 3) := by decide +kernel
theorem dd_M_step_63 : decode bb_M_step 63 = .ok (.ifCond .ne 24, 3) := by decide +kernel
theorem dd_M_step_66 : decode bb_M_step 66 = .ok (.aload_n 0, 1) := by decide +kernel
theorem dd_M_step_67 : decode bb_M_step 67 = .ok (.invokevirtual 288, 3) := by decide +kernel
theorem dd_M_step_70 : decode bb_M_step 70 = .ok (.ifCond .eq 9, 3) := by decide +kernel
theorem dd_M_step_73 : decode bb_M_step 73 = .ok (.iinc 2 1, 3) := by decide +kernel
theorem dd_M_step_76 : decode bb_M_step 76 = .ok (.goto (-33), 3) := by decide +kernel
theorem dd_M_step_79 : decode bb_M_step 79 = .ok (.aload_n 0, 1) := by decide +kernel
theorem dd_M_step_80 : decode bb_M_step 80 = .ok (.iconst 2, 1) := by decide +kernel
theorem dd_M_step_81 : decode bb_M_step 81 = .ok (.putfield 118, 3) := by decide +kernel
theorem dd_M_step_84 : decode bb_M_step 84 = .ok (.goto (-41), 3) := by decide +kernel
theorem dd_M_step_87 : decode bb_M_step 87 = .ok (.aload_n 0, 1) := by decide +kernel
theorem dd_M_step_88 : decode bb_M_step 88 = .ok (.getfield 118, 3) := by decide +kernel
theorem dd_M_step_91 : decode bb_M_step 91 = .ok (.ifCond .le 7, 3) := by decide +kernel
theorem dd_M_step_94 : decode bb_M_step 94 = .ok (.iconst 0, 1) := by decide +kernel
theorem dd_M_step_95 : decode bb_M_step 95 = .ok (.goto 4, 3) := by decide +kernel
theorem dd_M_step_98 : decode bb_M_step 98 = .ok (.iload_n 2, 1) := by decide +kernel
theorem dd_M_step_99 : decode bb_M_step 99 = .ok (.ireturn, 1) := by decide +kernel
theorem dd_M_goes_0 : decode bb_M_goes 0 = .ok (.aload_n 0, 1) := by decide +kernel
theorem dd_M_goes_1 : decode bb_M_goes 1 = .ok (.getfield 70, 3) := by decide +kernel
theorem dd_M_goes_4 : decode bb_M_goes 4 = .ok (.istore_n 1, 1) := by decide +kernel
theorem dd_M_goes_5 : decode bb_M_goes 5 = .ok (.aload_n 0, 1) := by decide +kernel
theorem dd_M_goes_6 : decode bb_M_goes 6 = .ok (.getfield 206, 3) := by decide +kernel
theorem dd_M_goes_9 : decode bb_M_goes 9 = .ok (.iconst 1, 1) := by decide +kernel
theorem dd_M_goes_10 : decode bb_M_goes 10 = .ok (.bipush 20, 2) := by decide +kernel
theorem dd_M_goes_12 : decode bb_M_goes 12 = .ok (.iload_n 1, 1) := by decide +kernel
theorem dd_M_goes_13 : decode bb_M_goes 13 = .ok (.isub, 1) := by decide +kernel
theorem dd_M_goes_14 : decode bb_M_goes 14 = .ok (.ishl, 1) := by decide +kernel
theorem dd_M_goes_15 : decode bb_M_goes 15 = .ok (.iadd, 1) := by decide +kernel
theorem dd_M_goes_16 : decode bb_M_goes 16 = .ok (.aload_n 0, 1) := by decide +kernel
theorem dd_M_goes_17 : decode bb_M_goes 17 = .ok (.getfield 52, 3) := by decide +kernel
theorem dd_M_goes_20 : decode bb_M_goes 20 = .ok (.if_icmp .le 9, 3) := by decide +kernel
theorem dd_M_goes_23 : decode bb_M_goes 23 = .ok (.iinc 1 1, 3) := by decide +kernel
theorem dd_M_goes_26 : decode bb_M_goes 26 = .ok (.goto (-21), 3) := by decide +kernel
theorem dd_M_goes_29 : decode bb_M_goes 29 = .ok (.aload_n 0, 1) := by decide +kernel
theorem dd_M_goes_30 : decode bb_M_goes 30 = .ok (.iload_n 1, 1) := by decide +kernel
theorem dd_M_goes_31 : decode bb_M_goes 31 = .ok (.invokevirtual 285, 3) := by decide +kernel
theorem dd_M_goes_34 : decode bb_M_goes 34 = .ok (.istore_n 2, 1) := by decide +kernel
theorem dd_M_goes_35 : decode bb_M_goes 35 = .ok (.iload_n 2, 1) := by decide +kernel
theorem dd_M_goes_36 : decode bb_M_goes 36 = .ok (.iconst 1, 1) := by decide +kernel
theorem dd_M_goes_37 : decode bb_M_goes 37 = .ok (.if_icmp .ne 21, 3) := by decide +kernel
theorem dd_M_goes_40 : decode bb_M_goes 40 = .ok (.iload_n 1, 1) := by decide +kernel
theorem dd_M_goes_41 : decode bb_M_goes 41 = .ok (.bipush 16, 2) := by decide +kernel
theorem dd_M_goes_43 : decode bb_M_goes 43 = .ok (.if_icmp .ge 15, 3) := by decide +kernel
theorem dd_M_goes_46 : decode bb_M_goes 46 = .ok (.iinc 1 1, 3) := by decide +kernel
theorem dd_M_goes_49 : decode bb_M_goes 49 = .ok (.aload_n 0, 1) := by decide +kernel
theorem dd_M_goes_50 : decode bb_M_goes 50 = .ok (.iload_n 1, 1) := by decide +kernel
theorem dd_M_goes_51 : decode bb_M_goes 51 = .ok (.invokevirtual 285, 3) := by decide +kernel
theorem dd_M_goes_54 : decode bb_M_goes 54 = .ok (.istore_n 2, 1) := by decide +kernel
theorem dd_M_goes_55 : decode bb_M_goes 55 = .ok (.goto (-20), 3) := by decide +kernel
theorem dd_M_goes_58 : decode bb_M_goes 58 = .ok (.aload_n 0, 1) := by decide +kernel
theorem dd_M_goes_59 : decode bb_M_goes 59 = .ok (.iload_n 2, 1) := by decide +kernel
theorem dd_M_goes_60 : decode bb_M_goes 60 = .ok (.putfield 212, 3) := by decide +kernel
theorem dd_M_goes_63 : decode bb_M_goes 63 = .ok (.iload_n 2, 1) := by decide +kernel
theorem dd_M_goes_64 : decode bb_M_goes 64 = .ok (.ifCond .le 5, 3) := by decide +kernel
theorem dd_M_goes_67 : decode bb_M_goes 67 = .ok (.iconst 0, 1) := by decide +kernel
theorem dd_M_goes_68 : decode bb_M_goes 68 = .ok (.ireturn, 1) := by decide +kernel
theorem dd_M_goes_69 : decode bb_M_goes 69 = .ok (.iconst 0, 1) := by decide +kernel
theorem dd_M_goes_70 : decode bb_M_goes 70 = .ok (.istore_n 3, 1) := by decide +kernel
theorem dd_M_goes_71 : decode bb_M_goes 71 = .ok (.iload_n 3, 1) := by decide +kernel
theorem dd_M_goes_72 : decode bb_M_goes 72 = .ok (.aload_n 0, 1) := by decide +kernel
theorem dd_M_goes_73 : decode bb_M_goes 73 = .ok (.getfield 197, 3) := by decide +kernel
theorem dd_M_goes_76 : decode bb_M_goes 76 = .ok (.if_icmp .ge 33, 3) := by decide +kernel
theorem dd_M_goes_79 : decode bb_M_goes 79 = .ok (.aload_n 0, 1) := by decide +kernel
theorem dd_M_goes_80 : decode bb_M_goes 80 = .ok (.getfield 64, 3) := by decide +kernel
theorem dd_M_goes_83 : decode bb_M_goes 83 = .ok (.iload_n 3, 1) := by decide +kernel
theorem dd_M_goes_84 : decode bb_M_goes 84 = .ok (.aload_n 0, 1) := by decide +kernel
theorem dd_M_goes_85 : decode bb_M_goes 85 = .ok (.getfield 94, 3) := by decide +kernel
theorem dd_M_goes_88 : decode bb_M_goes 88 = .ok (.iload_n 3, 1) := by decide +kernel
theorem dd_M_goes_89 : decode bb_M_goes 89 = .ok (.laload, 1) := by decide +kernel
theorem dd_M_goes_90 : decode bb_M_goes 90 = .ok (.lastore, 1) := by decide +kernel
theorem dd_M_goes_91 : decode bb_M_goes 91 = .ok (.aload_n 0, 1) := by decide +kernel
theorem dd_M_goes_92 : decode bb_M_goes 92 = .ok (.getfield 67, 3) := by decide +kernel
theorem dd_M_goes_95 : decode bb_M_goes 95 = .ok (.iload_n 3, 1) := by decide +kernel
theorem dd_M_goes_96 : decode bb_M_goes 96 = .ok (.aload_n 0, 1) := by decide +kernel
theorem dd_M_goes_97 : decode bb_M_goes 97 = .ok (.getfield 97, 3) := by decide +kernel
theorem dd_M_goes_100 : decode bb_M_goes 100 = .ok (.iload_n 3, 1) := by decide +kernel
theorem dd_M_goes_101 : decode bb_M_goes 101 = .ok (.laload, 1) := by decide +kernel
theorem dd_M_goes_102 : decode bb_M_goes 102 = .ok (.lastore, 1) := by decide +kernel
theorem dd_M_goes_103 : decode bb_M_goes 103 = .ok (.iinc 3 1, 3) := by decide +kernel
theorem dd_M_goes_106 : decode bb_M_goes 106 = .ok (.goto (-35), 3) := by decide +kernel
theorem dd_M_goes_109 : decode bb_M_goes 109 = .ok (.aload_n 0, 1) := by decide +kernel
theorem dd_M_goes_110 : decode bb_M_goes 110 = .ok (.dup, 1) := by decide +kernel
theorem dd_M_goes_111 : decode bb_M_goes 111 = .ok (.getfield 206, 3) := by decide +kernel
theorem dd_M_goes_114 : decode bb_M_goes 114 = .ok (.iconst 1, 1) := by decide +kernel
theorem dd_M_goes_115 : decode bb_M_goes 115 = .ok (.bipush 20, 2) := by decide +kernel
theorem dd_M_goes_117 : decode bb_M_goes 117 = .ok (.iload_n 1, 1) := by decide +kernel
theorem dd_M_goes_118 : decode bb_M_goes 118 = .ok (.isub, 1) := by decide +kernel
theorem dd_M_goes_119 : decode bb_M_goes 119 = .ok (.ishl, 1) := by decide +kernel
theorem dd_M_goes_120 : decode bb_M_goes 120 = .ok (.iadd, 1) := by decide +kernel
theorem dd_M_goes_121 : decode bb_M_goes 121 = .ok (.putfield 206, 3) := by decide +kernel
theorem dd_M_goes_124 : decode bb_M_goes 124 = .ok (.aload_n 0, 1) := by decide +kernel
theorem dd_M_goes_125 : decode bb_M_goes 125 = .ok (.iload_n 1, 1) := by decide +kernel
theorem dd_M_goes_126 : decode bb_M_goes 126 = .ok (.aload_n 0, 1) := by decide +kernel
theorem dd_M_goes_127 : decode bb_M_goes 127 = .ok (.getfield 70, 3) := by decide +kernel
theorem dd_M_goes_130 : decode bb_M_goes 130 = .ok (.if_icmp .le 7, 3) := by decide +kernel
theorem dd_M_goes_133 : decode bb_M_goes 133 = .ok (.iconst 0, 1) := by decide +kernel
theorem dd_M_goes_134 : decode bb_M_goes 134 = .ok (.goto 9, 3) := by decide +kernel
theorem dd_M_goes_137 : decode bb_M_goes 137 = .ok (.aload_n 0, 1) := by decide +kernel
theorem dd_M_goes_138 : decode bb_M_goes 138 = .ok (.getfield 209, 3) := by decide +kernel
theorem dd_M_goes_141 : decode bb_M_goes 141 = .ok (.iconst 1, 1) := by decide +kernel
theorem dd_M_goes_142 : decode bb_M_goes 142 = .ok (.iadd, 1) := by decide +kernel
theorem dd_M_goes_143 : decode bb_M_goes 143 = .ok (.putfield 209, 3) := by decide +kernel
theorem dd_M_goes_146 : decode bb_M_goes 146 = .ok (.aload_n 0, 1) := by decide +kernel
theorem dd_M_goes_147 : decode bb_M_goes 147 = .ok (.iload_n 1, 1) := by decide +kernel
theorem dd_M_goes_148 : decode bb_M_goes 148 = .ok (.putfield 70, 3) := by decide +kernel
theorem dd_M_goes_151 : decode bb_M_goes 151 = .ok (.aload_n 0, 1) := by decide +kernel
theorem dd_M_goes_152 : decode bb_M_goes 152 = .ok (.getfield 209, 3) := by decide +kernel
theorem dd_M_goes_155 : decode bb_M_goes 155 = .ok (.iconst 3, 1) := by decide +kernel
theorem dd_M_goes_156 : decode bb_M_goes 156 = .ok (.if_icmp .ne 33, 3) := by decide +kernel
theorem dd_M_goes_159 : decode bb_M_goes 159 = .ok (.aload_n 0, 1) := by decide +kernel
theorem dd_M_goes_160 : decode bb_M_goes 160 = .ok (.iconst 0, 1) := by decide +kernel
theorem dd_M_goes_161 : decode bb_M_goes 161 = .ok (.putfield 209, 3) := by decide +kernel
theorem dd_M_goes_164 : decode bb_M_goes 164 = .ok (.aload_n 0, 1) := by decide +kernel
theorem dd_M_goes_165 : decode bb_M_goes 165 = .ok (.dup, 1) := by decide +kernel
theorem dd_M_goes_166 : decode bb_M_goes 166 = .ok (.getfield 70, 3) := by decide +kernel
theorem dd_M_goes_169 : decode bb_M_goes 169 = .ok (.aload_n 0, 1) := by decide +kernel
theorem dd_M_goes_170 : decode bb_M_goes 170 = .ok (.getfield 70, 3) := by decide +kernel
theorem dd_M_goes_173 : decode bb_M_goes 173 = .ok (.aload_n 0, 1) := by decide +kernel
theorem dd_M_goes_174 : decode bb_M_goes 174 = .ok (.getfield 55, 3) := by decide +kernel
theorem dd_M_goes_177 : decode bb_M_goes 177 = .ok (.if_icmp .le 7, 3) := by decide +kernel
theorem dd_M_goes_180 : decode bb_M_goes 180 = .ok (.iconst 1, 1) := by decide +kernel
theorem dd_M_goes_181 : decode bb_M_goes 181 = .ok (.goto 4, 3) := by decide +kernel
theorem dd_M_goes_184 : decode bb_M_goes 184 = .ok (.iconst 0, 1) := by decide +kernel
theorem dd_M_goes_185 : decode bb_M_goes 185 = .ok (.isub, 1) := by decide +kernel
theorem dd_M_goes_186 : decode bb_M_goes 186 = .ok (.putfield 70, 3) := by decide +kernel
theorem dd_M_goes_189 : decode bb_M_goes 189 = .ok (.aload_n 0, 1) := by decide +kernel
theorem dd_M_goes_190 : decode bb_M_goes 190 = .ok (.invokevirtual 227, 3) := by decide +kernel
theorem dd_M_goes_193 : decode bb_M_goes 193 = .ok (.iconst 1, 1) := by decide +kernel
theorem dd_M_goes_194 : decode bb_M_goes 194 = .ok (.ireturn, 1) := by decide +kernel
theorem dd_M_tried_0 : decode bb_M_tried 0 = .ok (.lconst 1, 1) := by decide +kernel
theorem dd_M_tried_1 : decode bb_M_tried 1 = .ok (.bipush 20, 2) := by decide +kernel
theorem dd_M_tried_3 : decode bb_M_tried 3 = .ok (.iload_n 1, 1) := by decide +kernel
