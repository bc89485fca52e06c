theorem dX0_init_0 : decode cX0_init 0 = .ok (.aload_n 0, 1) := by decide +kernel
theorem dX0_init_1 : decode cX0_init 1 = .ok (.invokespecial 3, 3) := by decide +kernel
theorem dX0_init_4 : decode cX0_init 4 = .ok (.aload_n 0, 1) := by decide +kernel
theorem dX0_init_5 : decode cX0_init 5 = .ok (.bipush 16, 2) := by decide +kernel
theorem dX0_init_7 : decode cX0_init 7 = .ok (.newarray .int, 2) := by decide +kernel
theorem dX0_init_9 : decode cX0_init 9 = .ok (.putfield 11, 3) := by decide +kernel
theorem dX0_init_12 : decode cX0_init 12 = .ok (.aload_n 0, 1) := by decide +kernel
theorem dX0_init_13 : decode cX0_init 13 = .ok (.sipush 512, 3) := by decide +kernel
theorem dX0_init_16 : decode cX0_init 16 = .ok (.newarray .long, 2) := by decide +kernel
theorem dX0_init_18 : decode cX0_init 18 = .ok (.putfield 15, 3) := by decide +kernel
theorem dX0_init_21 : decode cX0_init 21 = .ok (.aload_n 0, 1) := by decide +kernel
theorem dX0_init_22 : decode cX0_init 22 = .ok (.sipush 256, 3) := by decide +kernel
theorem dX0_init_25 : decode cX0_init 25 = .ok (.newarray .int, 2) := by decide +kernel
theorem dX0_init_27 : decode cX0_init 27 = .ok (.putfield 19, 3) := by decide +kernel
theorem dX0_init_30 : decode cX0_init 30 = .ok (.aload_n 0, 1) := by decide +kernel
theorem dX0_init_31 : decode cX0_init 31 = .ok (.iconst 0, 1) := by decide +kernel
theorem dX0_init_32 : decode cX0_init 32 = .ok (.putfield 22, 3) := by decide +kernel
theorem dX0_init_35 : decode cX0_init 35 = .ok (.aload_n 0, 1) := by decide +kernel
theorem dX0_init_36 : decode cX0_init 36 = .ok (.iconst 0, 1) := by decide +kernel
theorem dX0_init_37 : decode cX0_init 37 = .ok (.putfield 26, 3) := by decide +kernel
theorem dX0_init_40 : decode cX0_init 40 = .ok (.return_, 1) := by decide +kernel
theorem dX0_has_0 : decode cX0_has 0 = .ok (.iload_n 1, 1) := by decide +kernel
theorem dX0_has_1 : decode cX0_has 1 = .ok (.ifCond .lt 15, 3) := by decide +kernel
theorem dX0_has_4 : decode cX0_has 4 = .ok (.iload_n 1, 1) := by decide +kernel
theorem dX0_has_5 : decode cX0_has 5 = .ok (.aload_n 0, 1) := by decide +kernel
theorem dX0_has_6 : decode cX0_has 6 = .ok (.getfield 26, 3) := by decide +kernel
theorem dX0_has_9 : decode cX0_has 9 = .ok (.if_icmp .ge 7, 3) := by decide +kernel
theorem dX0_has_12 : decode cX0_has 12 = .ok (.iconst 1, 1) := by decide +kernel
theorem dX0_has_13 : decode cX0_has 13 = .ok (.goto 4, 3) := by decide +kernel
theorem dX0_has_16 : decode cX0_has 16 = .ok (.iconst 0, 1) := by decide +kernel
theorem dX0_has_17 : decode cX0_has 17 = .ok (.ireturn, 1) := by decide +kernel
theorem dX0_numberAt_0 : decode cX0_numberAt 0 = .ok (.aload_n 0, 1) := by decide +kernel
theorem dX0_numberAt_1 : decode cX0_numberAt 1 = .ok (.getfield 19, 3) := by decide +kernel
theorem dX0_numberAt_4 : decode cX0_numberAt 4 = .ok (.iload_n 1, 1) := by decide +kernel
theorem dX0_numberAt_5 : decode cX0_numberAt 5 = .ok (.bipush 16, 2) := by decide +kernel
theorem dX0_numberAt_7 : decode cX0_numberAt 7 = .ok (.imul, 1) := by decide +kernel
theorem dX0_numberAt_8 : decode cX0_numberAt 8 = .ok (.iload_n 2, 1) := by decide +kernel
theorem dX0_numberAt_9 : decode cX0_numberAt 9 = .ok (.iadd, 1) := by decide +kernel
theorem dX0_numberAt_10 : decode cX0_numberAt 10 = .ok (.iaload, 1) := by decide +kernel
theorem dX0_numberAt_11 : decode cX0_numberAt 11 = .ok (.ireturn, 1) := by decide +kernel
theorem dX0_solve_0 : decode cX0_solve 0 = .ok (.aload_n 0, 1) := by decide +kernel
theorem dX0_solve_1 : decode cX0_solve 1 = .ok (.iconst 0, 1) := by decide +kernel
theorem dX0_solve_2 : decode cX0_solve 2 = .ok (.putfield 26, 3) := by decide +kernel
theorem dX0_solve_5 : decode cX0_solve 5 = .ok (.aload_n 0, 1) := by decide +kernel
theorem dX0_solve_6 : decode cX0_solve 6 = .ok (.iload_n 2, 1) := by decide +kernel
theorem dX0_solve_7 : decode cX0_solve 7 = .ok (.ifCond .eq 10, 3) := by decide +kernel
theorem dX0_solve_10 : decode cX0_solve 10 = .ok (.aload_n 1, 1) := by decide +kernel
theorem dX0_solve_11 : decode cX0_solve 11 = .ok (.getfield 29, 3) := by decide +kernel
theorem dX0_solve_14 : decode cX0_solve 14 = .ok (.goto 7, 3) := by decide +kernel
theorem dX0_solve_17 : decode cX0_solve 17 = .ok (.aload_n 1, 1) := by decide +kernel
theorem dX0_solve_18 : decode cX0_solve 18 = .ok (.getfield 34, 3) := by decide +kernel
theorem dX0_solve_21 : decode cX0_solve 21 = .ok (.putfield 22, 3) := by decide +kernel
theorem dX0_solve_24 : decode cX0_solve 24 = .ok (.iload_n 2, 1) := by decide +kernel
theorem dX0_solve_25 : decode cX0_solve 25 = .ok (.ifCond .eq 10, 3) := by decide +kernel
theorem dX0_solve_28 : decode cX0_solve 28 = .ok (.aload_n 1, 1) := by decide +kernel
theorem dX0_solve_29 : decode cX0_solve 29 = .ok (.getfield 34, 3) := by decide +kernel
theorem dX0_solve_32 : decode cX0_solve 32 = .ok (.goto 7, 3) := by decide +kernel
theorem dX0_solve_35 : decode cX0_solve 35 = .ok (.aload_n 1, 1) := by decide +kernel
theorem dX0_solve_36 : decode cX0_solve 36 = .ok (.getfield 29, 3) := by decide +kernel
theorem dX0_solve_39 : decode cX0_solve 39 = .ok (.istore_n 3, 1) := by decide +kernel
theorem dX0_solve_40 : decode cX0_solve 40 = .ok (.aload_n 0, 1) := by decide +kernel
theorem dX0_solve_41 : decode cX0_solve 41 = .ok (.getfield 11, 3) := by decide +kernel
theorem dX0_solve_44 : decode cX0_solve 44 = .ok (.iconst 0, 1) := by decide +kernel
theorem dX0_solve_45 : decode cX0_solve 45 = .ok (.invokestatic 37, 3) := by decide +kernel
theorem dX0_solve_48 : decode cX0_solve 48 = .ok (.aload_n 0, 1) := by decide +kernel
theorem dX0_solve_49 : decode cX0_solve 49 = .ok (.getfield 15, 3) := by decide +kernel
theorem dX0_solve_52 : decode cX0_solve 52 = .ok (.lconst 0, 1) := by decide +kernel
theorem dX0_solve_53 : decode cX0_solve 53 = .ok (.invokestatic 43, 3) := by decide +kernel
theorem dX0_solve_56 : decode cX0_solve 56 = .ok (.iconst 0, 1) := by decide +kernel
theorem dX0_solve_57 : decode cX0_solve 57 = .ok (.istore 4, 2) := by decide +kernel
theorem dX0_solve_59 : decode cX0_solve 59 = .ok (.iload 4, 2) := by decide +kernel
theorem dX0_solve_61 : decode cX0_solve 61 = .ok (.aload_n 0, 1) := by decide +kernel
theorem dX0_solve_62 : decode cX0_solve 62 = .ok (.getfield 22, 3) := by decide +kernel
theorem dX0_solve_65 : decode cX0_solve 65 = .ok (.if_icmp .ge 79, 3) := by decide +kernel
theorem dX0_solve_68 : decode cX0_solve 68 = .ok (.iconst 0, 1) := by decide +kernel
theorem dX0_solve_69 : decode cX0_solve 69 = .ok (.istore 5, 2) := by decide +kernel
theorem dX0_solve_71 : decode cX0_solve 71 = .ok (.iload 5, 2) := by decide +kernel
theorem dX0_solve_73 : decode cX0_solve 73 = .ok (.iload_n 3, 1) := by decide +kernel
theorem dX0_solve_74 : decode cX0_solve 74 = .ok (.if_icmp .ge 47, 3) := by decide +kernel
theorem dX0_solve_77 : decode cX0_solve 77 = .ok (.aload_n 0, 1) := by decide +kernel
theorem dX0_solve_78 : decode cX0_solve 78 = .ok (.getfield 15, 3) := by decide +kernel
theorem dX0_solve_81 : decode cX0_solve 81 = .ok (.iload 4, 2) := by decide +kernel
theorem dX0_solve_83 : decode cX0_solve 83 = .ok (.bipush 32, 2) := by decide +kernel
theorem dX0_solve_85 : decode cX0_solve 85 = .ok (.imul, 1) := by decide +kernel
theorem dX0_solve_86 : decode cX0_solve 86 = .ok (.iload 5, 2) := by decide +kernel
theorem dX0_solve_88 : decode cX0_solve 88 = .ok (.iadd, 1) := by decide +kernel
theorem dX0_solve_89 : decode cX0_solve 89 = .ok (.iload_n 2, 1) := by decide +kernel
theorem dX0_solve_90 : decode cX0_solve 90 = .ok (.ifCond .eq 15, 3) := by decide +kernel
theorem dX0_solve_93 : decode cX0_solve 93 = .ok (.aload_n 1, 1) := by decide +kernel
theorem dX0_solve_94 : decode cX0_solve 94 = .ok (.iload 5, 2) := by decide +kernel
theorem dX0_solve_96 : decode cX0_solve 96 = .ok (.iload 4, 2) := by decide +kernel
theorem dX0_solve_98 : decode cX0_solve 98 = .ok (.invokevirtual 46, 3) := by decide +kernel
theorem dX0_solve_101 : decode cX0_solve 101 = .ok (.i2l, 1) := by decide +kernel
theorem dX0_solve_102 : decode cX0_solve 102 = .ok (.goto 12, 3) := by decide +kernel
theorem dX0_solve_105 : decode cX0_solve 105 = .ok (.aload_n 1, 1) := by decide +kernel
theorem dX0_solve_106 : decode cX0_solve 106 = .ok (.iload 4, 2) := by decide +kernel
theorem dX0_solve_108 : decode cX0_solve 108 = .ok (.iload 5, 2) := by decide +kernel
theorem dX0_solve_110 : decode cX0_solve 110 = .ok (.invokevirtual 46, 3) := by decide +kernel
theorem dX0_solve_113 : decode cX0_solve 113 = .ok (.i2l, 1) := by decide +kernel
theorem dX0_solve_114 : decode cX0_solve 114 = .ok (.lastore, 1) := by decide +kernel
theorem dX0_solve_115 : decode cX0_solve 115 = .ok (.iinc 5 1, 3) := by decide +kernel
theorem dX0_solve_118 : decode cX0_solve 118 = .ok (.goto (-47), 3) := by decide +kernel
theorem dX0_solve_121 : decode cX0_solve 121 = .ok (.aload_n 0, 1) := by decide +kernel
theorem dX0_solve_122 : decode cX0_solve 122 = .ok (.getfield 15, 3) := by decide +kernel
theorem dX0_solve_125 : decode cX0_solve 125 = .ok (.iload 4, 2) := by decide +kernel
theorem dX0_solve_127 : decode cX0_solve 127 = .ok (.bipush 32, 2) := by decide +kernel
theorem dX0_solve_129 : decode cX0_solve 129 = .ok (.imul, 1) := by decide +kernel
theorem dX0_solve_130 : decode cX0_solve 130 = .ok (.bipush 16, 2) := by decide +kernel
theorem dX0_solve_132 : decode cX0_solve 132 = .ok (.iadd, 1) := by decide +kernel
theorem dX0_solve_133 : decode cX0_solve 133 = .ok (.iload 4, 2) := by decide +kernel
theorem dX0_solve_135 : decode cX0_solve 135 = .ok (.iadd, 1) := by decide +kernel
theorem dX0_solve_136 : decode cX0_solve 136 = .ok (.lconst 1, 1) := by decide +kernel
theorem dX0_solve_137 : decode cX0_solve 137 = .ok (.lastore, 1) := by decide +kernel
theorem dX0_solve_138 : decode cX0_solve 138 = .ok (.iinc 4 1, 3) := by decide +kernel
theorem dX0_solve_141 : decode cX0_solve 141 = .ok (.goto (-82), 3) := by decide +kernel
theorem dX0_solve_144 : decode cX0_solve 144 = .ok (.iconst 0, 1) := by decide +kernel
theorem dX0_solve_145 : decode cX0_solve 145 = .ok (.istore 4, 2) := by decide +kernel
theorem dX0_solve_147 : decode cX0_solve 147 = .ok (.iload 4, 2) := by decide +kernel
theorem dX0_solve_149 : decode cX0_solve 149 = .ok (.iload_n 3, 1) := by decide +kernel
theorem dX0_solve_150 : decode cX0_solve 150 = .ok (.if_icmp .ge 20, 3) := by decide +kernel
theorem dX0_solve_153 : decode cX0_solve 153 = .ok (.aload_n 0, 1) := by decide +kernel
theorem dX0_solve_154 : decode cX0_solve 154 = .ok (.iload 4, 2) := by decide +kernel
theorem dX0_solve_156 : decode cX0_solve 156 = .ok (.invokevirtual 50, 3) := by decide +kernel
theorem dX0_solve_159 : decode cX0_solve 159 = .ok (.ifCond .ne 5, 3) := by decide +kernel
theorem dX0_solve_162 : decode cX0_solve 162 = .ok (.iconst 0, 1) := by decide +kernel
theorem dX0_solve_163 : decode cX0_solve 163 = .ok (.ireturn, 1) := by decide +kernel
theorem dX0_solve_164 : decode cX0_solve 164 = .ok (.iinc 4 1, 3) := by decide +kernel
theorem dX0_solve_167 : decode cX0_solve 167 = .ok (.goto (-20), 3) := by decide +kernel
theorem dX0_solve_170 : decode cX0_solve 170 = .ok (.aload_n 0, 1) := by decide +kernel
theorem dX0_solve_171 : decode cX0_solve 171 = .ok (.invokevirtual 54, 3) := by decide +kernel
theorem dX0_solve_174 : decode cX0_solve 174 = .ok (.iconst 1, 1) := by decide +kernel
theorem dX0_solve_175 : decode cX0_solve 175 = .ok (.ireturn, 1) := by decide +kernel
theorem dX0_clearColumn_0 : decode cX0_clearColumn 0 = .ok (.aload_n 0, 1) := by decide +kernel
theorem dX0_clearColumn_1 : decode cX0_clearColumn 1 = .ok (.iload_n 1, 1) := by decide +kernel
theorem dX0_clearColumn_2 : decode cX0_clearColumn 2 = .ok (.invokevirtual 57, 3) := by decide +kernel
theorem dX0_clearColumn_5 : decode cX0_clearColumn 5 = .ok (.istore_n 2, 1) := by decide +kernel
theorem dX0_clearColumn_6 : decode cX0_clearColumn 6 = .ok (.iload_n 2, 1) := by decide +kernel
theorem dX0_clearColumn_7 : decode cX0_clearColumn 7 = .ok (.ifCond .ge 5, 3) := by decide +kernel
theorem dX0_clearColumn_10 : decode cX0_clearColumn 10 = .ok (.iconst 1, 1) := by decide +kernel
theorem dX0_clearColumn_11 : decode cX0_clearColumn 11 = .ok (.ireturn, 1) := by decide +kernel
theorem dX0_clearColumn_12 : decode cX0_clearColumn 12 = .ok (.aload_n 0, 1) := by decide +kernel
theorem dX0_clearColumn_13 : decode cX0_clearColumn 13 = .ok (.getfield 11, 3) := by decide +kernel
theorem dX0_clearColumn_16 : decode cX0_clearColumn 16 = .ok (.iload_n 2, 1) := by decide +kernel
theorem dX0_clearColumn_17 : decode cX0_clearColumn 17 = .ok (.iconst 1, 1) := by decide +kernel
theorem dX0_clearColumn_18 : decode cX0_clearColumn 18 = .ok (.iastore, 1) := by decide +kernel
theorem dX0_clearColumn_19 : decode cX0_clearColumn 19 = .ok (.iconst 0, 1) := by decide +kernel
theorem dX0_clearColumn_20 : decode cX0_clearColumn 20 = .ok (.istore_n 3, 1) := by decide +kernel
theorem dX0_clearColumn_21 : decode cX0_clearColumn 21 = .ok (.iload_n 3, 1) := by decide +kernel
theorem dX0_clearColumn_22 : decode cX0_clearColumn 22 = .ok (.aload_n 0, 1) := by decide +kernel
theorem dX0_clearColumn_23 : decode cX0_clearColumn 23 = .ok (.getfield 22, 3) := by decide +kernel
theorem dX0_clearColumn_26 : decode cX0_clearColumn 26 = .ok (.if_icmp .ge 46, 3) := by decide +kernel
theorem dX0_clearColumn_29 : decode cX0_clearColumn 29 = .ok (.aload_n 0, 1) := by decide +kernel
theorem dX0_clearColumn_30 : decode cX0_clearColumn 30 = .ok (.getfield 11, 3) := by decide +kernel
theorem dX0_clearColumn_33 : decode cX0_clearColumn 33 = .ok (.iload_n 3, 1) := by decide +kernel
theorem dX0_clearColumn_34 : decode cX0_clearColumn 34 = .ok (.iaload, 1) := by decide +kernel
theorem dX0_clearColumn_35 : decode cX0_clearColumn 35 = .ok (.ifCond .ne 31, 3) := by decide +kernel
theorem dX0_clearColumn_38 : decode cX0_clearColumn 38 = .ok (.aload_n 0, 1) := by decide +kernel
theorem dX0_clearColumn_39 : decode cX0_clearColumn 39 = .ok (.getfield 15, 3) := by decide +kernel
theorem dX0_clearColumn_42 : decode cX0_clearColumn 42 = .ok (.iload_n 3, 1) := by decide +kernel
theorem dX0_clearColumn_43 : decode cX0_clearColumn 43 = .ok (.bipush 32, 2) := by decide +kernel
theorem dX0_clearColumn_45 : decode cX0_clearColumn 45 = .ok (.imul, 1) := by decide +kernel
theorem dX0_clearColumn_46 : decode cX0_clearColumn 46 = .ok (.iload_n 1, 1) := by decide +kernel
theorem dX0_clearColumn_47 : decode cX0_clearColumn 47 = .ok (.iadd, 1) := by decide +kernel
theorem dX0_clearColumn_48 : decode cX0_clearColumn 48 = .ok (.laload, 1) := by decide +kernel
theorem dX0_clearColumn_49 : decode cX0_clearColumn 49 = .ok (.lconst 0, 1) := by decide +kernel
theorem dX0_clearColumn_50 : decode cX0_clearColumn 50 = .ok (.lcmp, 1) := by decide +kernel
theorem dX0_clearColumn_51 : decode cX0_clearColumn 51 = .ok (.ifCond .eq 15, 3) := by decide +kernel
theorem dX0_clearColumn_54 : decode cX0_clearColumn 54 = .ok (.aload_n 0, 1) := by decide +kernel
theorem dX0_clearColumn_55 : decode cX0_clearColumn 55 = .ok (.iload_n 3, 1) := by decide +kernel
theorem dX0_clearColumn_56 : decode cX0_clearColumn 56 = .ok (.iload_n 2, 1) := by decide +kernel
theorem dX0_clearColumn_57 : decode cX0_clearColumn 57 = .ok (.iload_n 1, 1) := by decide +kernel
theorem dX0_clearColumn_58 : decode cX0_clearColumn 58 = .ok (.invokevirtual 61, 3) := by decide +kernel
theorem dX0_clearColumn_61 : decode cX0_clearColumn 61 = .ok (.ifCond .ne 5, 3) := by decide +kernel
theorem dX0_clearColumn_64 : decode cX0_clearColumn 64 = .ok (.iconst 0, 1) := by decide +kernel
theorem dX0_clearColumn_65 : decode cX0_clearColumn 65 = .ok (.ireturn, 1) := by decide +kernel
theorem dX0_clearColumn_66 : decode cX0_clearColumn 66 = .ok (.iinc 3 1, 3) := by decide +kernel
theorem dX0_clearColumn_69 : decode cX0_clearColumn 69 = .ok (.goto (-48), 3) := by decide +kernel
theorem dX0_clearColumn_72 : decode cX0_clearColumn 72 = .ok (.iconst 1, 1) := by decide +kernel
theorem dX0_clearColumn_73 : decode cX0_clearColumn 73 = .ok (.ireturn, 1) := by decide +kernel
theorem dX0_firstWith_0 : decode cX0_firstWith 0 = .ok (.iconst 0, 1) := by decide +kernel
theorem dX0_firstWith_1 : decode cX0_firstWith 1 = .ok (.istore_n 2, 1) := by decide +kernel
theorem dX0_firstWith_2 : decode cX0_firstWith 2 = .ok (.iload_n 2, 1) := by decide +kernel
theorem dX0_firstWith_3 : decode cX0_firstWith 3 = .ok (.aload_n 0, 1) := by decide +kernel
theorem dX0_firstWith_4 : decode cX0_firstWith 4 = .ok (.getfield 22, 3) := by decide +kernel
theorem dX0_firstWith_7 : decode cX0_firstWith 7 = .ok (.if_icmp .ge 36, 3) := by decide +kernel
theorem dX0_firstWith_10 : decode cX0_firstWith 10 = .ok (.aload_n 0, 1) := by decide +kernel
theorem dX0_firstWith_11 : decode cX0_firstWith 11 = .ok (.getfield 11, 3) := by decide +kernel
theorem dX0_firstWith_14 : decode cX0_firstWith 14 = .ok (.iload_n 2, 1) := by decide +kernel
theorem dX0_firstWith_15 : decode cX0_firstWith 15 = .ok (.iaload, 1) := by decide +kernel
theorem dX0_firstWith_16 : decode cX0_firstWith 16 = .ok (.ifCond .ne 21, 3) := by decide +kernel
theorem dX0_firstWith_19 : decode cX0_firstWith 19 = .ok (.aload_n 0, 1) := by decide +kernel
theorem dX0_firstWith_20 : decode cX0_firstWith 20 = .ok (.getfield 15, 3) := by decide +kernel
theorem dX0_firstWith_23 : decode cX0_firstWith 23 = .ok (.iload_n 2, 1) := by decide +kernel
theorem dX0_firstWith_24 : decode cX0_firstWith 24 = .ok (.bipush 32, 2) := by decide +kernel
theorem dX0_firstWith_26 : decode cX0_firstWith 26 = .ok (.imul, 1) := by decide +kernel
theorem dX0_firstWith_27 : decode cX0_firstWith 27 = .ok (.iload_n 1, 1) := by decide +kernel
theorem dX0_firstWith_28 : decode cX0_firstWith 28 = .ok (.iadd, 1) := by decide +kernel
theorem dX0_firstWith_29 : decode cX0_firstWith 29 = .ok (.laload, 1) := by decide +kernel
theorem dX0_firstWith_30 : decode cX0_firstWith 30 = .ok (.lconst 0, 1) := by decide +kernel
theorem dX0_firstWith_31 : decode cX0_firstWith 31 = .ok (.lcmp, 1) := by decide +kernel
theorem dX0_firstWith_32 : decode cX0_firstWith 32 = .ok (.ifCond .eq 5, 3) := by decide +kernel
theorem dX0_firstWith_35 : decode cX0_firstWith 35 = .ok (.iload_n 2, 1) := by decide +kernel
theorem dX0_firstWith_36 : decode cX0_firstWith 36 = .ok (.ireturn, 1) := by decide +kernel
theorem dX0_firstWith_37 : decode cX0_firstWith 37 = .ok (.iinc 2 1, 3) := by decide +kernel
theorem dX0_firstWith_40 : decode cX0_firstWith 40 = .ok (.goto (-38), 3) := by decide +kernel
theorem dX0_firstWith_43 : decode cX0_firstWith 43 = .ok (.iconst (-1), 1) := by decide +kernel
theorem dX0_firstWith_44 : decode cX0_firstWith 44 = .ok (.ireturn, 1) := by decide +kernel
theorem dX0_combine_0 : decode cX0_combine 0 = .ok (.iload_n 1, 1) := by decide +kernel
theorem dX0_combine_1 : decode cX0_combine 1 = .ok (.bipush 32, 2) := by decide +kernel
theorem dX0_combine_3 : decode cX0_combine 3 = .ok (.imul, 1) := by decide +kernel
theorem dX0_combine_4 : decode cX0_combine 4 = .ok (.istore 4, 2) := by decide +kernel
theorem dX0_combine_6 : decode cX0_combine 6 = .ok (.iload_n 2, 1) := by decide +kernel
theorem dX0_combine_7 : decode cX0_combine 7 = .ok (.bipush 32, 2) := by decide +kernel
theorem dX0_combine_9 : decode cX0_combine 9 = .ok (.imul, 1) := by decide +kernel
theorem dX0_combine_10 : decode cX0_combine 10 = .ok (.istore 5, 2) := by decide +kernel
theorem dX0_combine_12 : decode cX0_combine 12 = .ok (.aload_n 0, 1) := by decide +kernel
theorem dX0_combine_13 : decode cX0_combine 13 = .ok (.getfield 15, 3) := by decide +kernel
theorem dX0_combine_16 : decode cX0_combine 16 = .ok (.iload 5, 2) := by decide +kernel
theorem dX0_combine_18 : decode cX0_combine 18 = .ok (.iload_n 3, 1) := by decide +kernel
theorem dX0_combine_19 : decode cX0_combine 19 = .ok (.iadd, 1) := by decide +kernel
theorem dX0_combine_20 : decode cX0_combine 20 = .ok (.laload, 1) := by decide +kernel
theorem dX0_combine_21 : decode cX0_combine 21 = .ok (.lstore 6, 2) := by decide +kernel
theorem dX0_combine_23 : decode cX0_combine 23 = .ok (.aload_n 0, 1) := by decide +kernel
theorem dX0_combine_24 : decode cX0_combine 24 = .ok (.getfield 15, 3) := by decide +kernel
theorem dX0_combine_27 : decode cX0_combine 27 = .ok (.iload 4, 2) := by decide +kernel
theorem dX0_combine_29 : decode cX0_combine 29 = .ok (.iload_n 3, 1) := by decide +kernel
theorem dX0_combine_30 : decode cX0_combine 30 = .ok (.iadd, 1) := by decide +kernel
theorem dX0_combine_31 : decode cX0_combine 31 = .ok (.laload, 1) := by decide +kernel
theorem dX0_combine_32 : decode cX0_combine 32 = .ok (.lstore 8, 2) := by decide +kernel
theorem dX0_combine_34 : decode cX0_combine 34 = .ok (.lconst 0, 1) := by decide +kernel
theorem dX0_combine_35 : decode cX0_combine 35 = .ok (.lstore 10, 2) := by decide +kernel
theorem dX0_combine_37 : decode cX0_combine 37 = .ok (.iconst 0, 1) := by decide +kernel
theorem dX0_combine_38 : decode cX0_combine 38 = .ok (.istore 12, 2) := by decide +kernel
theorem dX0_combine_40 : decode cX0_combine 40 = .ok (.iload 12, 2) := by decide +kernel
theorem dX0_combine_42 : decode cX0_combine 42 = .ok (.bipush 32, 2) := by decide +kernel
theorem dX0_combine_44 : decode cX0_combine 44 = .ok (.if_icmp .ge 66, 3) := by decide +kernel
theorem dX0_combine_47 : decode cX0_combine 47 = .ok (.aload_n 0, 1) := by decide +kernel
theorem dX0_combine_48 : decode cX0_combine 48 = .ok (.getfield 15, 3) := by decide +kernel
theorem dX0_combine_51 : decode cX0_combine 51 = .ok (.iload 4, 2) := by decide +kernel
theorem dX0_combine_53 : decode cX0_combine 53 = .ok (.iload 12, 2) := by decide +kernel
theorem dX0_combine_55 : decode cX0_combine 55 = .ok (.iadd, 1) := by decide +kernel
theorem dX0_combine_56 : decode cX0_combine 56 = .ok (.lload 6, 2) := by decide +kernel
theorem dX0_combine_58 : decode cX0_combine 58 = .ok (.aload_n 0, 1) := by decide +kernel
theorem dX0_combine_59 : decode cX0_combine 59 = .ok (.getfield 15, 3) := by decide +kernel
theorem dX0_combine_62 : decode cX0_combine 62 = .ok (.iload 4, 2) := by decide +kernel
theorem dX0_combine_64 : decode cX0_combine 64 = .ok (.iload 12, 2) := by decide +kernel
theorem dX0_combine_66 : decode cX0_combine 66 = .ok (.iadd, 1) := by decide +kernel
theorem dX0_combine_67 : decode cX0_combine 67 = .ok (.laload, 1) := by decide +kernel
theorem dX0_combine_68 : decode cX0_combine 68 = .ok (.lmul, 1) := by decide +kernel
theorem dX0_combine_69 : decode cX0_combine 69 = .ok (.lload 8, 2) := by decide +kernel
theorem dX0_combine_71 : decode cX0_combine 71 = .ok (.aload_n 0, 1) := by decide +kernel
theorem dX0_combine_72 : decode cX0_combine 72 = .ok (.getfield 15, 3) := by decide +kernel
theorem dX0_combine_75 : decode cX0_combine 75 = .ok (.iload 5, 2) := by decide +kernel
theorem dX0_combine_77 : decode cX0_combine 77 = .ok (.iload 12, 2) := by decide +kernel
theorem dX0_combine_79 : decode cX0_combine 79 = .ok (.iadd, 1) := by decide +kernel
theorem dX0_combine_80 : decode cX0_combine 80 = .ok (.laload, 1) := by decide +kernel
theorem dX0_combine_81 : decode cX0_combine 81 = .ok (.lmul, 1) := by decide +kernel
theorem dX0_combine_82 : decode cX0_combine 82 = .ok (.lsub, 1) := by decide +kernel
theorem dX0_combine_83 : decode cX0_combine 83 = .ok (.lastore, 1) := by decide +kernel
theorem dX0_combine_84 : decode cX0_combine 84 = .ok (.lload 10, 2) := by decide +kernel
theorem dX0_combine_86 : decode cX0_combine 86 = .ok (.aload_n 0, 1) := by decide +kernel
theorem dX0_combine_87 : decode cX0_combine 87 = .ok (.getfield 15, 3) := by decide +kernel
theorem dX0_combine_90 : decode cX0_combine 90 = .ok (.iload 4, 2) := by decide +kernel
theorem dX0_combine_92 : decode cX0_combine 92 = .ok (.iload 12, 2) := by decide +kernel
theorem dX0_combine_94 : decode cX0_combine 94 = .ok (.iadd, 1) := by decide +kernel
theorem dX0_combine_95 : decode cX0_combine 95 = .ok (.laload, 1) := by decide +kernel
theorem dX0_combine_96 : decode cX0_combine 96 = .ok (.invokestatic 65, 3) := by decide +kernel
theorem dX0_combine_99 : decode cX0_combine 99 = .ok (.invokestatic 71, 3) := by decide +kernel
theorem dX0_combine_102 : decode cX0_combine 102 = .ok (.lstore 10, 2) := by decide +kernel
theorem dX0_combine_104 : decode cX0_combine 104 = .ok (.iinc 12 1, 3) := by decide +kernel
theorem dX0_combine_107 : decode cX0_combine 107 = .ok (.goto (-67), 3) := by decide +kernel
theorem dX0_combine_110 : decode cX0_combine 110 = .ok (.iconst 0, 1) := by decide +kernel
theorem dX0_combine_111 : decode cX0_combine 111 = .ok (.istore 12, 2) := by decide +kernel
theorem dX0_combine_113 : decode cX0_combine 113 = .ok (.iload 12, 2) := by decide +kernel
theorem dX0_combine_115 : decode cX0_combine 115 = .ok (.bipush 32, 2) := by decide +kernel
theorem dX0_combine_117 : decode cX0_combine 117 = .ok (.if_icmp .ge 53, 3) := by decide +kernel
theorem dX0_combine_120 : decode cX0_combine 120 = .ok (.lload 10, 2) := by decide +kernel
theorem dX0_combine_122 : decode cX0_combine 122 = .ok (.lconst 1, 1) := by decide +kernel
theorem dX0_combine_123 : decode cX0_combine 123 = .ok (.lcmp, 1) := by decide +kernel
theorem dX0_combine_124 : decode cX0_combine 124 = .ok (.ifCond .le 18, 3) := by decide +kernel
theorem dX0_combine_127 : decode cX0_combine 127 = .ok (.aload_n 0, 1) := by decide +kernel
theorem dX0_combine_128 : decode cX0_combine 128 = .ok (.getfield 15, 3) := by decide +kernel
theorem dX0_combine_131 : decode cX0_combine 131 = .ok (.iload 4, 2) := by decide +kernel
theorem dX0_combine_133 : decode cX0_combine 133 = .ok (.iload 12, 2) := by decide +kernel
theorem dX0_combine_135 : decode cX0_combine 135 = .ok (.iadd, 1) := by decide +kernel
theorem dX0_combine_136 : decode cX0_combine 136 = .ok (.dup2, 1) := by decide +kernel
theorem dX0_combine_137 : decode cX0_combine 137 = .ok (.laload, 1) := by decide +kernel
theorem dX0_combine_138 : decode cX0_combine 138 = .ok (.lload 10, 2) := by decide +kernel
theorem dX0_combine_140 : decode cX0_combine 140 = .ok (.ldiv, 1) := by decide +kernel
theorem dX0_combine_141 : decode cX0_combine 141 = .ok (.lastore, 1) := by decide +kernel
theorem dX0_combine_142 : decode cX0_combine 142 = .ok (.aload_n 0, 1) := by decide +kernel
theorem dX0_combine_143 : decode cX0_combine 143 = .ok (.getfield 15, 3) := by decide +kernel
theorem dX0_combine_146 : decode cX0_combine 146 = .ok (.iload 4, 2) := by decide +kernel
theorem dX0_combine_148 : decode cX0_combine 148 = .ok (.iload 12, 2) := by decide +kernel
theorem dX0_combine_150 : decode cX0_combine 150 = .ok (.iadd, 1) := by decide +kernel
theorem dX0_combine_151 : decode cX0_combine 151 = .ok (.laload, 1) := by decide +kernel
theorem dX0_combine_152 : decode cX0_combine 152 = .ok (.invokestatic 65, 3) := by decide +kernel
theorem dX0_combine_155 : decode cX0_combine 155 = .ok (.ldc2_w 75, 3) := by decide +kernel
theorem dX0_combine_158 : decode cX0_combine 158 = .ok (.lcmp, 1) := by decide +kernel
theorem dX0_combine_159 : decode cX0_combine 159 = .ok (.ifCond .le 5, 3) := by decide +kernel
theorem dX0_combine_162 : decode cX0_combine 162 = .ok (.iconst 0, 1) := by decide +kernel
theorem dX0_combine_163 : decode cX0_combine 163 = .ok (.ireturn, 1) := by decide +kernel
theorem dX0_combine_164 : decode cX0_combine 164 = .ok (.iinc 12 1, 3) := by decide +kernel
theorem dX0_combine_167 : decode cX0_combine 167 = .ok (.goto (-54), 3) := by decide +kernel
theorem dX0_combine_170 : decode cX0_combine 170 = .ok (.iconst 1, 1) := by decide +kernel
theorem dX0_combine_171 : decode cX0_combine 171 = .ok (.ireturn, 1) := by decide +kernel
theorem dX0_commonDivisor_0 : decode cX0_commonDivisor 0 = .ok (.lload_n 0, 1) := by decide +kernel
theorem dX0_commonDivisor_1 : decode cX0_commonDivisor 1 = .ok (.lstore 4, 2) := by decide +kernel
theorem dX0_commonDivisor_3 : decode cX0_commonDivisor 3 = .ok (.lload_n 2, 1) := by decide +kernel
theorem dX0_commonDivisor_4 : decode cX0_commonDivisor 4 = .ok (.lstore 6, 2) := by decide +kernel
theorem dX0_commonDivisor_6 : decode cX0_commonDivisor 6 = .ok (.iconst 0, 1) := by decide +kernel
theorem dX0_commonDivisor_7 : decode cX0_commonDivisor 7 = .ok (.istore 8, 2) := by decide +kernel
theorem dX0_commonDivisor_9 : decode cX0_commonDivisor 9 = .ok (.iload 8, 2) := by decide +kernel
theorem dX0_commonDivisor_11 : decode cX0_commonDivisor 11 = .ok (.sipush 200, 3) := by decide +kernel
theorem dX0_commonDivisor_14 : decode cX0_commonDivisor 14 = .ok (.if_icmp .ge 31, 3) := by decide +kernel
theorem dX0_commonDivisor_17 : decode cX0_commonDivisor 17 = .ok (.lload 6, 2) := by decide +kernel
theorem dX0_commonDivisor_19 : decode cX0_commonDivisor 19 = .ok (.lconst 0, 1) := by decide +kernel
theorem dX0_commonDivisor_20 : decode cX0_commonDivisor 20 = .ok (.lcmp, 1) := by decide +kernel
theorem dX0_commonDivisor_21 : decode cX0_commonDivisor 21 = .ok (.ifCond .eq 24, 3) := by decide +kernel
theorem dX0_commonDivisor_24 : decode cX0_commonDivisor 24 = .ok (.lload 4, 2) := by decide +kernel
theorem dX0_commonDivisor_26 : decode cX0_commonDivisor 26 = .ok (.lload 6, 2) := by decide +kernel
theorem dX0_commonDivisor_28 : decode cX0_commonDivisor 28 = .ok (.lrem, 1) := by decide +kernel
theorem dX0_commonDivisor_29 : decode cX0_commonDivisor 29 = .ok (.lstore 9, 2) := by decide +kernel
theorem dX0_commonDivisor_31 : decode cX0_commonDivisor 31 = .ok (.lload 6, 2) := by decide +kernel
theorem dX0_commonDivisor_33 : decode cX0_commonDivisor 33 = .ok (.lstore 4, 2) := by decide +kernel
theorem dX0_commonDivisor_35 : decode cX0_commonDivisor 35 = .ok (.lload 9, 2) := by decide +kernel
theorem dX0_commonDivisor_37 : decode cX0_commonDivisor 37 = .ok (.lstore 6, 2) := by decide +kernel
theorem dX0_commonDivisor_39 : decode cX0_commonDivisor 39 = .ok (.iinc 8 1, 3) := by decide +kernel
theorem dX0_commonDivisor_42 : decode cX0_commonDivisor 42 = .ok (.goto (-33), 3) := by decide +kernel
theorem dX0_commonDivisor_45 : decode cX0_commonDivisor 45 = .ok (.lload 4, 2) := by decide +kernel
theorem dX0_commonDivisor_47 : decode cX0_commonDivisor 47 = .ok (.lreturn, 1) := by decide +kernel
theorem dX0_keepRest_0 : decode cX0_keepRest 0 = .ok (.iconst 0, 1) := by decide +kernel
theorem dX0_keepRest_1 : decode cX0_keepRest 1 = .ok (.istore_n 1, 1) := by decide +kernel
theorem dX0_keepRest_2 : decode cX0_keepRest 2 = .ok (.iload_n 1, 1) := by decide +kernel
theorem dX0_keepRest_3 : decode cX0_keepRest 3 = .ok (.aload_n 0, 1) := by decide +kernel
theorem dX0_keepRest_4 : decode cX0_keepRest 4 = .ok (.getfield 22, 3) := by decide +kernel
theorem dX0_keepRest_7 : decode cX0_keepRest 7 = .ok (.if_icmp .ge 81, 3) := by decide +kernel
theorem dX0_keepRest_10 : decode cX0_keepRest 10 = .ok (.aload_n 0, 1) := by decide +kernel
theorem dX0_keepRest_11 : decode cX0_keepRest 11 = .ok (.getfield 11, 3) := by decide +kernel
theorem dX0_keepRest_14 : decode cX0_keepRest 14 = .ok (.iload_n 1, 1) := by decide +kernel
theorem dX0_keepRest_15 : decode cX0_keepRest 15 = .ok (.iaload, 1) := by decide +kernel
theorem dX0_keepRest_16 : decode cX0_keepRest 16 = .ok (.ifCond .ne 66, 3) := by decide +kernel
theorem dX0_keepRest_19 : decode cX0_keepRest 19 = .ok (.aload_n 0, 1) := by decide +kernel
theorem dX0_keepRest_20 : decode cX0_keepRest 20 = .ok (.iload_n 1, 1) := by decide +kernel
theorem dX0_keepRest_21 : decode cX0_keepRest 21 = .ok (.invokevirtual 77, 3) := by decide +kernel
theorem dX0_keepRest_24 : decode cX0_keepRest 24 = .ok (.istore_n 2, 1) := by decide +kernel
theorem dX0_keepRest_25 : decode cX0_keepRest 25 = .ok (.iconst 0, 1) := by decide +kernel
theorem dX0_keepRest_26 : decode cX0_keepRest 26 = .ok (.istore_n 3, 1) := by decide +kernel
theorem dX0_keepRest_27 : decode cX0_keepRest 27 = .ok (.iload_n 3, 1) := by decide +kernel
theorem dX0_keepRest_28 : decode cX0_keepRest 28 = .ok (.aload_n 0, 1) := by decide +kernel
theorem dX0_keepRest_29 : decode cX0_keepRest 29 = .ok (.getfield 22, 3) := by decide +kernel
theorem dX0_keepRest_32 : decode cX0_keepRest 32 = .ok (.if_icmp .ge 40, 3) := by decide +kernel
theorem dX0_keepRest_35 : decode cX0_keepRest 35 = .ok (.aload_n 0, 1) := by decide +kernel
theorem dX0_keepRest_36 : decode cX0_keepRest 36 = .ok (.getfield 19, 3) := by decide +kernel
theorem dX0_keepRest_39 : decode cX0_keepRest 39 = .ok (.aload_n 0, 1) := by decide +kernel
theorem dX0_keepRest_40 : decode cX0_keepRest 40 = .ok (.getfield 26, 3) := by decide +kernel
theorem dX0_keepRest_43 : decode cX0_keepRest 43 = .ok (.bipush 16, 2) := by decide +kernel
theorem dX0_keepRest_45 : decode cX0_keepRest 45 = .ok (.imul, 1) := by decide +kernel
theorem dX0_keepRest_46 : decode cX0_keepRest 46 = .ok (.iload_n 3, 1) := by decide +kernel
theorem dX0_keepRest_47 : decode cX0_keepRest 47 = .ok (.iadd, 1) := by decide +kernel
theorem dX0_keepRest_48 : decode cX0_keepRest 48 = .ok (.iload_n 2, 1) := by decide +kernel
theorem dX0_keepRest_49 : decode cX0_keepRest 49 = .ok (.aload_n 0, 1) := by decide +kernel
theorem dX0_keepRest_50 : decode cX0_keepRest 50 = .ok (.getfield 15, 3) := by decide +kernel
theorem dX0_keepRest_53 : decode cX0_keepRest 53 = .ok (.iload_n 1, 1) := by decide +kernel
theorem dX0_keepRest_54 : decode cX0_keepRest 54 = .ok (.bipush 32, 2) := by decide +kernel
theorem dX0_keepRest_56 : decode cX0_keepRest 56 = .ok (.imul, 1) := by decide +kernel
theorem dX0_keepRest_57 : decode cX0_keepRest 57 = .ok (.bipush 16, 2) := by decide +kernel
theorem dX0_keepRest_59 : decode cX0_keepRest 59 = .ok (.iadd, 1) := by decide +kernel
theorem dX0_keepRest_60 : decode cX0_keepRest 60 = .ok (.iload_n 3, 1) := by decide +kernel
theorem dX0_keepRest_61 : decode cX0_keepRest 61 = .ok (.iadd, 1) := by decide +kernel
theorem dX0_keepRest_62 : decode cX0_keepRest 62 = .ok (.laload, 1) := by decide +kernel
theorem dX0_keepRest_63 : decode cX0_keepRest 63 = .ok (.l2i, 1) := by decide +kernel
theorem dX0_keepRest_64 : decode cX0_keepRest 64 = .ok (.imul, 1) := by decide +kernel
theorem dX0_keepRest_65 : decode cX0_keepRest 65 = .ok (.iastore, 1) := by decide +kernel
theorem dX0_keepRest_66 : decode cX0_keepRest 66 = .ok (.iinc 3 1, 3) := by decide +kernel
theorem dX0_keepRest_69 : decode cX0_keepRest 69 = .ok (.goto (-42), 3) := by decide +kernel
theorem dX0_keepRest_72 : decode cX0_keepRest 72 = .ok (.aload_n 0, 1) := by decide +kernel
theorem dX0_keepRest_73 : decode cX0_keepRest 73 = .ok (.dup, 1) := by decide +kernel
theorem dX0_keepRest_74 : decode cX0_keepRest 74 = .ok (.getfield 26, 3) := by decide +kernel
theorem dX0_keepRest_77 : decode cX0_keepRest 77 = .ok (.iconst 1, 1) := by decide +kernel
theorem dX0_keepRest_78 : decode cX0_keepRest 78 = .ok (.iadd, 1) := by decide +kernel
theorem dX0_keepRest_79 : decode cX0_keepRest 79 = .ok (.putfield 26, 3) := by decide +kernel
theorem dX0_keepRest_82 : decode cX0_keepRest 82 = .ok (.iinc 1 1, 3) := by decide +kernel
theorem dX0_keepRest_85 : decode cX0_keepRest 85 = .ok (.goto (-83), 3) := by decide +kernel
theorem dX0_keepRest_88 : decode cX0_keepRest 88 = .ok (.return_, 1) := by decide +kernel
theorem dX0_signOf_0 : decode cX0_signOf 0 = .ok (.iconst 0, 1) := by decide +kernel
theorem dX0_signOf_1 : decode cX0_signOf 1 = .ok (.istore_n 2, 1) := by decide +kernel
theorem dX0_signOf_2 : decode cX0_signOf 2 = .ok (.iload_n 2, 1) := by decide +kernel
theorem dX0_signOf_3 : decode cX0_signOf 3 = .ok (.aload_n 0, 1) := by decide +kernel
theorem dX0_signOf_4 : decode cX0_signOf 4 = .ok (.getfield 22, 3) := by decide +kernel
theorem dX0_signOf_7 : decode cX0_signOf 7 = .ok (.if_icmp .ge 42, 3) := by decide +kernel
theorem dX0_signOf_10 : decode cX0_signOf 10 = .ok (.aload_n 0, 1) := by decide +kernel
theorem dX0_signOf_11 : decode cX0_signOf 11 = .ok (.getfield 15, 3) := by decide +kernel
theorem dX0_signOf_14 : decode cX0_signOf 14 = .ok (.iload_n 1, 1) := by decide +kernel
theorem dX0_signOf_15 : decode cX0_signOf 15 = .ok (.bipush 32, 2) := by decide +kernel
theorem dX0_signOf_17 : decode cX0_signOf 17 = .ok (.imul, 1) := by decide +kernel
theorem dX0_signOf_18 : decode cX0_signOf 18 = .ok (.bipush 16, 2) := by decide +kernel
theorem dX0_signOf_20 : decode cX0_signOf 20 = .ok (.iadd, 1) := by decide +kernel
theorem dX0_signOf_21 : decode cX0_signOf 21 = .ok (.iload_n 2, 1) := by decide +kernel
theorem dX0_signOf_22 : decode cX0_signOf 22 = .ok (.iadd, 1) := by decide +kernel
theorem dX0_signOf_23 : decode cX0_signOf 23 = .ok (.laload, 1) := by decide +kernel
theorem dX0_signOf_24 : decode cX0_signOf 24 = .ok (.lstore_n 3, 1) := by decide +kernel
theorem dX0_signOf_25 : decode cX0_signOf 25 = .ok (.lload_n 3, 1) := by decide +kernel
theorem dX0_signOf_26 : decode cX0_signOf 26 = .ok (.lconst 0, 1) := by decide +kernel
theorem dX0_signOf_27 : decode cX0_signOf 27 = .ok (.lcmp, 1) := by decide +kernel
theorem dX0_signOf_28 : decode cX0_signOf 28 = .ok (.ifCond .eq 15, 3) := by decide +kernel
theorem dX0_signOf_31 : decode cX0_signOf 31 = .ok (.lload_n 3, 1) := by decide +kernel
theorem dX0_signOf_32 : decode cX0_signOf 32 = .ok (.lconst 0, 1) := by decide +kernel
theorem dX0_signOf_33 : decode cX0_signOf 33 = .ok (.lcmp, 1) := by decide +kernel
theorem dX0_signOf_34 : decode cX0_signOf 34 = .ok (.ifCond .ge 7, 3) := by decide +kernel
theorem dX0_signOf_37 : decode cX0_signOf 37 = .ok (.iconst (-1), 1) := by decide +kernel
theorem dX0_signOf_38 : decode cX0_signOf 38 = .ok (.goto 4, 3) := by decide +kernel
theorem dX0_signOf_41 : decode cX0_signOf 41 = .ok (.iconst 1, 1) := by decide +kernel
theorem dX0_signOf_42 : decode cX0_signOf 42 = .ok (.ireturn, 1) := by decide +kernel
theorem dX0_signOf_43 : decode cX0_signOf 43 = .ok (.iinc 2 1, 3) := by decide +kernel
theorem dX0_signOf_46 : decode cX0_signOf 46 = .ok (.goto (-44), 3) := by decide +kernel
theorem dX0_signOf_49 : decode cX0_signOf 49 = .ok (.iconst 1, 1) := by decide +kernel
theorem dX0_signOf_50 : decode cX0_signOf 50 = .ok (.ireturn, 1) := by decide +kernel
theorem dX1_init_0 : decode cX1_init 0 = .ok (.aload_n 0, 1) := by decide +kernel
theorem dX1_init_1 : decode cX1_init 1 = .ok (.invokespecial 3, 3) := by decide +kernel
theorem dX1_init_4 : decode cX1_init 4 = .ok (.aload_n 0, 1) := by decide +kernel
theorem dX1_init_5 : decode cX1_init 5 = .ok (.new 9, 3) := by decide +kernel
theorem dX1_init_8 : decode cX1_init 8 = .ok (.dup, 1) := by decide +kernel
theorem dX1_init_9 : decode cX1_init 9 = .ok (.sipush 8000, 3) := by decide +kernel
theorem dX1_init_12 : decode cX1_init 12 = .ok (.invokespecial 11, 3) := by decide +kernel
theorem dX1_init_15 : decode cX1_init 15 = .ok (.putfield 14, 3) := by decide +kernel
theorem dX1_init_18 : decode cX1_init 18 = .ok (.aload_n 0, 1) := by decide +kernel
theorem dX1_init_19 : decode cX1_init 19 = .ok (.new 20, 3) := by decide +kernel
theorem dX1_init_22 : decode cX1_init 22 = .ok (.dup, 1) := by decide +kernel
theorem dX1_init_23 : decode cX1_init 23 = .ok (.invokespecial 22, 3) := by decide +kernel
theorem dX1_init_26 : decode cX1_init 26 = .ok (.putfield 23, 3) := by decide +kernel
theorem dX1_init_29 : decode cX1_init 29 = .ok (.aload_n 0, 1) := by decide +kernel
theorem dX1_init_30 : decode cX1_init 30 = .ok (.new 20, 3) := by decide +kernel
theorem dX1_init_33 : decode cX1_init 33 = .ok (.dup, 1) := by decide +kernel
theorem dX1_init_34 : decode cX1_init 34 = .ok (.invokespecial 22, 3) := by decide +kernel
theorem dX1_init_37 : decode cX1_init 37 = .ok (.putfield 27, 3) := by decide +kernel
theorem dX1_init_40 : decode cX1_init 40 = .ok (.aload_n 0, 1) := by decide +kernel
theorem dX1_init_41 : decode cX1_init 41 = .ok (.ldc 30, 2) := by decide +kernel
theorem dX1_init_43 : decode cX1_init 43 = .ok (.newarray .int, 2) := by decide +kernel
theorem dX1_init_45 : decode cX1_init 45 = .ok (.putfield 31, 3) := by decide +kernel
theorem dX1_init_48 : decode cX1_init 48 = .ok (.aload_n 0, 1) := by decide +kernel
theorem dX1_init_49 : decode cX1_init 49 = .ok (.sipush 8000, 3) := by decide +kernel
theorem dX1_init_52 : decode cX1_init 52 = .ok (.newarray .int, 2) := by decide +kernel
theorem dX1_init_54 : decode cX1_init 54 = .ok (.putfield 35, 3) := by decide +kernel
theorem dX1_init_57 : decode cX1_init 57 = .ok (.aload_n 0, 1) := by decide +kernel
theorem dX1_init_58 : decode cX1_init 58 = .ok (.ldc 30, 2) := by decide +kernel
theorem dX1_init_60 : decode cX1_init 60 = .ok (.newarray .int, 2) := by decide +kernel
theorem dX1_init_62 : decode cX1_init 62 = .ok (.putfield 38, 3) := by decide +kernel
theorem dX1_init_65 : decode cX1_init 65 = .ok (.aload_n 0, 1) := by decide +kernel
theorem dX1_init_66 : decode cX1_init 66 = .ok (.sipush 8000, 3) := by decide +kernel
theorem dX1_init_69 : decode cX1_init 69 = .ok (.newarray .int, 2) := by decide +kernel
theorem dX1_init_71 : decode cX1_init 71 = .ok (.putfield 41, 3) := by decide +kernel
theorem dX1_init_74 : decode cX1_init 74 = .ok (.aload_n 0, 1) := by decide +kernel
theorem dX1_init_75 : decode cX1_init 75 = .ok (.sipush 8000, 3) := by decide +kernel
theorem dX1_init_78 : decode cX1_init 78 = .ok (.newarray .int, 2) := by decide +kernel
theorem dX1_init_80 : decode cX1_init 80 = .ok (.putfield 44, 3) := by decide +kernel
theorem dX1_init_83 : decode cX1_init 83 = .ok (.aload_n 0, 1) := by decide +kernel
theorem dX1_init_84 : decode cX1_init 84 = .ok (.iconst 0, 1) := by decide +kernel
theorem dX1_init_85 : decode cX1_init 85 = .ok (.putfield 47, 3) := by decide +kernel
theorem dX1_init_88 : decode cX1_init 88 = .ok (.aload_n 0, 1) := by decide +kernel
theorem dX1_init_89 : decode cX1_init 89 = .ok (.iconst 0, 1) := by decide +kernel
theorem dX1_init_90 : decode cX1_init 90 = .ok (.putfield 51, 3) := by decide +kernel
theorem dX1_init_93 : decode cX1_init 93 = .ok (.aload_n 0, 1) := by decide +kernel
theorem dX1_init_94 : decode cX1_init 94 = .ok (.iconst 0, 1) := by decide +kernel
theorem dX1_init_95 : decode cX1_init 95 = .ok (.putfield 54, 3) := by decide +kernel
theorem dX1_init_98 : decode cX1_init 98 = .ok (.return_, 1) := by decide +kernel
theorem dX1_refusal_0 : decode cX1_refusal 0 = .ok (.aload_n 0, 1) := by decide +kernel
theorem dX1_refusal_1 : decode cX1_refusal 1 = .ok (.getfield 47, 3) := by decide +kernel
theorem dX1_refusal_4 : decode cX1_refusal 4 = .ok (.ifCond .ne 6, 3) := by decide +kernel
theorem dX1_refusal_7 : decode cX1_refusal 7 = .ok (.ldc 58, 2) := by decide +kernel
theorem dX1_refusal_9 : decode cX1_refusal 9 = .ok (.ireturn, 1) := by decide +kernel
theorem dX1_refusal_10 : decode cX1_refusal 10 = .ok (.iload_n 1, 1) := by decide +kernel
theorem dX1_refusal_11 : decode cX1_refusal 11 = .ok (.ifCond .lt 18, 3) := by decide +kernel
theorem dX1_refusal_14 : decode cX1_refusal 14 = .ok (.iload_n 1, 1) := by decide +kernel
theorem dX1_refusal_15 : decode cX1_refusal 15 = .ok (.aload_n 0, 1) := by decide +kernel
theorem dX1_refusal_16 : decode cX1_refusal 16 = .ok (.getfield 14, 3) := by decide +kernel
theorem dX1_refusal_19 : decode cX1_refusal 19 = .ok (.getfield 59, 3) := by decide +kernel
theorem dX1_refusal_22 : decode cX1_refusal 22 = .ok (.if_icmp .ge 7, 3) := by decide +kernel
theorem dX1_refusal_25 : decode cX1_refusal 25 = .ok (.iconst 0, 1) := by decide +kernel
theorem dX1_refusal_26 : decode cX1_refusal 26 = .ok (.goto 5, 3) := by decide +kernel
theorem dX1_refusal_29 : decode cX1_refusal 29 = .ok (.ldc 62, 2) := by decide +kernel
theorem dX1_refusal_31 : decode cX1_refusal 31 = .ok (.ireturn, 1) := by decide +kernel
theorem dX1_make_0 : decode cX1_make 0 = .ok (.aload_n 0, 1) := by decide +kernel
theorem dX1_make_1 : decode cX1_make 1 = .ok (.iconst 0, 1) := by decide +kernel
theorem dX1_make_2 : decode cX1_make 2 = .ok (.putfield 47, 3) := by decide +kernel
theorem dX1_make_5 : decode cX1_make 5 = .ok (.aload_n 0, 1) := by decide +kernel
theorem dX1_make_6 : decode cX1_make 6 = .ok (.iconst 0, 1) := by decide +kernel
theorem dX1_make_7 : decode cX1_make 7 = .ok (.putfield 51, 3) := by decide +kernel
theorem dX1_make_10 : decode cX1_make 10 = .ok (.aload_n 0, 1) := by decide +kernel
theorem dX1_make_11 : decode cX1_make 11 = .ok (.aload_n 1, 1) := by decide +kernel
theorem dX1_make_12 : decode cX1_make 12 = .ok (.getfield 63, 3) := by decide +kernel
theorem dX1_make_15 : decode cX1_make 15 = .ok (.putfield 54, 3) := by decide +kernel
theorem dX1_make_18 : decode cX1_make 18 = .ok (.aload_n 0, 1) := by decide +kernel
theorem dX1_make_19 : decode cX1_make 19 = .ok (.getfield 14, 3) := by decide +kernel
theorem dX1_make_22 : decode cX1_make 22 = .ok (.aload_n 1, 1) := by decide +kernel
theorem dX1_make_23 : decode cX1_make 23 = .ok (.getfield 66, 3) := by decide +kernel
theorem dX1_make_26 : decode cX1_make 26 = .ok (.invokevirtual 69, 3) := by decide +kernel
theorem dX1_make_29 : decode cX1_make 29 = .ok (.aload_n 0, 1) := by decide +kernel
theorem dX1_make_30 : decode cX1_make 30 = .ok (.getfield 14, 3) := by decide +kernel
theorem dX1_make_33 : decode cX1_make 33 = .ok (.aload_n 2, 1) := by decide +kernel
theorem dX1_make_34 : decode cX1_make 34 = .ok (.ldc 72, 2) := by decide +kernel
theorem dX1_make_36 : decode cX1_make 36 = .ok (.ldc 72, 2) := by decide +kernel
theorem dX1_make_38 : decode cX1_make 38 = .ok (.invokevirtual 73, 3) := by decide +kernel
theorem dX1_make_41 : decode cX1_make 41 = .ok (.iconst 0, 1) := by decide +kernel
theorem dX1_make_42 : decode cX1_make 42 = .ok (.istore 4, 2) := by decide +kernel
theorem dX1_make_44 : decode cX1_make 44 = .ok (.iload 4, 2) := by decide +kernel
theorem dX1_make_46 : decode cX1_make 46 = .ok (.aload_n 0, 1) := by decide +kernel
theorem dX1_make_47 : decode cX1_make 47 = .ok (.getfield 14, 3) := by decide +kernel
theorem dX1_make_50 : decode cX1_make 50 = .ok (.getfield 59, 3) := by decide +kernel
theorem dX1_make_53 : decode cX1_make 53 = .ok (.if_icmp .ge 28, 3) := by decide +kernel
theorem dX1_make_56 : decode cX1_make 56 = .ok (.iload 4, 2) := by decide +kernel
theorem dX1_make_58 : decode cX1_make 58 = .ok (.iload_n 3, 1) := by decide +kernel
theorem dX1_make_59 : decode cX1_make 59 = .ok (.if_icmp .ge 22, 3) := by decide +kernel
theorem dX1_make_62 : decode cX1_make 62 = .ok (.aload_n 0, 1) := by decide +kernel
theorem dX1_make_63 : decode cX1_make 63 = .ok (.aload_n 1, 1) := by decide +kernel
theorem dX1_make_64 : decode cX1_make 64 = .ok (.iload 4, 2) := by decide +kernel
theorem dX1_make_66 : decode cX1_make 66 = .ok (.iload_n 3, 1) := by decide +kernel
theorem dX1_make_67 : decode cX1_make 67 = .ok (.invokevirtual 77, 3) := by decide +kernel
theorem dX1_make_70 : decode cX1_make 70 = .ok (.ifCond .ne 5, 3) := by decide +kernel
theorem dX1_make_73 : decode cX1_make 73 = .ok (.iconst 0, 1) := by decide +kernel
theorem dX1_make_74 : decode cX1_make 74 = .ok (.ireturn, 1) := by decide +kernel
theorem dX1_make_75 : decode cX1_make 75 = .ok (.iinc 4 1, 3) := by decide +kernel
theorem dX1_make_78 : decode cX1_make 78 = .ok (.goto (-34), 3) := by decide +kernel
theorem dX1_make_81 : decode cX1_make 81 = .ok (.aload_n 0, 1) := by decide +kernel
theorem dX1_make_82 : decode cX1_make 82 = .ok (.iconst 1, 1) := by decide +kernel
theorem dX1_make_83 : decode cX1_make 83 = .ok (.putfield 47, 3) := by decide +kernel
theorem dX1_make_86 : decode cX1_make 86 = .ok (.iconst 1, 1) := by decide +kernel
theorem dX1_make_87 : decode cX1_make 87 = .ok (.ireturn, 1) := by decide +kernel
theorem dX1_follow_0 : decode cX1_follow 0 = .ok (.aload_n 0, 1) := by decide +kernel
theorem dX1_follow_1 : decode cX1_follow 1 = .ok (.getfield 14, 3) := by decide +kernel
theorem dX1_follow_4 : decode cX1_follow 4 = .ok (.iload_n 2, 1) := by decide +kernel
theorem dX1_follow_5 : decode cX1_follow 5 = .ok (.aload_n 0, 1) := by decide +kernel
theorem dX1_follow_6 : decode cX1_follow 6 = .ok (.getfield 23, 3) := by decide +kernel
theorem dX1_follow_9 : decode cX1_follow 9 = .ok (.invokevirtual 81, 3) := by decide +kernel
theorem dX1_follow_12 : decode cX1_follow 12 = .ok (.aload_n 1, 1) := by decide +kernel
theorem dX1_follow_13 : decode cX1_follow 13 = .ok (.aload_n 0, 1) := by decide +kernel
theorem dX1_follow_14 : decode cX1_follow 14 = .ok (.getfield 23, 3) := by decide +kernel
theorem dX1_follow_17 : decode cX1_follow 17 = .ok (.invokevirtual 85, 3) := by decide +kernel
theorem dX1_follow_20 : decode cX1_follow 20 = .ok (.istore 4, 2) := by decide +kernel
theorem dX1_follow_22 : decode cX1_follow 22 = .ok (.iconst 0, 1) := by decide +kernel
theorem dX1_follow_23 : decode cX1_follow 23 = .ok (.istore 5, 2) := by decide +kernel
theorem dX1_follow_25 : decode cX1_follow 25 = .ok (.iload 5, 2) := by decide +kernel
theorem dX1_follow_27 : decode cX1_follow 27 = .ok (.aload_n 0, 1) := by decide +kernel
theorem dX1_follow_28 : decode cX1_follow 28 = .ok (.getfield 54, 3) := by decide +kernel
theorem dX1_follow_31 : decode cX1_follow 31 = .ok (.if_icmp .ge 119, 3) := by decide +kernel
theorem dX1_follow_34 : decode cX1_follow 34 = .ok (.ldc 72, 2) := by decide +kernel
theorem dX1_follow_36 : decode cX1_follow 36 = .ok (.istore 6, 2) := by decide +kernel
theorem dX1_follow_38 : decode cX1_follow 38 = .ok (.aload_n 1, 1) := by decide +kernel
theorem dX1_follow_39 : decode cX1_follow 39 = .ok (.iload 4, 2) := by decide +kernel
theorem dX1_follow_41 : decode cX1_follow 41 = .ok (.aload_n 0, 1) := by decide +kernel
theorem dX1_follow_42 : decode cX1_follow 42 = .ok (.getfield 23, 3) := by decide +kernel
theorem dX1_follow_45 : decode cX1_follow 45 = .ok (.iload 5, 2) := by decide +kernel
theorem dX1_follow_47 : decode cX1_follow 47 = .ok (.invokevirtual 89, 3) := by decide +kernel
theorem dX1_follow_50 : decode cX1_follow 50 = .ok (.ifCond .eq 78, 3) := by decide +kernel
theorem dX1_follow_53 : decode cX1_follow 53 = .ok (.aload_n 0, 1) := by decide +kernel
theorem dX1_follow_54 : decode cX1_follow 54 = .ok (.getfield 27, 3) := by decide +kernel
theorem dX1_follow_57 : decode cX1_follow 57 = .ok (.aload_n 0, 1) := by decide +kernel
theorem dX1_follow_58 : decode cX1_follow 58 = .ok (.getfield 23, 3) := by decide +kernel
theorem dX1_follow_61 : decode cX1_follow 61 = .ok (.invokevirtual 93, 3) := by decide +kernel
theorem dX1_follow_64 : decode cX1_follow 64 = .ok (.aload_n 1, 1) := by decide +kernel
theorem dX1_follow_65 : decode cX1_follow 65 = .ok (.aload_n 0, 1) := by decide +kernel
theorem dX1_follow_66 : decode cX1_follow 66 = .ok (.getfield 27, 3) := by decide +kernel
theorem dX1_follow_69 : decode cX1_follow 69 = .ok (.iload 5, 2) := by decide +kernel
theorem dX1_follow_71 : decode cX1_follow 71 = .ok (.invokevirtual 97, 3) := by decide +kernel
theorem dX1_follow_74 : decode cX1_follow 74 = .ok (.aload_n 0, 1) := by decide +kernel
theorem dX1_follow_75 : decode cX1_follow 75 = .ok (.getfield 14, 3) := by decide +kernel
theorem dX1_follow_78 : decode cX1_follow 78 = .ok (.aload_n 0, 1) := by decide +kernel
theorem dX1_follow_79 : decode cX1_follow 79 = .ok (.getfield 27, 3) := by decide +kernel
theorem dX1_follow_82 : decode cX1_follow 82 = .ok (.invokevirtual 101, 3) := by decide +kernel
theorem dX1_follow_85 : decode cX1_follow 85 = .ok (.istore 6, 2) := by decide +kernel
theorem dX1_follow_87 : decode cX1_follow 87 = .ok (.iload 6, 2) := by decide +kernel
theorem dX1_follow_89 : decode cX1_follow 89 = .ok (.ifCond .ge 39, 3) := by decide +kernel
theorem dX1_follow_92 : decode cX1_follow 92 = .ok (.aload_n 0, 1) := by decide +kernel
theorem dX1_follow_93 : decode cX1_follow 93 = .ok (.getfield 14, 3) := by decide +kernel
theorem dX1_follow_96 : decode cX1_follow 96 = .ok (.getfield 59, 3) := by decide +kernel
theorem dX1_follow_99 : decode cX1_follow 99 = .ok (.iload_n 3, 1) := by decide +kernel
theorem dX1_follow_100 : decode cX1_follow 100 = .ok (.if_icmp .lt 5, 3) := by decide +kernel
theorem dX1_follow_103 : decode cX1_follow 103 = .ok (.iconst 0, 1) := by decide +kernel
theorem dX1_follow_104 : decode cX1_follow 104 = .ok (.ireturn, 1) := by decide +kernel
theorem dX1_follow_105 : decode cX1_follow 105 = .ok (.aload_n 0, 1) := by decide +kernel
theorem dX1_follow_106 : decode cX1_follow 106 = .ok (.getfield 14, 3) := by decide +kernel
theorem dX1_follow_109 : decode cX1_follow 109 = .ok (.getfield 59, 3) := by decide +kernel
theorem dX1_follow_112 : decode cX1_follow 112 = .ok (.istore 6, 2) := by decide +kernel
theorem dX1_follow_114 : decode cX1_follow 114 = .ok (.aload_n 0, 1) := by decide +kernel
theorem dX1_follow_115 : decode cX1_follow 115 = .ok (.getfield 14, 3) := by decide +kernel
theorem dX1_follow_118 : decode cX1_follow 118 = .ok (.aload_n 0, 1) := by decide +kernel
theorem dX1_follow_119 : decode cX1_follow 119 = .ok (.getfield 27, 3) := by decide +kernel
theorem dX1_follow_122 : decode cX1_follow 122 = .ok (.iload_n 2, 1) := by decide +kernel
theorem dX1_follow_123 : decode cX1_follow 123 = .ok (.iload 5, 2) := by decide +kernel
theorem dX1_follow_125 : decode cX1_follow 125 = .ok (.invokevirtual 73, 3) := by decide +kernel
theorem dX1_follow_128 : decode cX1_follow 128 = .ok (.aload_n 0, 1) := by decide +kernel
theorem dX1_follow_129 : decode cX1_follow 129 = .ok (.getfield 31, 3) := by decide +kernel
theorem dX1_follow_132 : decode cX1_follow 132 = .ok (.iload_n 2, 1) := by decide +kernel
theorem dX1_follow_133 : decode cX1_follow 133 = .ok (.aload_n 0, 1) := by decide +kernel
theorem dX1_follow_134 : decode cX1_follow 134 = .ok (.getfield 54, 3) := by decide +kernel
theorem dX1_follow_137 : decode cX1_follow 137 = .ok (.imul, 1) := by decide +kernel
theorem dX1_follow_138 : decode cX1_follow 138 = .ok (.iload 5, 2) := by decide +kernel
theorem dX1_follow_140 : decode cX1_follow 140 = .ok (.iadd, 1) := by decide +kernel
theorem dX1_follow_141 : decode cX1_follow 141 = .ok (.iload 6, 2) := by decide +kernel
theorem dX1_follow_143 : decode cX1_follow 143 = .ok (.iastore, 1) := by decide +kernel
theorem dX1_follow_144 : decode cX1_follow 144 = .ok (.iinc 5 1, 3) := by decide +kernel
theorem dX1_follow_147 : decode cX1_follow 147 = .ok (.goto (-122), 3) := by decide +kernel
theorem dX1_follow_150 : decode cX1_follow 150 = .ok (.iconst 1, 1) := by decide +kernel
theorem dX1_follow_151 : decode cX1_follow 151 = .ok (.ireturn, 1) := by decide +kernel
theorem dX1_leadsFrom_0 : decode cX1_leadsFrom 0 = .ok (.aload_n 0, 1) := by decide +kernel
theorem dX1_leadsFrom_1 : decode cX1_leadsFrom 1 = .ok (.getfield 31, 3) := by decide +kernel
theorem dX1_leadsFrom_4 : decode cX1_leadsFrom 4 = .ok (.iload_n 1, 1) := by decide +kernel
theorem dX1_leadsFrom_5 : decode cX1_leadsFrom 5 = .ok (.aload_n 0, 1) := by decide +kernel
theorem dX1_leadsFrom_6 : decode cX1_leadsFrom 6 = .ok (.getfield 54, 3) := by decide +kernel
theorem dX1_leadsFrom_9 : decode cX1_leadsFrom 9 = .ok (.imul, 1) := by decide +kernel
theorem dX1_leadsFrom_10 : decode cX1_leadsFrom 10 = .ok (.iload_n 2, 1) := by decide +kernel
theorem dX1_leadsFrom_11 : decode cX1_leadsFrom 11 = .ok (.iadd, 1) := by decide +kernel
theorem dX1_leadsFrom_12 : decode cX1_leadsFrom 12 = .ok (.iaload, 1) := by decide +kernel
theorem dX1_leadsFrom_13 : decode cX1_leadsFrom 13 = .ok (.ireturn, 1) := by decide +kernel
theorem dX1_deadOne_0 : decode cX1_deadOne 0 = .ok (.iconst 0, 1) := by decide +kernel
theorem dX1_deadOne_1 : decode cX1_deadOne 1 = .ok (.istore_n 2, 1) := by decide +kernel
theorem dX1_deadOne_2 : decode cX1_deadOne 2 = .ok (.iconst 0, 1) := by decide +kernel
theorem dX1_deadOne_3 : decode cX1_deadOne 3 = .ok (.istore_n 3, 1) := by decide +kernel
theorem dX1_deadOne_4 : decode cX1_deadOne 4 = .ok (.iload_n 3, 1) := by decide +kernel
theorem dX1_deadOne_5 : decode cX1_deadOne 5 = .ok (.aload_n 0, 1) := by decide +kernel
theorem dX1_deadOne_6 : decode cX1_deadOne 6 = .ok (.getfield 14, 3) := by decide +kernel
theorem dX1_deadOne_9 : decode cX1_deadOne 9 = .ok (.getfield 59, 3) := by decide +kernel
theorem dX1_deadOne_12 : decode cX1_deadOne 12 = .ok (.if_icmp .ge 27, 3) := by decide +kernel
theorem dX1_deadOne_15 : decode cX1_deadOne 15 = .ok (.aload_n 0, 1) := by decide +kernel
theorem dX1_deadOne_16 : decode cX1_deadOne 16 = .ok (.iload_n 3, 1) := by decide +kernel
theorem dX1_deadOne_17 : decode cX1_deadOne 17 = .ok (.invokevirtual 105, 3) := by decide +kernel
theorem dX1_deadOne_20 : decode cX1_deadOne 20 = .ok (.ifCond .eq 13, 3) := by decide +kernel
theorem dX1_deadOne_23 : decode cX1_deadOne 23 = .ok (.iload_n 2, 1) := by decide +kernel
theorem dX1_deadOne_24 : decode cX1_deadOne 24 = .ok (.iload_n 1, 1) := by decide +kernel
theorem dX1_deadOne_25 : decode cX1_deadOne 25 = .ok (.if_icmp .ne 5, 3) := by decide +kernel
theorem dX1_deadOne_28 : decode cX1_deadOne 28 = .ok (.iload_n 3, 1) := by decide +kernel
theorem dX1_deadOne_29 : decode cX1_deadOne 29 = .ok (.ireturn, 1) := by decide +kernel
theorem dX1_deadOne_30 : decode cX1_deadOne 30 = .ok (.iinc 2 1, 3) := by decide +kernel
theorem dX1_deadOne_33 : decode cX1_deadOne 33 = .ok (.iinc 3 1, 3) := by decide +kernel
theorem dX1_deadOne_36 : decode cX1_deadOne 36 = .ok (.goto (-32), 3) := by decide +kernel
theorem dX1_deadOne_39 : decode cX1_deadOne 39 = .ok (.ldc 72, 2) := by decide +kernel
theorem dX1_deadOne_41 : decode cX1_deadOne 41 = .ok (.ireturn, 1) := by decide +kernel
theorem dX1_isDeadAt_0 : decode cX1_isDeadAt 0 = .ok (.iconst 0, 1) := by decide +kernel
theorem dX1_isDeadAt_1 : decode cX1_isDeadAt 1 = .ok (.istore_n 2, 1) := by decide +kernel
theorem dX1_isDeadAt_2 : decode cX1_isDeadAt 2 = .ok (.iload_n 2, 1) := by decide +kernel
theorem dX1_isDeadAt_3 : decode cX1_isDeadAt 3 = .ok (.aload_n 0, 1) := by decide +kernel
theorem dX1_isDeadAt_4 : decode cX1_isDeadAt 4 = .ok (.getfield 54, 3) := by decide +kernel
theorem dX1_isDeadAt_7 : decode cX1_isDeadAt 7 = .ok (.if_icmp .ge 20, 3) := by decide +kernel
theorem dX1_isDeadAt_10 : decode cX1_isDeadAt 10 = .ok (.aload_n 0, 1) := by decide +kernel
theorem dX1_isDeadAt_11 : decode cX1_isDeadAt 11 = .ok (.iload_n 1, 1) := by decide +kernel
theorem dX1_isDeadAt_12 : decode cX1_isDeadAt 12 = .ok (.iload_n 2, 1) := by decide +kernel
theorem dX1_isDeadAt_13 : decode cX1_isDeadAt 13 = .ok (.invokevirtual 109, 3) := by decide +kernel
theorem dX1_isDeadAt_16 : decode cX1_isDeadAt 16 = .ok (.ifCond .lt 5, 3) := by decide +kernel
theorem dX1_isDeadAt_19 : decode cX1_isDeadAt 19 = .ok (.iconst 0, 1) := by decide +kernel
theorem dX1_isDeadAt_20 : decode cX1_isDeadAt 20 = .ok (.ireturn, 1) := by decide +kernel
theorem dX1_isDeadAt_21 : decode cX1_isDeadAt 21 = .ok (.iinc 2 1, 3) := by decide +kernel
theorem dX1_isDeadAt_24 : decode cX1_isDeadAt 24 = .ok (.goto (-22), 3) := by decide +kernel
theorem dX1_isDeadAt_27 : decode cX1_isDeadAt 27 = .ok (.iconst 1, 1) := by decide +kernel
theorem dX1_isDeadAt_28 : decode cX1_isDeadAt 28 = .ok (.ireturn, 1) := by decide +kernel
theorem dX1_leastWithout_0 : decode cX1_leastWithout 0 = .ok (.aload_n 0, 1) := by decide +kernel
theorem dX1_leastWithout_1 : decode cX1_leastWithout 1 = .ok (.invokevirtual 113, 3) := by decide +kernel
theorem dX1_leastWithout_4 : decode cX1_leastWithout 4 = .ok (.iconst 0, 1) := by decide +kernel
theorem dX1_leastWithout_5 : decode cX1_leastWithout 5 = .ok (.istore_n 2, 1) := by decide +kernel
theorem dX1_leastWithout_6 : decode cX1_leastWithout 6 = .ok (.iconst 0, 1) := by decide +kernel
theorem dX1_leastWithout_7 : decode cX1_leastWithout 7 = .ok (.istore_n 3, 1) := by decide +kernel
theorem dX1_leastWithout_8 : decode cX1_leastWithout 8 = .ok (.iload_n 3, 1) := by decide +kernel
theorem dX1_leastWithout_9 : decode cX1_leastWithout 9 = .ok (.aload_n 0, 1) := by decide +kernel
theorem dX1_leastWithout_10 : decode cX1_leastWithout 10 = .ok (.getfield 14, 3) := by decide +kernel
theorem dX1_leastWithout_13 : decode cX1_leastWithout 13 = .ok (.getfield 59, 3) := by decide +kernel
theorem dX1_leastWithout_16 : decode cX1_leastWithout 16 = .ok (.if_icmp .ge 49, 3) := by decide +kernel
theorem dX1_leastWithout_19 : decode cX1_leastWithout 19 = .ok (.aload_n 0, 1) := by decide +kernel
theorem dX1_leastWithout_20 : decode cX1_leastWithout 20 = .ok (.getfield 44, 3) := by decide +kernel
theorem dX1_leastWithout_23 : decode cX1_leastWithout 23 = .ok (.iload_n 3, 1) := by decide +kernel
theorem dX1_leastWithout_24 : decode cX1_leastWithout 24 = .ok (.aload_n 0, 1) := by decide +kernel
theorem dX1_leastWithout_25 : decode cX1_leastWithout 25 = .ok (.iload_n 3, 1) := by decide +kernel
theorem dX1_leastWithout_26 : decode cX1_leastWithout 26 = .ok (.iload_n 1, 1) := by decide +kernel
theorem dX1_leastWithout_27 : decode cX1_leastWithout 27 = .ok (.invokevirtual 109, 3) := by decide +kernel
theorem dX1_leastWithout_30 : decode cX1_leastWithout 30 = .ok (.ifCond .lt 7, 3) := by decide +kernel
theorem dX1_leastWithout_33 : decode cX1_leastWithout 33 = .ok (.iconst 1, 1) := by decide +kernel
theorem dX1_leastWithout_34 : decode cX1_leastWithout 34 = .ok (.goto 4, 3) := by decide +kernel
theorem dX1_leastWithout_37 : decode cX1_leastWithout 37 = .ok (.iconst 0, 1) := by decide +kernel
theorem dX1_leastWithout_38 : decode cX1_leastWithout 38 = .ok (.iastore, 1) := by decide +kernel
theorem dX1_leastWithout_39 : decode cX1_leastWithout 39 = .ok (.aload_n 0, 1) := by decide +kernel
theorem dX1_leastWithout_40 : decode cX1_leastWithout 40 = .ok (.getfield 44, 3) := by decide +kernel
theorem dX1_leastWithout_43 : decode cX1_leastWithout 43 = .ok (.iload_n 3, 1) := by decide +kernel
theorem dX1_leastWithout_44 : decode cX1_leastWithout 44 = .ok (.iaload, 1) := by decide +kernel
theorem dX1_leastWithout_45 : decode cX1_leastWithout 45 = .ok (.iconst 1, 1) := by decide +kernel
theorem dX1_leastWithout_46 : decode cX1_leastWithout 46 = .ok (.if_icmp .ne 13, 3) := by decide +kernel
theorem dX1_leastWithout_49 : decode cX1_leastWithout 49 = .ok (.aload_n 0, 1) := by decide +kernel
theorem dX1_leastWithout_50 : decode cX1_leastWithout 50 = .ok (.getfield 41, 3) := by decide +kernel
theorem dX1_leastWithout_53 : decode cX1_leastWithout 53 = .ok (.iload_n 2, 1) := by decide +kernel
theorem dX1_leastWithout_54 : decode cX1_leastWithout 54 = .ok (.iload_n 3, 1) := by decide +kernel
theorem dX1_leastWithout_55 : decode cX1_leastWithout 55 = .ok (.iastore, 1) := by decide +kernel
theorem dX1_leastWithout_56 : decode cX1_leastWithout 56 = .ok (.iinc 2 1, 3) := by decide +kernel
theorem dX1_leastWithout_59 : decode cX1_leastWithout 59 = .ok (.iinc 3 1, 3) := by decide +kernel
theorem dX1_leastWithout_62 : decode cX1_leastWithout 62 = .ok (.goto (-54), 3) := by decide +kernel
theorem dX1_leastWithout_65 : decode cX1_leastWithout 65 = .ok (.aload_n 0, 1) := by decide +kernel
theorem dX1_leastWithout_66 : decode cX1_leastWithout 66 = .ok (.iload_n 2, 1) := by decide +kernel
theorem dX1_leastWithout_67 : decode cX1_leastWithout 67 = .ok (.invokevirtual 116, 3) := by decide +kernel
theorem dX1_leastWithout_70 : decode cX1_leastWithout 70 = .ok (.ireturn, 1) := by decide +kernel
theorem dX1_leastAstray_0 : decode cX1_leastAstray 0 = .ok (.aload_n 0, 1) := by decide +kernel
theorem dX1_leastAstray_1 : decode cX1_leastAstray 1 = .ok (.invokevirtual 113, 3) := by decide +kernel
theorem dX1_leastAstray_4 : decode cX1_leastAstray 4 = .ok (.iconst 0, 1) := by decide +kernel
theorem dX1_leastAstray_5 : decode cX1_leastAstray 5 = .ok (.istore_n 2, 1) := by decide +kernel
theorem dX1_leastAstray_6 : decode cX1_leastAstray 6 = .ok (.iload_n 2, 1) := by decide +kernel
theorem dX1_leastAstray_7 : decode cX1_leastAstray 7 = .ok (.aload_n 0, 1) := by decide +kernel
theorem dX1_leastAstray_8 : decode cX1_leastAstray 8 = .ok (.getfield 14, 3) := by decide +kernel
theorem dX1_leastAstray_11 : decode cX1_leastAstray 11 = .ok (.getfield 59, 3) := by decide +kernel
theorem dX1_leastAstray_14 : decode cX1_leastAstray 14 = .ok (.if_icmp .ge 16, 3) := by decide +kernel
theorem dX1_leastAstray_17 : decode cX1_leastAstray 17 = .ok (.aload_n 0, 1) := by decide +kernel
theorem dX1_leastAstray_18 : decode cX1_leastAstray 18 = .ok (.getfield 44, 3) := by decide +kernel
theorem dX1_leastAstray_21 : decode cX1_leastAstray 21 = .ok (.iload_n 2, 1) := by decide +kernel
theorem dX1_leastAstray_22 : decode cX1_leastAstray 22 = .ok (.iconst 0, 1) := by decide +kernel
theorem dX1_leastAstray_23 : decode cX1_leastAstray 23 = .ok (.iastore, 1) := by decide +kernel
theorem dX1_leastAstray_24 : decode cX1_leastAstray 24 = .ok (.iinc 2 1, 3) := by decide +kernel
theorem dX1_leastAstray_27 : decode cX1_leastAstray 27 = .ok (.goto (-21), 3) := by decide +kernel
theorem dX1_leastAstray_30 : decode cX1_leastAstray 30 = .ok (.aload_n 0, 1) := by decide +kernel
theorem dX1_leastAstray_31 : decode cX1_leastAstray 31 = .ok (.getfield 44, 3) := by decide +kernel
theorem dX1_leastAstray_34 : decode cX1_leastAstray 34 = .ok (.iload_n 1, 1) := by decide +kernel
theorem dX1_leastAstray_35 : decode cX1_leastAstray 35 = .ok (.iconst 1, 1) := by decide +kernel
theorem dX1_leastAstray_36 : decode cX1_leastAstray 36 = .ok (.iastore, 1) := by decide +kernel
theorem dX1_leastAstray_37 : decode cX1_leastAstray 37 = .ok (.aload_n 0, 1) := by decide +kernel
theorem dX1_leastAstray_38 : decode cX1_leastAstray 38 = .ok (.getfield 41, 3) := by decide +kernel
theorem dX1_leastAstray_41 : decode cX1_leastAstray 41 = .ok (.iconst 0, 1) := by decide +kernel
theorem dX1_leastAstray_42 : decode cX1_leastAstray 42 = .ok (.iload_n 1, 1) := by decide +kernel
theorem dX1_leastAstray_43 : decode cX1_leastAstray 43 = .ok (.iastore, 1) := by decide +kernel
theorem dX1_leastAstray_44 : decode cX1_leastAstray 44 = .ok (.aload_n 0, 1) := by decide +kernel
theorem dX1_leastAstray_45 : decode cX1_leastAstray 45 = .ok (.iconst 1, 1) := by decide +kernel
theorem dX1_leastAstray_46 : decode cX1_leastAstray 46 = .ok (.invokevirtual 116, 3) := by decide +kernel
theorem dX1_leastAstray_49 : decode cX1_leastAstray 49 = .ok (.ireturn, 1) := by decide +kernel
theorem dX1_turnRound_0 : decode cX1_turnRound 0 = .ok (.aload_n 0, 1) := by decide +kernel
theorem dX1_turnRound_1 : decode cX1_turnRound 1 = .ok (.getfield 51, 3) := by decide +kernel
theorem dX1_turnRound_4 : decode cX1_turnRound 4 = .ok (.ifCond .eq 4, 3) := by decide +kernel
theorem dX1_turnRound_7 : decode cX1_turnRound 7 = .ok (.return_, 1) := by decide +kernel
theorem dX1_turnRound_8 : decode cX1_turnRound 8 = .ok (.iconst 0, 1) := by decide +kernel
theorem dX1_turnRound_9 : decode cX1_turnRound 9 = .ok (.istore_n 1, 1) := by decide +kernel
theorem dX1_turnRound_10 : decode cX1_turnRound 10 = .ok (.iload_n 1, 1) := by decide +kernel
theorem dX1_turnRound_11 : decode cX1_turnRound 11 = .ok (.aload_n 0, 1) := by decide +kernel
theorem dX1_turnRound_12 : decode cX1_turnRound 12 = .ok (.getfield 14, 3) := by decide +kernel
theorem dX1_turnRound_15 : decode cX1_turnRound 15 = .ok (.getfield 59, 3) := by decide +kernel
theorem dX1_turnRound_18 : decode cX1_turnRound 18 = .ok (.if_icmp .ge 16, 3) := by decide +kernel
theorem dX1_turnRound_21 : decode cX1_turnRound 21 = .ok (.aload_n 0, 1) := by decide +kernel
theorem dX1_turnRound_22 : decode cX1_turnRound 22 = .ok (.getfield 35, 3) := by decide +kernel
theorem dX1_turnRound_25 : decode cX1_turnRound 25 = .ok (.iload_n 1, 1) := by decide +kernel
theorem dX1_turnRound_26 : decode cX1_turnRound 26 = .ok (.iconst (-1), 1) := by decide +kernel
theorem dX1_turnRound_27 : decode cX1_turnRound 27 = .ok (.iastore, 1) := by decide +kernel
theorem dX1_turnRound_28 : decode cX1_turnRound 28 = .ok (.iinc 1 1, 3) := by decide +kernel
theorem dX1_turnRound_31 : decode cX1_turnRound 31 = .ok (.goto (-21), 3) := by decide +kernel
theorem dX1_turnRound_34 : decode cX1_turnRound 34 = .ok (.iconst 0, 1) := by decide +kernel
theorem dX1_turnRound_35 : decode cX1_turnRound 35 = .ok (.istore_n 1, 1) := by decide +kernel
theorem dX1_turnRound_36 : decode cX1_turnRound 36 = .ok (.iload_n 1, 1) := by decide +kernel
theorem dX1_turnRound_37 : decode cX1_turnRound 37 = .ok (.aload_n 0, 1) := by decide +kernel
theorem dX1_turnRound_38 : decode cX1_turnRound 38 = .ok (.getfield 14, 3) := by decide +kernel
theorem dX1_turnRound_41 : decode cX1_turnRound 41 = .ok (.getfield 59, 3) := by decide +kernel
theorem dX1_turnRound_44 : decode cX1_turnRound 44 = .ok (.aload_n 0, 1) := by decide +kernel
theorem dX1_turnRound_45 : decode cX1_turnRound 45 = .ok (.getfield 54, 3) := by decide +kernel
theorem dX1_turnRound_48 : decode cX1_turnRound 48 = .ok (.imul, 1) := by decide +kernel
theorem dX1_turnRound_49 : decode cX1_turnRound 49 = .ok (.if_icmp .ge 47, 3) := by decide +kernel
theorem dX1_turnRound_52 : decode cX1_turnRound 52 = .ok (.aload_n 0, 1) := by decide +kernel
theorem dX1_turnRound_53 : decode cX1_turnRound 53 = .ok (.getfield 31, 3) := by decide +kernel
theorem dX1_turnRound_56 : decode cX1_turnRound 56 = .ok (.iload_n 1, 1) := by decide +kernel
theorem dX1_turnRound_57 : decode cX1_turnRound 57 = .ok (.iaload, 1) := by decide +kernel
theorem dX1_turnRound_58 : decode cX1_turnRound 58 = .ok (.ifCond .lt 32, 3) := by decide +kernel
theorem dX1_turnRound_61 : decode cX1_turnRound 61 = .ok (.aload_n 0, 1) := by decide +kernel
theorem dX1_turnRound_62 : decode cX1_turnRound 62 = .ok (.getfield 38, 3) := by decide +kernel
theorem dX1_turnRound_65 : decode cX1_turnRound 65 = .ok (.iload_n 1, 1) := by decide +kernel
theorem dX1_turnRound_66 : decode cX1_turnRound 66 = .ok (.aload_n 0, 1) := by decide +kernel
theorem dX1_turnRound_67 : decode cX1_turnRound 67 = .ok (.getfield 35, 3) := by decide +kernel
theorem dX1_turnRound_70 : decode cX1_turnRound 70 = .ok (.aload_n 0, 1) := by decide +kernel
theorem dX1_turnRound_71 : decode cX1_turnRound 71 = .ok (.getfield 31, 3) := by decide +kernel
theorem dX1_turnRound_74 : decode cX1_turnRound 74 = .ok (.iload_n 1, 1) := by decide +kernel
theorem dX1_turnRound_75 : decode cX1_turnRound 75 = .ok (.iaload, 1) := by decide +kernel
theorem dX1_turnRound_76 : decode cX1_turnRound 76 = .ok (.iaload, 1) := by decide +kernel
theorem dX1_turnRound_77 : decode cX1_turnRound 77 = .ok (.iastore, 1) := by decide +kernel
theorem dX1_turnRound_78 : decode cX1_turnRound 78 = .ok (.aload_n 0, 1) := by decide +kernel
theorem dX1_turnRound_79 : decode cX1_turnRound 79 = .ok (.getfield 35, 3) := by decide +kernel
theorem dX1_turnRound_82 : decode cX1_turnRound 82 = .ok (.aload_n 0, 1) := by decide +kernel
theorem dX1_turnRound_83 : decode cX1_turnRound 83 = .ok (.getfield 31, 3) := by decide +kernel
theorem dX1_turnRound_86 : decode cX1_turnRound 86 = .ok (.iload_n 1, 1) := by decide +kernel
theorem dX1_turnRound_87 : decode cX1_turnRound 87 = .ok (.iaload, 1) := by decide +kernel
theorem dX1_turnRound_88 : decode cX1_turnRound 88 = .ok (.iload_n 1, 1) := by decide +kernel
theorem dX1_turnRound_89 : decode cX1_turnRound 89 = .ok (.iastore, 1) := by decide +kernel
theorem dX1_turnRound_90 : decode cX1_turnRound 90 = .ok (.iinc 1 1, 3) := by decide +kernel
theorem dX1_turnRound_93 : decode cX1_turnRound 93 = .ok (.goto (-57), 3) := by decide +kernel
theorem dX1_turnRound_96 : decode cX1_turnRound 96 = .ok (.aload_n 0, 1) := by decide +kernel
theorem dX1_turnRound_97 : decode cX1_turnRound 97 = .ok (.iconst 1, 1) := by decide +kernel
theorem dX1_turnRound_98 : decode cX1_turnRound 98 = .ok (.putfield 51, 3) := by decide +kernel
theorem dX1_turnRound_101 : decode cX1_turnRound 101 = .ok (.return_, 1) := by decide +kernel
theorem dX1_leastNotLeading_0 : decode cX1_leastNotLeading 0 = .ok (.iload_n 1, 1) := by decide +kernel
theorem dX1_leastNotLeading_1 : decode cX1_leastNotLeading 1 = .ok (.istore_n 2, 1) := by decide +kernel
theorem dX1_leastNotLeading_2 : decode cX1_leastNotLeading 2 = .ok (.iconst 0, 1) := by decide +kernel
theorem dX1_leastNotLeading_3 : decode cX1_leastNotLeading 3 = .ok (.istore_n 3, 1) := by decide +kernel
theorem dX1_leastNotLeading_4 : decode cX1_leastNotLeading 4 = .ok (.iload_n 3, 1) := by decide +kernel
theorem dX1_leastNotLeading_5 : decode cX1_leastNotLeading 5 = .ok (.iload_n 2, 1) := by decide +kernel
theorem dX1_leastNotLeading_6 : decode cX1_leastNotLeading 6 = .ok (.if_icmp .ge 32, 3) := by decide +kernel
theorem dX1_leastNotLeading_9 : decode cX1_leastNotLeading 9 = .ok (.iload_n 3, 1) := by decide +kernel
theorem dX1_leastNotLeading_10 : decode cX1_leastNotLeading 10 = .ok (.aload_n 0, 1) := by decide +kernel
theorem dX1_leastNotLeading_11 : decode cX1_leastNotLeading 11 = .ok (.getfield 14, 3) := by decide +kernel
theorem dX1_leastNotLeading_14 : decode cX1_leastNotLeading 14 = .ok (.getfield 59, 3) := by decide +kernel
theorem dX1_leastNotLeading_17 : decode cX1_leastNotLeading 17 = .ok (.if_icmp .ge 21, 3) := by decide +kernel
theorem dX1_leastNotLeading_20 : decode cX1_leastNotLeading 20 = .ok (.aload_n 0, 1) := by decide +kernel
theorem dX1_leastNotLeading_21 : decode cX1_leastNotLeading 21 = .ok (.aload_n 0, 1) := by decide +kernel
theorem dX1_leastNotLeading_22 : decode cX1_leastNotLeading 22 = .ok (.getfield 41, 3) := by decide +kernel
theorem dX1_leastNotLeading_25 : decode cX1_leastNotLeading 25 = .ok (.iload_n 3, 1) := by decide +kernel
theorem dX1_leastNotLeading_26 : decode cX1_leastNotLeading 26 = .ok (.iaload, 1) := by decide +kernel
theorem dX1_leastNotLeading_27 : decode cX1_leastNotLeading 27 = .ok (.iload_n 2, 1) := by decide +kernel
theorem dX1_leastNotLeading_28 : decode cX1_leastNotLeading 28 = .ok (.invokevirtual 120, 3) := by decide +kernel
theorem dX1_leastNotLeading_31 : decode cX1_leastNotLeading 31 = .ok (.istore_n 2, 1) := by decide +kernel
theorem dX1_leastNotLeading_32 : decode cX1_leastNotLeading 32 = .ok (.iinc 3 1, 3) := by decide +kernel
theorem dX1_leastNotLeading_35 : decode cX1_leastNotLeading 35 = .ok (.goto (-31), 3) := by decide +kernel
theorem dX1_leastNotLeading_38 : decode cX1_leastNotLeading 38 = .ok (.iconst 0, 1) := by decide +kernel
theorem dX1_leastNotLeading_39 : decode cX1_leastNotLeading 39 = .ok (.istore_n 3, 1) := by decide +kernel
theorem dX1_leastNotLeading_40 : decode cX1_leastNotLeading 40 = .ok (.iload_n 3, 1) := by decide +kernel
theorem dX1_leastNotLeading_41 : decode cX1_leastNotLeading 41 = .ok (.aload_n 0, 1) := by decide +kernel
theorem dX1_leastNotLeading_42 : decode cX1_leastNotLeading 42 = .ok (.getfield 14, 3) := by decide +kernel
theorem dX1_leastNotLeading_45 : decode cX1_leastNotLeading 45 = .ok (.getfield 59, 3) := by decide +kernel
theorem dX1_leastNotLeading_48 : decode cX1_leastNotLeading 48 = .ok (.if_icmp .ge 20, 3) := by decide +kernel
theorem dX1_leastNotLeading_51 : decode cX1_leastNotLeading 51 = .ok (.aload_n 0, 1) := by decide +kernel
theorem dX1_leastNotLeading_52 : decode cX1_leastNotLeading 52 = .ok (.getfield 44, 3) := by decide +kernel
theorem dX1_leastNotLeading_55 : decode cX1_leastNotLeading 55 = .ok (.iload_n 3, 1) := by decide +kernel
theorem dX1_leastNotLeading_56 : decode cX1_leastNotLeading 56 = .ok (.iaload, 1) := by decide +kernel
theorem dX1_leastNotLeading_57 : decode cX1_leastNotLeading 57 = .ok (.ifCond .ne 5, 3) := by decide +kernel
theorem dX1_leastNotLeading_60 : decode cX1_leastNotLeading 60 = .ok (.iload_n 3, 1) := by decide +kernel
theorem dX1_leastNotLeading_61 : decode cX1_leastNotLeading 61 = .ok (.ireturn, 1) := by decide +kernel
theorem dX1_leastNotLeading_62 : decode cX1_leastNotLeading 62 = .ok (.iinc 3 1, 3) := by decide +kernel
theorem dX1_leastNotLeading_65 : decode cX1_leastNotLeading 65 = .ok (.goto (-25), 3) := by decide +kernel
theorem dX1_leastNotLeading_68 : decode cX1_leastNotLeading 68 = .ok (.ldc 72, 2) := by decide +kernel
theorem dX1_leastNotLeading_70 : decode cX1_leastNotLeading 70 = .ok (.ireturn, 1) := by decide +kernel
theorem dX1_queueThoseBefore_0 : decode cX1_queueThoseBefore 0 = .ok (.iload_n 2, 1) := by decide +kernel
theorem dX1_queueThoseBefore_1 : decode cX1_queueThoseBefore 1 = .ok (.istore_n 3, 1) := by decide +kernel
theorem dX1_queueThoseBefore_2 : decode cX1_queueThoseBefore 2 = .ok (.aload_n 0, 1) := by decide +kernel
theorem dX1_queueThoseBefore_3 : decode cX1_queueThoseBefore 3 = .ok (.getfield 35, 3) := by decide +kernel
theorem dX1_queueThoseBefore_6 : decode cX1_queueThoseBefore 6 = .ok (.iload_n 1, 1) := by decide +kernel
theorem dX1_queueThoseBefore_7 : decode cX1_queueThoseBefore 7 = .ok (.iaload, 1) := by decide +kernel
theorem dX1_queueThoseBefore_8 : decode cX1_queueThoseBefore 8 = .ok (.istore 4, 2) := by decide +kernel
theorem dX1_queueThoseBefore_10 : decode cX1_queueThoseBefore 10 = .ok (.aload_n 0, 1) := by decide +kernel
theorem dX1_queueThoseBefore_11 : decode cX1_queueThoseBefore 11 = .ok (.getfield 14, 3) := by decide +kernel
theorem dX1_queueThoseBefore_14 : decode cX1_queueThoseBefore 14 = .ok (.getfield 59, 3) := by decide +kernel
theorem dX1_queueThoseBefore_17 : decode cX1_queueThoseBefore 17 = .ok (.aload_n 0, 1) := by decide +kernel
theorem dX1_queueThoseBefore_18 : decode cX1_queueThoseBefore 18 = .ok (.getfield 54, 3) := by decide +kernel
theorem dX1_queueThoseBefore_21 : decode cX1_queueThoseBefore 21 = .ok (.imul, 1) := by decide +kernel
theorem dX1_queueThoseBefore_22 : decode cX1_queueThoseBefore 22 = .ok (.istore 5, 2) := by decide +kernel
theorem dX1_queueThoseBefore_24 : decode cX1_queueThoseBefore 24 = .ok (.iload 5, 2) := by decide +kernel
theorem dX1_queueThoseBefore_26 : decode cX1_queueThoseBefore 26 = .ok (.ifCond .le 72, 3) := by decide +kernel
theorem dX1_queueThoseBefore_29 : decode cX1_queueThoseBefore 29 = .ok (.iload 4, 2) := by decide +kernel
theorem dX1_queueThoseBefore_31 : decode cX1_queueThoseBefore 31 = .ok (.ifCond .lt 67, 3) := by decide +kernel
theorem dX1_queueThoseBefore_34 : decode cX1_queueThoseBefore 34 = .ok (.aload_n 0, 1) := by decide +kernel
theorem dX1_queueThoseBefore_35 : decode cX1_queueThoseBefore 35 = .ok (.getfield 54, 3) := by decide +kernel
theorem dX1_queueThoseBefore_38 : decode cX1_queueThoseBefore 38 = .ok (.ifCond .le 13, 3) := by decide +kernel
theorem dX1_queueThoseBefore_41 : decode cX1_queueThoseBefore 41 = .ok (.iload 4, 2) := by decide +kernel
theorem dX1_queueThoseBefore_43 : decode cX1_queueThoseBefore 43 = .ok (.aload_n 0, 1) := by decide +kernel
theorem dX1_queueThoseBefore_44 : decode cX1_queueThoseBefore 44 = .ok (.getfield 54, 3) := by decide +kernel
theorem dX1_queueThoseBefore_47 : decode cX1_queueThoseBefore 47 = .ok (.idiv, 1) := by decide +kernel
theorem dX1_queueThoseBefore_48 : decode cX1_queueThoseBefore 48 = .ok (.goto 4, 3) := by decide +kernel
theorem dX1_queueThoseBefore_51 : decode cX1_queueThoseBefore 51 = .ok (.iconst 0, 1) := by decide +kernel
theorem dX1_queueThoseBefore_52 : decode cX1_queueThoseBefore 52 = .ok (.istore 6, 2) := by decide +kernel
theorem dX1_queueThoseBefore_54 : decode cX1_queueThoseBefore 54 = .ok (.aload_n 0, 1) := by decide +kernel
theorem dX1_queueThoseBefore_55 : decode cX1_queueThoseBefore 55 = .ok (.getfield 44, 3) := by decide +kernel
theorem dX1_queueThoseBefore_58 : decode cX1_queueThoseBefore 58 = .ok (.iload 6, 2) := by decide +kernel
theorem dX1_queueThoseBefore_60 : decode cX1_queueThoseBefore 60 = .ok (.iaload, 1) := by decide +kernel
theorem dX1_queueThoseBefore_61 : decode cX1_queueThoseBefore 61 = .ok (.ifCond .ne 22, 3) := by decide +kernel
theorem dX1_queueThoseBefore_64 : decode cX1_queueThoseBefore 64 = .ok (.aload_n 0, 1) := by decide +kernel
theorem dX1_queueThoseBefore_65 : decode cX1_queueThoseBefore 65 = .ok (.getfield 44, 3) := by decide +kernel
theorem dX1_queueThoseBefore_68 : decode cX1_queueThoseBefore 68 = .ok (.iload 6, 2) := by decide +kernel
theorem dX1_queueThoseBefore_70 : decode cX1_queueThoseBefore 70 = .ok (.iconst 1, 1) := by decide +kernel
theorem dX1_queueThoseBefore_71 : decode cX1_queueThoseBefore 71 = .ok (.iastore, 1) := by decide +kernel
theorem dX1_queueThoseBefore_72 : decode cX1_queueThoseBefore 72 = .ok (.aload_n 0, 1) := by decide +kernel
theorem dX1_queueThoseBefore_73 : decode cX1_queueThoseBefore 73 = .ok (.getfield 41, 3) := by decide +kernel
theorem dX1_queueThoseBefore_76 : decode cX1_queueThoseBefore 76 = .ok (.iload_n 3, 1) := by decide +kernel
theorem dX1_queueThoseBefore_77 : decode cX1_queueThoseBefore 77 = .ok (.iload 6, 2) := by decide +kernel
theorem dX1_queueThoseBefore_79 : decode cX1_queueThoseBefore 79 = .ok (.iastore, 1) := by decide +kernel
theorem dX1_queueThoseBefore_80 : decode cX1_queueThoseBefore 80 = .ok (.iinc 3 1, 3) := by decide +kernel
theorem dX1_queueThoseBefore_83 : decode cX1_queueThoseBefore 83 = .ok (.aload_n 0, 1) := by decide +kernel
theorem dX1_queueThoseBefore_84 : decode cX1_queueThoseBefore 84 = .ok (.getfield 38, 3) := by decide +kernel
theorem dX1_queueThoseBefore_87 : decode cX1_queueThoseBefore 87 = .ok (.iload 4, 2) := by decide +kernel
theorem dX1_queueThoseBefore_89 : decode cX1_queueThoseBefore 89 = .ok (.iaload, 1) := by decide +kernel
theorem dX1_queueThoseBefore_90 : decode cX1_queueThoseBefore 90 = .ok (.istore 4, 2) := by decide +kernel
theorem dX1_queueThoseBefore_92 : decode cX1_queueThoseBefore 92 = .ok (.iinc 5 (-1), 3) := by decide +kernel
theorem dX1_queueThoseBefore_95 : decode cX1_queueThoseBefore 95 = .ok (.goto (-71), 3) := by decide +kernel
theorem dX1_queueThoseBefore_98 : decode cX1_queueThoseBefore 98 = .ok (.iload_n 3, 1) := by decide +kernel
theorem dX1_queueThoseBefore_99 : decode cX1_queueThoseBefore 99 = .ok (.ireturn, 1) := by decide +kernel
theorem dX1_leastOtherWith_0 : decode cX1_leastOtherWith 0 = .ok (.iconst 0, 1) := by decide +kernel
theorem dX1_leastOtherWith_1 : decode cX1_leastOtherWith 1 = .ok (.istore_n 3, 1) := by decide +kernel
theorem dX1_leastOtherWith_2 : decode cX1_leastOtherWith 2 = .ok (.iload_n 3, 1) := by decide +kernel
theorem dX1_leastOtherWith_3 : decode cX1_leastOtherWith 3 = .ok (.aload_n 0, 1) := by decide +kernel
theorem dX1_leastOtherWith_4 : decode cX1_leastOtherWith 4 = .ok (.getfield 14, 3) := by decide +kernel
theorem dX1_leastOtherWith_7 : decode cX1_leastOtherWith 7 = .ok (.getfield 59, 3) := by decide +kernel
theorem dX1_leastOtherWith_10 : decode cX1_leastOtherWith 10 = .ok (.if_icmp .ge 28, 3) := by decide +kernel
theorem dX1_leastOtherWith_13 : decode cX1_leastOtherWith 13 = .ok (.iload_n 3, 1) := by decide +kernel
theorem dX1_leastOtherWith_14 : decode cX1_leastOtherWith 14 = .ok (.iload_n 2, 1) := by decide +kernel
theorem dX1_leastOtherWith_15 : decode cX1_leastOtherWith 15 = .ok (.if_icmp .eq 17, 3) := by decide +kernel
theorem dX1_leastOtherWith_18 : decode cX1_leastOtherWith 18 = .ok (.aload_n 0, 1) := by decide +kernel
theorem dX1_leastOtherWith_19 : decode cX1_leastOtherWith 19 = .ok (.getfield 14, 3) := by decide +kernel
theorem dX1_leastOtherWith_22 : decode cX1_leastOtherWith 22 = .ok (.iload_n 3, 1) := by decide +kernel
theorem dX1_leastOtherWith_23 : decode cX1_leastOtherWith 23 = .ok (.iload_n 1, 1) := by decide +kernel
theorem dX1_leastOtherWith_24 : decode cX1_leastOtherWith 24 = .ok (.invokevirtual 123, 3) := by decide +kernel
theorem dX1_leastOtherWith_27 : decode cX1_leastOtherWith 27 = .ok (.ifCond .le 5, 3) := by decide +kernel
theorem dX1_leastOtherWith_30 : decode cX1_leastOtherWith 30 = .ok (.iload_n 3, 1) := by decide +kernel
theorem dX1_leastOtherWith_31 : decode cX1_leastOtherWith 31 = .ok (.ireturn, 1) := by decide +kernel
theorem dX1_leastOtherWith_32 : decode cX1_leastOtherWith 32 = .ok (.iinc 3 1, 3) := by decide +kernel
theorem dX1_leastOtherWith_35 : decode cX1_leastOtherWith 35 = .ok (.goto (-33), 3) := by decide +kernel
theorem dX1_leastOtherWith_38 : decode cX1_leastOtherWith 38 = .ok (.ldc 72, 2) := by decide +kernel
theorem dX1_leastOtherWith_40 : decode cX1_leastOtherWith 40 = .ok (.ireturn, 1) := by decide +kernel
theorem dX1_leastIdleStep_0 : decode cX1_leastIdleStep 0 = .ok (.iconst 0, 1) := by decide +kernel
theorem dX1_leastIdleStep_1 : decode cX1_leastIdleStep 1 = .ok (.istore_n 1, 1) := by decide +kernel
theorem dX1_leastIdleStep_2 : decode cX1_leastIdleStep 2 = .ok (.iload_n 1, 1) := by decide +kernel
theorem dX1_leastIdleStep_3 : decode cX1_leastIdleStep 3 = .ok (.aload_n 0, 1) := by decide +kernel
theorem dX1_leastIdleStep_4 : decode cX1_leastIdleStep 4 = .ok (.getfield 54, 3) := by decide +kernel
theorem dX1_leastIdleStep_7 : decode cX1_leastIdleStep 7 = .ok (.if_icmp .ge 19, 3) := by decide +kernel
theorem dX1_leastIdleStep_10 : decode cX1_leastIdleStep 10 = .ok (.aload_n 0, 1) := by decide +kernel
theorem dX1_leastIdleStep_11 : decode cX1_leastIdleStep 11 = .ok (.iload_n 1, 1) := by decide +kernel
theorem dX1_leastIdleStep_12 : decode cX1_leastIdleStep 12 = .ok (.invokevirtual 126, 3) := by decide +kernel
theorem dX1_leastIdleStep_15 : decode cX1_leastIdleStep 15 = .ok (.ifCond .eq 5, 3) := by decide +kernel
theorem dX1_leastIdleStep_18 : decode cX1_leastIdleStep 18 = .ok (.iload_n 1, 1) := by decide +kernel
theorem dX1_leastIdleStep_19 : decode cX1_leastIdleStep 19 = .ok (.ireturn, 1) := by decide +kernel
theorem dX1_leastIdleStep_20 : decode cX1_leastIdleStep 20 = .ok (.iinc 1 1, 3) := by decide +kernel
theorem dX1_leastIdleStep_23 : decode cX1_leastIdleStep 23 = .ok (.goto (-21), 3) := by decide +kernel
theorem dX1_leastIdleStep_26 : decode cX1_leastIdleStep 26 = .ok (.ldc 72, 2) := by decide +kernel
theorem dX1_leastIdleStep_28 : decode cX1_leastIdleStep 28 = .ok (.ireturn, 1) := by decide +kernel
theorem dX1_goesNowhere_0 : decode cX1_goesNowhere 0 = .ok (.iconst 0, 1) := by decide +kernel
theorem dX1_goesNowhere_1 : decode cX1_goesNowhere 1 = .ok (.istore_n 2, 1) := by decide +kernel
theorem dX1_goesNowhere_2 : decode cX1_goesNowhere 2 = .ok (.iload_n 2, 1) := by decide +kernel
theorem dX1_goesNowhere_3 : decode cX1_goesNowhere 3 = .ok (.aload_n 0, 1) := by decide +kernel
theorem dX1_goesNowhere_4 : decode cX1_goesNowhere 4 = .ok (.getfield 14, 3) := by decide +kernel
theorem dX1_goesNowhere_7 : decode cX1_goesNowhere 7 = .ok (.getfield 59, 3) := by decide +kernel
theorem dX1_goesNowhere_10 : decode cX1_goesNowhere 10 = .ok (.if_icmp .ge 20, 3) := by decide +kernel
theorem dX1_goesNowhere_13 : decode cX1_goesNowhere 13 = .ok (.aload_n 0, 1) := by decide +kernel
theorem dX1_goesNowhere_14 : decode cX1_goesNowhere 14 = .ok (.iload_n 2, 1) := by decide +kernel
theorem dX1_goesNowhere_15 : decode cX1_goesNowhere 15 = .ok (.iload_n 1, 1) := by decide +kernel
theorem dX1_goesNowhere_16 : decode cX1_goesNowhere 16 = .ok (.invokevirtual 109, 3) := by decide +kernel
theorem dX1_goesNowhere_19 : decode cX1_goesNowhere 19 = .ok (.ifCond .lt 5, 3) := by decide +kernel
theorem dX1_goesNowhere_22 : decode cX1_goesNowhere 22 = .ok (.iconst 0, 1) := by decide +kernel
theorem dX1_goesNowhere_23 : decode cX1_goesNowhere 23 = .ok (.ireturn, 1) := by decide +kernel
theorem dX1_goesNowhere_24 : decode cX1_goesNowhere 24 = .ok (.iinc 2 1, 3) := by decide +kernel
theorem dX1_goesNowhere_27 : decode cX1_goesNowhere 27 = .ok (.goto (-25), 3) := by decide +kernel
theorem dX1_goesNowhere_30 : decode cX1_goesNowhere 30 = .ok (.iconst 1, 1) := by decide +kernel
theorem dX1_goesNowhere_31 : decode cX1_goesNowhere 31 = .ok (.ireturn, 1) := by decide +kernel
theorem dX2_init_0 : decode cX2_init 0 = .ok (.aload_n 0, 1) := by decide +kernel
theorem dX2_init_1 : decode cX2_init 1 = .ok (.invokespecial 3, 3) := by decide +kernel
theorem dX2_init_4 : decode cX2_init 4 = .ok (.aload_n 0, 1) := by decide +kernel
theorem dX2_init_5 : decode cX2_init 5 = .ok (.bipush 16, 2) := by decide +kernel
theorem dX2_init_7 : decode cX2_init 7 = .ok (.newarray .int, 2) := by decide +kernel
theorem dX2_init_9 : decode cX2_init 9 = .ok (.putfield 9, 3) := by decide +kernel
theorem dX2_init_12 : decode cX2_init 12 = .ok (.aload_n 0, 1) := by decide +kernel
theorem dX2_init_13 : decode cX2_init 13 = .ok (.sipush 8000, 3) := by decide +kernel
theorem dX2_init_16 : decode cX2_init 16 = .ok (.newarray .int, 2) := by decide +kernel
theorem dX2_init_18 : decode cX2_init 18 = .ok (.putfield 15, 3) := by decide +kernel
theorem dX2_init_21 : decode cX2_init 21 = .ok (.aload_n 0, 1) := by decide +kernel
theorem dX2_init_22 : decode cX2_init 22 = .ok (.iconst 0, 1) := by decide +kernel
theorem dX2_init_23 : decode cX2_init 23 = .ok (.putfield 18, 3) := by decide +kernel
theorem dX2_init_26 : decode cX2_init 26 = .ok (.aload_n 0, 1) := by decide +kernel
theorem dX2_init_27 : decode cX2_init 27 = .ok (.iconst 0, 1) := by decide +kernel
theorem dX2_init_28 : decode cX2_init 28 = .ok (.putfield 22, 3) := by decide +kernel
theorem dX2_init_31 : decode cX2_init 31 = .ok (.return_, 1) := by decide +kernel
theorem dX2_hasNumber_0 : decode cX2_hasNumber 0 = .ok (.iload_n 1, 1) := by decide +kernel
theorem dX2_hasNumber_1 : decode cX2_hasNumber 1 = .ok (.ifCond .lt 15, 3) := by decide +kernel
theorem dX2_hasNumber_4 : decode cX2_hasNumber 4 = .ok (.iload_n 1, 1) := by decide +kernel
theorem dX2_hasNumber_5 : decode cX2_hasNumber 5 = .ok (.aload_n 0, 1) := by decide +kernel
theorem dX2_hasNumber_6 : decode cX2_hasNumber 6 = .ok (.getfield 18, 3) := by decide +kernel
theorem dX2_hasNumber_9 : decode cX2_hasNumber 9 = .ok (.if_icmp .ge 7, 3) := by decide +kernel
theorem dX2_hasNumber_12 : decode cX2_hasNumber 12 = .ok (.iconst 1, 1) := by decide +kernel
theorem dX2_hasNumber_13 : decode cX2_hasNumber 13 = .ok (.goto 4, 3) := by decide +kernel
theorem dX2_hasNumber_16 : decode cX2_hasNumber 16 = .ok (.iconst 0, 1) := by decide +kernel
theorem dX2_hasNumber_17 : decode cX2_hasNumber 17 = .ok (.ireturn, 1) := by decide +kernel
theorem dX2_hasStretch_0 : decode cX2_hasStretch 0 = .ok (.iload_n 1, 1) := by decide +kernel
theorem dX2_hasStretch_1 : decode cX2_hasStretch 1 = .ok (.ifCond .lt 25, 3) := by decide +kernel
theorem dX2_hasStretch_4 : decode cX2_hasStretch 4 = .ok (.iload_n 1, 1) := by decide +kernel
theorem dX2_hasStretch_5 : decode cX2_hasStretch 5 = .ok (.aload_n 0, 1) := by decide +kernel
theorem dX2_hasStretch_6 : decode cX2_hasStretch 6 = .ok (.getfield 18, 3) := by decide +kernel
theorem dX2_hasStretch_9 : decode cX2_hasStretch 9 = .ok (.if_icmp .gt 17, 3) := by decide +kernel
theorem dX2_hasStretch_12 : decode cX2_hasStretch 12 = .ok (.iload_n 2, 1) := by decide +kernel
theorem dX2_hasStretch_13 : decode cX2_hasStretch 13 = .ok (.aload_n 0, 1) := by decide +kernel
theorem dX2_hasStretch_14 : decode cX2_hasStretch 14 = .ok (.getfield 18, 3) := by decide +kernel
theorem dX2_hasStretch_17 : decode cX2_hasStretch 17 = .ok (.iload_n 1, 1) := by decide +kernel
theorem dX2_hasStretch_18 : decode cX2_hasStretch 18 = .ok (.isub, 1) := by decide +kernel
theorem dX2_hasStretch_19 : decode cX2_hasStretch 19 = .ok (.if_icmp .gt 7, 3) := by decide +kernel
theorem dX2_hasStretch_22 : decode cX2_hasStretch 22 = .ok (.iconst 1, 1) := by decide +kernel
theorem dX2_hasStretch_23 : decode cX2_hasStretch 23 = .ok (.goto 4, 3) := by decide +kernel
theorem dX2_hasStretch_26 : decode cX2_hasStretch 26 = .ok (.iconst 0, 1) := by decide +kernel
theorem dX2_hasStretch_27 : decode cX2_hasStretch 27 = .ok (.ireturn, 1) := by decide +kernel
theorem dX2_numberFor_0 : decode cX2_numberFor 0 = .ok (.aload_n 0, 1) := by decide +kernel
theorem dX2_numberFor_1 : decode cX2_numberFor 1 = .ok (.iload_n 1, 1) := by decide +kernel
theorem dX2_numberFor_2 : decode cX2_numberFor 2 = .ok (.invokevirtual 25, 3) := by decide +kernel
theorem dX2_numberFor_5 : decode cX2_numberFor 5 = .ok (.ifCond .eq 12, 3) := by decide +kernel
theorem dX2_numberFor_8 : decode cX2_numberFor 8 = .ok (.aload_n 0, 1) := by decide +kernel
theorem dX2_numberFor_9 : decode cX2_numberFor 9 = .ok (.getfield 9, 3) := by decide +kernel
theorem dX2_numberFor_12 : decode cX2_numberFor 12 = .ok (.iload_n 1, 1) := by decide +kernel
theorem dX2_numberFor_13 : decode cX2_numberFor 13 = .ok (.iaload, 1) := by decide +kernel
theorem dX2_numberFor_14 : decode cX2_numberFor 14 = .ok (.goto 4, 3) := by decide +kernel
theorem dX2_numberFor_17 : decode cX2_numberFor 17 = .ok (.iconst 0, 1) := by decide +kernel
theorem dX2_numberFor_18 : decode cX2_numberFor 18 = .ok (.ireturn, 1) := by decide +kernel
theorem dX2_layBehind_0 : decode cX2_layBehind 0 = .ok (.aload_n 0, 1) := by decide +kernel
theorem dX2_layBehind_1 : decode cX2_layBehind 1 = .ok (.getfield 15, 3) := by decide +kernel
theorem dX2_layBehind_4 : decode cX2_layBehind 4 = .ok (.aload_n 0, 1) := by decide +kernel
theorem dX2_layBehind_5 : decode cX2_layBehind 5 = .ok (.getfield 22, 3) := by decide +kernel
theorem dX2_layBehind_8 : decode cX2_layBehind 8 = .ok (.iload_n 1, 1) := by decide +kernel
theorem dX2_layBehind_9 : decode cX2_layBehind 9 = .ok (.iastore, 1) := by decide +kernel
theorem dX2_layBehind_10 : decode cX2_layBehind 10 = .ok (.aload_n 0, 1) := by decide +kernel
theorem dX2_layBehind_11 : decode cX2_layBehind 11 = .ok (.dup, 1) := by decide +kernel
theorem dX2_layBehind_12 : decode cX2_layBehind 12 = .ok (.getfield 22, 3) := by decide +kernel
theorem dX2_layBehind_15 : decode cX2_layBehind 15 = .ok (.iconst 1, 1) := by decide +kernel
theorem dX2_layBehind_16 : decode cX2_layBehind 16 = .ok (.iadd, 1) := by decide +kernel
theorem dX2_layBehind_17 : decode cX2_layBehind 17 = .ok (.putfield 22, 3) := by decide +kernel
theorem dX2_layBehind_20 : decode cX2_layBehind 20 = .ok (.return_, 1) := by decide +kernel
theorem dX3_init_0 : decode cX3_init 0 = .ok (.aload_n 0, 1) := by decide +kernel
theorem dX3_init_1 : decode cX3_init 1 = .ok (.invokespecial 3, 3) := by decide +kernel
theorem dX3_init_4 : decode cX3_init 4 = .ok (.aload_n 0, 1) := by decide +kernel
theorem dX3_init_5 : decode cX3_init 5 = .ok (.bipush 16, 2) := by decide +kernel
theorem dX3_init_7 : decode cX3_init 7 = .ok (.newarray .int, 2) := by decide +kernel
theorem dX3_init_9 : decode cX3_init 9 = .ok (.putfield 9, 3) := by decide +kernel
theorem dX3_init_12 : decode cX3_init 12 = .ok (.aload_n 0, 1) := by decide +kernel
theorem dX3_init_13 : decode cX3_init 13 = .ok (.bipush 16, 2) := by decide +kernel
theorem dX3_init_15 : decode cX3_init 15 = .ok (.newarray .long, 2) := by decide +kernel
theorem dX3_init_17 : decode cX3_init 17 = .ok (.putfield 15, 3) := by decide +kernel
theorem dX3_init_20 : decode cX3_init 20 = .ok (.return_, 1) := by decide +kernel
theorem dX3_become_0 : decode cX3_become 0 = .ok (.aload_n 1, 1) := by decide +kernel
theorem dX3_become_1 : decode cX3_become 1 = .ok (.getfield 9, 3) := by decide +kernel
theorem dX3_become_4 : decode cX3_become 4 = .ok (.iconst 0, 1) := by decide +kernel
theorem dX3_become_5 : decode cX3_become 5 = .ok (.aload_n 0, 1) := by decide +kernel
theorem dX3_become_6 : decode cX3_become 6 = .ok (.getfield 9, 3) := by decide +kernel
theorem dX3_become_9 : decode cX3_become 9 = .ok (.iconst 0, 1) := by decide +kernel
theorem dX3_become_10 : decode cX3_become 10 = .ok (.bipush 16, 2) := by decide +kernel
theorem dX3_become_12 : decode cX3_become 12 = .ok (.invokestatic 19, 3) := by decide +kernel
theorem dX3_become_15 : decode cX3_become 15 = .ok (.return_, 1) := by decide +kernel
theorem dX3_becomeOneAt_0 : decode cX3_becomeOneAt 0 = .ok (.aload_n 0, 1) := by decide +kernel
theorem dX3_becomeOneAt_1 : decode cX3_becomeOneAt 1 = .ok (.getfield 9, 3) := by decide +kernel
theorem dX3_becomeOneAt_4 : decode cX3_becomeOneAt 4 = .ok (.iconst 0, 1) := by decide +kernel
theorem dX3_becomeOneAt_5 : decode cX3_becomeOneAt 5 = .ok (.invokestatic 25, 3) := by decide +kernel
theorem dX3_becomeOneAt_8 : decode cX3_becomeOneAt 8 = .ok (.aload_n 0, 1) := by decide +kernel
theorem dX3_becomeOneAt_9 : decode cX3_becomeOneAt 9 = .ok (.getfield 9, 3) := by decide +kernel
theorem dX3_becomeOneAt_12 : decode cX3_becomeOneAt 12 = .ok (.iload_n 1, 1) := by decide +kernel
theorem dX3_becomeOneAt_13 : decode cX3_becomeOneAt 13 = .ok (.iconst 1, 1) := by decide +kernel
theorem dX3_becomeOneAt_14 : decode cX3_becomeOneAt 14 = .ok (.iastore, 1) := by decide +kernel
theorem dX3_becomeOneAt_15 : decode cX3_becomeOneAt 15 = .ok (.return_, 1) := by decide +kernel
theorem dX3_kindAt_0 : decode cX3_kindAt 0 = .ok (.aload_n 0, 1) := by decide +kernel
theorem dX3_kindAt_1 : decode cX3_kindAt 1 = .ok (.getfield 15, 3) := by decide +kernel
theorem dX3_kindAt_4 : decode cX3_kindAt 4 = .ok (.iload_n 1, 1) := by decide +kernel
theorem dX3_kindAt_5 : decode cX3_kindAt 5 = .ok (.laload, 1) := by decide +kernel
theorem dX3_kindAt_6 : decode cX3_kindAt 6 = .ok (.iload_n 2, 1) := by decide +kernel
theorem dX3_kindAt_7 : decode cX3_kindAt 7 = .ok (.invokestatic 31, 3) := by decide +kernel
theorem dX3_kindAt_10 : decode cX3_kindAt 10 = .ok (.ireturn, 1) := by decide +kernel
theorem dX3_kindIn_0 : decode cX3_kindIn 0 = .ok (.lload_n 0, 1) := by decide +kernel
theorem dX3_kindIn_1 : decode cX3_kindIn 1 = .ok (.iconst 2, 1) := by decide +kernel
theorem dX3_kindIn_2 : decode cX3_kindIn 2 = .ok (.iload_n 2, 1) := by decide +kernel
theorem dX3_kindIn_3 : decode cX3_kindIn 3 = .ok (.imul, 1) := by decide +kernel
theorem dX3_kindIn_4 : decode cX3_kindIn 4 = .ok (.lushr, 1) := by decide +kernel
theorem dX3_kindIn_5 : decode cX3_kindIn 5 = .ok (.l2i, 1) := by decide +kernel
theorem dX3_kindIn_6 : decode cX3_kindIn 6 = .ok (.iconst 3, 1) := by decide +kernel
theorem dX3_kindIn_7 : decode cX3_kindIn 7 = .ok (.iand, 1) := by decide +kernel
theorem dX3_kindIn_8 : decode cX3_kindIn 8 = .ok (.ireturn, 1) := by decide +kernel
theorem dX3_isOfKind_0 : decode cX3_isOfKind 0 = .ok (.iload_n 1, 1) := by decide +kernel
theorem dX3_isOfKind_1 : decode cX3_isOfKind 1 = .ok (.ifCond .eq 18, 3) := by decide +kernel
theorem dX3_isOfKind_4 : decode cX3_isOfKind 4 = .ok (.iload_n 0, 1) := by decide +kernel
theorem dX3_isOfKind_5 : decode cX3_isOfKind 5 = .ok (.iload_n 1, 1) := by decide +kernel
theorem dX3_isOfKind_6 : decode cX3_isOfKind 6 = .ok (.if_icmp .eq 13, 3) := by decide +kernel
theorem dX3_isOfKind_9 : decode cX3_isOfKind 9 = .ok (.iload_n 1, 1) := by decide +kernel
theorem dX3_isOfKind_10 : decode cX3_isOfKind 10 = .ok (.iconst 1, 1) := by decide +kernel
theorem dX3_isOfKind_11 : decode cX3_isOfKind 11 = .ok (.if_icmp .ne 12, 3) := by decide +kernel
theorem dX3_isOfKind_14 : decode cX3_isOfKind 14 = .ok (.iload_n 0, 1) := by decide +kernel
theorem dX3_isOfKind_15 : decode cX3_isOfKind 15 = .ok (.iconst 2, 1) := by decide +kernel
theorem dX3_isOfKind_16 : decode cX3_isOfKind 16 = .ok (.if_icmp .ne 7, 3) := by decide +kernel
theorem dX3_isOfKind_19 : decode cX3_isOfKind 19 = .ok (.iconst 1, 1) := by decide +kernel
theorem dX3_isOfKind_20 : decode cX3_isOfKind 20 = .ok (.goto 4, 3) := by decide +kernel
theorem dX3_isOfKind_23 : decode cX3_isOfKind 23 = .ok (.iconst 0, 1) := by decide +kernel
theorem dX3_isOfKind_24 : decode cX3_isOfKind 24 = .ok (.ireturn, 1) := by decide +kernel
theorem dX3_manyOf_0 : decode cX3_manyOf 0 = .ok (.iconst 0, 1) := by decide +kernel
theorem dX3_manyOf_1 : decode cX3_manyOf 1 = .ok (.istore_n 3, 1) := by decide +kernel
theorem dX3_manyOf_2 : decode cX3_manyOf 2 = .ok (.iconst 0, 1) := by decide +kernel
theorem dX3_manyOf_3 : decode cX3_manyOf 3 = .ok (.istore 4, 2) := by decide +kernel
theorem dX3_manyOf_5 : decode cX3_manyOf 5 = .ok (.iload 4, 2) := by decide +kernel
theorem dX3_manyOf_7 : decode cX3_manyOf 7 = .ok (.aload_n 0, 1) := by decide +kernel
theorem dX3_manyOf_8 : decode cX3_manyOf 8 = .ok (.getfield 9, 3) := by decide +kernel
theorem dX3_manyOf_11 : decode cX3_manyOf 11 = .ok (.iload_n 1, 1) := by decide +kernel
theorem dX3_manyOf_12 : decode cX3_manyOf 12 = .ok (.iaload, 1) := by decide +kernel
theorem dX3_manyOf_13 : decode cX3_manyOf 13 = .ok (.if_icmp .ge 35, 3) := by decide +kernel
theorem dX3_manyOf_16 : decode cX3_manyOf 16 = .ok (.iload_n 3, 1) := by decide +kernel
theorem dX3_manyOf_17 : decode cX3_manyOf 17 = .ok (.aload_n 0, 1) := by decide +kernel
theorem dX3_manyOf_18 : decode cX3_manyOf 18 = .ok (.getfield 15, 3) := by decide +kernel
theorem dX3_manyOf_21 : decode cX3_manyOf 21 = .ok (.iload_n 1, 1) := by decide +kernel
theorem dX3_manyOf_22 : decode cX3_manyOf 22 = .ok (.laload, 1) := by decide +kernel
theorem dX3_manyOf_23 : decode cX3_manyOf 23 = .ok (.iload 4, 2) := by decide +kernel
theorem dX3_manyOf_25 : decode cX3_manyOf 25 = .ok (.invokestatic 31, 3) := by decide +kernel
theorem dX3_manyOf_28 : decode cX3_manyOf 28 = .ok (.iload_n 2, 1) := by decide +kernel
theorem dX3_manyOf_29 : decode cX3_manyOf 29 = .ok (.invokestatic 35, 3) := by decide +kernel
theorem dX3_manyOf_32 : decode cX3_manyOf 32 = .ok (.ifCond .eq 7, 3) := by decide +kernel
theorem dX3_manyOf_35 : decode cX3_manyOf 35 = .ok (.iconst 1, 1) := by decide +kernel
theorem dX3_manyOf_36 : decode cX3_manyOf 36 = .ok (.goto 4, 3) := by decide +kernel
theorem dX3_manyOf_39 : decode cX3_manyOf 39 = .ok (.iconst 0, 1) := by decide +kernel
theorem dX3_manyOf_40 : decode cX3_manyOf 40 = .ok (.iadd, 1) := by decide +kernel
theorem dX3_manyOf_41 : decode cX3_manyOf 41 = .ok (.istore_n 3, 1) := by decide +kernel
theorem dX3_manyOf_42 : decode cX3_manyOf 42 = .ok (.iinc 4 1, 3) := by decide +kernel
theorem dX3_manyOf_45 : decode cX3_manyOf 45 = .ok (.goto (-40), 3) := by decide +kernel
theorem dX3_manyOf_48 : decode cX3_manyOf 48 = .ok (.iload_n 3, 1) := by decide +kernel
theorem dX3_manyOf_49 : decode cX3_manyOf 49 = .ok (.ireturn, 1) := by decide +kernel
theorem dX3_empty_0 : decode cX3_empty 0 = .ok (.aload_n 0, 1) := by decide +kernel
theorem dX3_empty_1 : decode cX3_empty 1 = .ok (.getfield 9, 3) := by decide +kernel
theorem dX3_empty_4 : decode cX3_empty 4 = .ok (.iload_n 1, 1) := by decide +kernel
theorem dX3_empty_5 : decode cX3_empty 5 = .ok (.iconst 0, 1) := by decide +kernel
theorem dX3_empty_6 : decode cX3_empty 6 = .ok (.iastore, 1) := by decide +kernel
theorem dX3_empty_7 : decode cX3_empty 7 = .ok (.aload_n 0, 1) := by decide +kernel
theorem dX3_empty_8 : decode cX3_empty 8 = .ok (.getfield 15, 3) := by decide +kernel
theorem dX3_empty_11 : decode cX3_empty 11 = .ok (.iload_n 1, 1) := by decide +kernel
theorem dX3_empty_12 : decode cX3_empty 12 = .ok (.lconst 0, 1) := by decide +kernel
theorem dX3_empty_13 : decode cX3_empty 13 = .ok (.lastore, 1) := by decide +kernel
theorem dX3_empty_14 : decode cX3_empty 14 = .ok (.return_, 1) := by decide +kernel
theorem dX3_append_0 : decode cX3_append 0 = .ok (.aload_n 0, 1) := by decide +kernel
theorem dX3_append_1 : decode cX3_append 1 = .ok (.getfield 15, 3) := by decide +kernel
theorem dX3_append_4 : decode cX3_append 4 = .ok (.iload_n 1, 1) := by decide +kernel
theorem dX3_append_5 : decode cX3_append 5 = .ok (.dup2, 1) := by decide +kernel
theorem dX3_append_6 : decode cX3_append 6 = .ok (.laload, 1) := by decide +kernel
theorem dX3_append_7 : decode cX3_append 7 = .ok (.iload_n 2, 1) := by decide +kernel
theorem dX3_append_8 : decode cX3_append 8 = .ok (.i2l, 1) := by decide +kernel
theorem dX3_append_9 : decode cX3_append 9 = .ok (.iconst 2, 1) := by decide +kernel
theorem dX3_append_10 : decode cX3_append 10 = .ok (.aload_n 0, 1) := by decide +kernel
theorem dX3_append_11 : decode cX3_append 11 = .ok (.getfield 9, 3) := by decide +kernel
theorem dX3_append_14 : decode cX3_append 14 = .ok (.iload_n 1, 1) := by decide +kernel
theorem dX3_append_15 : decode cX3_append 15 = .ok (.iaload, 1) := by decide +kernel
theorem dX3_append_16 : decode cX3_append 16 = .ok (.imul, 1) := by decide +kernel
theorem dX3_append_17 : decode cX3_append 17 = .ok (.lshl, 1) := by decide +kernel
theorem dX3_append_18 : decode cX3_append 18 = .ok (.lor, 1) := by decide +kernel
theorem dX3_append_19 : decode cX3_append 19 = .ok (.lastore, 1) := by decide +kernel
theorem dX3_append_20 : decode cX3_append 20 = .ok (.aload_n 0, 1) := by decide +kernel
theorem dX3_append_21 : decode cX3_append 21 = .ok (.getfield 9, 3) := by decide +kernel
theorem dX3_append_24 : decode cX3_append 24 = .ok (.iload_n 1, 1) := by decide +kernel
theorem dX3_append_25 : decode cX3_append 25 = .ok (.dup2, 1) := by decide +kernel
theorem dX3_append_26 : decode cX3_append 26 = .ok (.iaload, 1) := by decide +kernel
theorem dX3_append_27 : decode cX3_append 27 = .ok (.iconst 1, 1) := by decide +kernel
theorem dX3_append_28 : decode cX3_append 28 = .ok (.iadd, 1) := by decide +kernel
theorem dX3_append_29 : decode cX3_append 29 = .ok (.iastore, 1) := by decide +kernel
theorem dX3_append_30 : decode cX3_append 30 = .ok (.return_, 1) := by decide +kernel
theorem dX3_appendMany_0 : decode cX3_appendMany 0 = .ok (.iconst 0, 1) := by decide +kernel
theorem dX3_appendMany_1 : decode cX3_appendMany 1 = .ok (.istore 4, 2) := by decide +kernel
theorem dX3_appendMany_3 : decode cX3_appendMany 3 = .ok (.iload 4, 2) := by decide +kernel
theorem dX3_appendMany_5 : decode cX3_appendMany 5 = .ok (.iload_n 2, 1) := by decide +kernel
theorem dX3_appendMany_6 : decode cX3_appendMany 6 = .ok (.if_icmp .ge 15, 3) := by decide +kernel
theorem dX3_appendMany_9 : decode cX3_appendMany 9 = .ok (.aload_n 0, 1) := by decide +kernel
theorem dX3_appendMany_10 : decode cX3_appendMany 10 = .ok (.iload_n 1, 1) := by decide +kernel
theorem dX3_appendMany_11 : decode cX3_appendMany 11 = .ok (.iload_n 3, 1) := by decide +kernel
theorem dX3_appendMany_12 : decode cX3_appendMany 12 = .ok (.invokevirtual 39, 3) := by decide +kernel
theorem dX3_appendMany_15 : decode cX3_appendMany 15 = .ok (.iinc 4 1, 3) := by decide +kernel
theorem dX3_appendMany_18 : decode cX3_appendMany 18 = .ok (.goto (-15), 3) := by decide +kernel
theorem dX3_appendMany_21 : decode cX3_appendMany 21 = .ok (.return_, 1) := by decide +kernel
theorem dX3_takeFirst_0 : decode cX3_takeFirst 0 = .ok (.aload_n 0, 1) := by decide +kernel
theorem dX3_takeFirst_1 : decode cX3_takeFirst 1 = .ok (.getfield 9, 3) := by decide +kernel
theorem dX3_takeFirst_4 : decode cX3_takeFirst 4 = .ok (.iload_n 1, 1) := by decide +kernel
theorem dX3_takeFirst_5 : decode cX3_takeFirst 5 = .ok (.iaload, 1) := by decide +kernel
theorem dX3_takeFirst_6 : decode cX3_takeFirst 6 = .ok (.istore 4, 2) := by decide +kernel
theorem dX3_takeFirst_8 : decode cX3_takeFirst 8 = .ok (.aload_n 0, 1) := by decide +kernel
theorem dX3_takeFirst_9 : decode cX3_takeFirst 9 = .ok (.getfield 15, 3) := by decide +kernel
theorem dX3_takeFirst_12 : decode cX3_takeFirst 12 = .ok (.iload_n 1, 1) := by decide +kernel
theorem dX3_takeFirst_13 : decode cX3_takeFirst 13 = .ok (.laload, 1) := by decide +kernel
theorem dX3_takeFirst_14 : decode cX3_takeFirst 14 = .ok (.lstore 5, 2) := by decide +kernel
theorem dX3_takeFirst_16 : decode cX3_takeFirst 16 = .ok (.iload_n 2, 1) := by decide +kernel
theorem dX3_takeFirst_17 : decode cX3_takeFirst 17 = .ok (.istore 7, 2) := by decide +kernel
theorem dX3_takeFirst_19 : decode cX3_takeFirst 19 = .ok (.aload_n 0, 1) := by decide +kernel
theorem dX3_takeFirst_20 : decode cX3_takeFirst 20 = .ok (.iload_n 1, 1) := by decide +kernel
theorem dX3_takeFirst_21 : decode cX3_takeFirst 21 = .ok (.invokevirtual 43, 3) := by decide +kernel
theorem dX3_takeFirst_24 : decode cX3_takeFirst 24 = .ok (.iconst 0, 1) := by decide +kernel
theorem dX3_takeFirst_25 : decode cX3_takeFirst 25 = .ok (.istore 8, 2) := by decide +kernel
theorem dX3_takeFirst_27 : decode cX3_takeFirst 27 = .ok (.iload 8, 2) := by decide +kernel
theorem dX3_takeFirst_29 : decode cX3_takeFirst 29 = .ok (.iload 4, 2) := by decide +kernel
theorem dX3_takeFirst_31 : decode cX3_takeFirst 31 = .ok (.if_icmp .ge 45, 3) := by decide +kernel
theorem dX3_takeFirst_34 : decode cX3_takeFirst 34 = .ok (.lload 5, 2) := by decide +kernel
theorem dX3_takeFirst_36 : decode cX3_takeFirst 36 = .ok (.iload 8, 2) := by decide +kernel
theorem dX3_takeFirst_38 : decode cX3_takeFirst 38 = .ok (.invokestatic 31, 3) := by decide +kernel
theorem dX3_takeFirst_41 : decode cX3_takeFirst 41 = .ok (.istore 9, 2) := by decide +kernel
theorem dX3_takeFirst_43 : decode cX3_takeFirst 43 = .ok (.iload 7, 2) := by decide +kernel
theorem dX3_takeFirst_45 : decode cX3_takeFirst 45 = .ok (.ifCond .le 18, 3) := by decide +kernel
theorem dX3_takeFirst_48 : decode cX3_takeFirst 48 = .ok (.iload 9, 2) := by decide +kernel
theorem dX3_takeFirst_50 : decode cX3_takeFirst 50 = .ok (.iload_n 3, 1) := by decide +kernel
theorem dX3_takeFirst_51 : decode cX3_takeFirst 51 = .ok (.invokestatic 35, 3) := by decide +kernel
theorem dX3_takeFirst_54 : decode cX3_takeFirst 54 = .ok (.ifCond .eq 9, 3) := by decide +kernel
theorem dX3_takeFirst_57 : decode cX3_takeFirst 57 = .ok (.iinc 7 (-1), 3) := by decide +kernel
theorem dX3_takeFirst_60 : decode cX3_takeFirst 60 = .ok (.goto 10, 3) := by decide +kernel
theorem dX3_takeFirst_63 : decode cX3_takeFirst 63 = .ok (.aload_n 0, 1) := by decide +kernel
theorem dX3_takeFirst_64 : decode cX3_takeFirst 64 = .ok (.iload_n 1, 1) := by decide +kernel
theorem dX3_takeFirst_65 : decode cX3_takeFirst 65 = .ok (.iload 9, 2) := by decide +kernel
theorem dX3_takeFirst_67 : decode cX3_takeFirst 67 = .ok (.invokevirtual 39, 3) := by decide +kernel
theorem dX3_takeFirst_70 : decode cX3_takeFirst 70 = .ok (.iinc 8 1, 3) := by decide +kernel
theorem dX3_takeFirst_73 : decode cX3_takeFirst 73 = .ok (.goto (-46), 3) := by decide +kernel
theorem dX3_takeFirst_76 : decode cX3_takeFirst 76 = .ok (.return_, 1) := by decide +kernel
theorem dX3_hasSomethingIn_0 : decode cX3_hasSomethingIn 0 = .ok (.iconst 0, 1) := by decide +kernel
theorem dX3_hasSomethingIn_1 : decode cX3_hasSomethingIn 1 = .ok (.istore_n 2, 1) := by decide +kernel
theorem dX3_hasSomethingIn_2 : decode cX3_hasSomethingIn 2 = .ok (.iload_n 2, 1) := by decide +kernel
theorem dX3_hasSomethingIn_3 : decode cX3_hasSomethingIn 3 = .ok (.bipush 16, 2) := by decide +kernel
theorem dX3_hasSomethingIn_5 : decode cX3_hasSomethingIn 5 = .ok (.if_icmp .ge 28, 3) := by decide +kernel
theorem dX3_hasSomethingIn_8 : decode cX3_hasSomethingIn 8 = .ok (.iload_n 1, 1) := by decide +kernel
theorem dX3_hasSomethingIn_9 : decode cX3_hasSomethingIn 9 = .ok (.iconst 1, 1) := by decide +kernel
theorem dX3_hasSomethingIn_10 : decode cX3_hasSomethingIn 10 = .ok (.iload_n 2, 1) := by decide +kernel
theorem dX3_hasSomethingIn_11 : decode cX3_hasSomethingIn 11 = .ok (.ishl, 1) := by decide +kernel
theorem dX3_hasSomethingIn_12 : decode cX3_hasSomethingIn 12 = .ok (.iand, 1) := by decide +kernel
theorem dX3_hasSomethingIn_13 : decode cX3_hasSomethingIn 13 = .ok (.ifCond .eq 14, 3) := by decide +kernel
theorem dX3_hasSomethingIn_16 : decode cX3_hasSomethingIn 16 = .ok (.aload_n 0, 1) := by decide +kernel
theorem dX3_hasSomethingIn_17 : decode cX3_hasSomethingIn 17 = .ok (.getfield 9, 3) := by decide +kernel
theorem dX3_hasSomethingIn_20 : decode cX3_hasSomethingIn 20 = .ok (.iload_n 2, 1) := by decide +kernel
theorem dX3_hasSomethingIn_21 : decode cX3_hasSomethingIn 21 = .ok (.iaload, 1) := by decide +kernel
theorem dX3_hasSomethingIn_22 : decode cX3_hasSomethingIn 22 = .ok (.ifCond .le 5, 3) := by decide +kernel
theorem dX3_hasSomethingIn_25 : decode cX3_hasSomethingIn 25 = .ok (.iconst 1, 1) := by decide +kernel
theorem dX3_hasSomethingIn_26 : decode cX3_hasSomethingIn 26 = .ok (.ireturn, 1) := by decide +kernel
theorem dX3_hasSomethingIn_27 : decode cX3_hasSomethingIn 27 = .ok (.iinc 2 1, 3) := by decide +kernel
theorem dX3_hasSomethingIn_30 : decode cX3_hasSomethingIn 30 = .ok (.goto (-28), 3) := by decide +kernel
theorem dX3_hasSomethingIn_33 : decode cX3_hasSomethingIn 33 = .ok (.iconst 0, 1) := by decide +kernel
theorem dX3_hasSomethingIn_34 : decode cX3_hasSomethingIn 34 = .ok (.ireturn, 1) := by decide +kernel
theorem dX4_init_0 : decode cX4_init 0 = .ok (.aload_n 0, 1) := by decide +kernel
theorem dX4_init_1 : decode cX4_init 1 = .ok (.invokespecial 3, 3) := by decide +kernel
