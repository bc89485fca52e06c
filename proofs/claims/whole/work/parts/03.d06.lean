theorem dX10_addNode_100 : decode cX10_addNode 100 = .ok (.aload_n 0, 1) := by decide +kernel
theorem dX10_addNode_101 : decode cX10_addNode 101 = .ok (.dup, 1) := by decide +kernel
theorem dX10_addNode_102 : decode cX10_addNode 102 = .ok (.getfield 140, 3) := by decide +kernel
theorem dX10_addNode_105 : decode cX10_addNode 105 = .ok (.iconst 1, 1) := by decide +kernel
theorem dX10_addNode_106 : decode cX10_addNode 106 = .ok (.iadd, 1) := by decide +kernel
theorem dX10_addNode_107 : decode cX10_addNode 107 = .ok (.putfield 140, 3) := by decide +kernel
theorem dX10_addNode_110 : decode cX10_addNode 110 = .ok (.iload_n 1, 1) := by decide +kernel
theorem dX10_addNode_111 : decode cX10_addNode 111 = .ok (.istore 4, 2) := by decide +kernel
theorem dX10_addNode_113 : decode cX10_addNode 113 = .ok (.iload 4, 2) := by decide +kernel
theorem dX10_addNode_115 : decode cX10_addNode 115 = .ok (.ldc 85, 2) := by decide +kernel
theorem dX10_addNode_117 : decode cX10_addNode 117 = .ok (.if_icmp .eq 24, 3) := by decide +kernel
theorem dX10_addNode_120 : decode cX10_addNode 120 = .ok (.aload_n 0, 1) := by decide +kernel
theorem dX10_addNode_121 : decode cX10_addNode 121 = .ok (.iload_n 3, 1) := by decide +kernel
theorem dX10_addNode_122 : decode cX10_addNode 122 = .ok (.iload 4, 2) := by decide +kernel
theorem dX10_addNode_124 : decode cX10_addNode 124 = .ok (.invokevirtual 286, 3) := by decide +kernel
theorem dX10_addNode_127 : decode cX10_addNode 127 = .ok (.istore 5, 2) := by decide +kernel
theorem dX10_addNode_129 : decode cX10_addNode 129 = .ok (.aload_n 0, 1) := by decide +kernel
theorem dX10_addNode_130 : decode cX10_addNode 130 = .ok (.getfield 93, 3) := by decide +kernel
theorem dX10_addNode_133 : decode cX10_addNode 133 = .ok (.iload 4, 2) := by decide +kernel
theorem dX10_addNode_135 : decode cX10_addNode 135 = .ok (.iaload, 1) := by decide +kernel
theorem dX10_addNode_136 : decode cX10_addNode 136 = .ok (.istore 4, 2) := by decide +kernel
theorem dX10_addNode_138 : decode cX10_addNode 138 = .ok (.goto (-25), 3) := by decide +kernel
theorem dX10_addNode_141 : decode cX10_addNode 141 = .ok (.return_, 1) := by decide +kernel
theorem dX10_isSame_0 : decode cX10_isSame 0 = .ok (.iconst 1, 1) := by decide +kernel
theorem dX10_isSame_1 : decode cX10_isSame 1 = .ok (.istore_n 3, 1) := by decide +kernel
theorem dX10_isSame_2 : decode cX10_isSame 2 = .ok (.iconst 0, 1) := by decide +kernel
theorem dX10_isSame_3 : decode cX10_isSame 3 = .ok (.istore 4, 2) := by decide +kernel
theorem dX10_isSame_5 : decode cX10_isSame 5 = .ok (.iload 4, 2) := by decide +kernel
theorem dX10_isSame_7 : decode cX10_isSame 7 = .ok (.aload_n 0, 1) := by decide +kernel
theorem dX10_isSame_8 : decode cX10_isSame 8 = .ok (.getfield 127, 3) := by decide +kernel
theorem dX10_isSame_11 : decode cX10_isSame 11 = .ok (.if_icmp .ge 46, 3) := by decide +kernel
theorem dX10_isSame_14 : decode cX10_isSame 14 = .ok (.iload_n 3, 1) := by decide +kernel
theorem dX10_isSame_15 : decode cX10_isSame 15 = .ok (.ifCond .eq 34, 3) := by decide +kernel
theorem dX10_isSame_18 : decode cX10_isSame 18 = .ok (.aload_n 0, 1) := by decide +kernel
theorem dX10_isSame_19 : decode cX10_isSame 19 = .ok (.getfield 90, 3) := by decide +kernel
theorem dX10_isSame_22 : decode cX10_isSame 22 = .ok (.bipush 16, 2) := by decide +kernel
theorem dX10_isSame_24 : decode cX10_isSame 24 = .ok (.iload_n 1, 1) := by decide +kernel
theorem dX10_isSame_25 : decode cX10_isSame 25 = .ok (.imul, 1) := by decide +kernel
theorem dX10_isSame_26 : decode cX10_isSame 26 = .ok (.iload 4, 2) := by decide +kernel
theorem dX10_isSame_28 : decode cX10_isSame 28 = .ok (.iadd, 1) := by decide +kernel
theorem dX10_isSame_29 : decode cX10_isSame 29 = .ok (.iaload, 1) := by decide +kernel
theorem dX10_isSame_30 : decode cX10_isSame 30 = .ok (.aload_n 0, 1) := by decide +kernel
theorem dX10_isSame_31 : decode cX10_isSame 31 = .ok (.getfield 90, 3) := by decide +kernel
theorem dX10_isSame_34 : decode cX10_isSame 34 = .ok (.bipush 16, 2) := by decide +kernel
theorem dX10_isSame_36 : decode cX10_isSame 36 = .ok (.iload_n 2, 1) := by decide +kernel
theorem dX10_isSame_37 : decode cX10_isSame 37 = .ok (.imul, 1) := by decide +kernel
theorem dX10_isSame_38 : decode cX10_isSame 38 = .ok (.iload 4, 2) := by decide +kernel
theorem dX10_isSame_40 : decode cX10_isSame 40 = .ok (.iadd, 1) := by decide +kernel
theorem dX10_isSame_41 : decode cX10_isSame 41 = .ok (.iaload, 1) := by decide +kernel
theorem dX10_isSame_42 : decode cX10_isSame 42 = .ok (.if_icmp .ne 7, 3) := by decide +kernel
theorem dX10_isSame_45 : decode cX10_isSame 45 = .ok (.iconst 1, 1) := by decide +kernel
theorem dX10_isSame_46 : decode cX10_isSame 46 = .ok (.goto 4, 3) := by decide +kernel
theorem dX10_isSame_49 : decode cX10_isSame 49 = .ok (.iconst 0, 1) := by decide +kernel
theorem dX10_isSame_50 : decode cX10_isSame 50 = .ok (.istore_n 3, 1) := by decide +kernel
theorem dX10_isSame_51 : decode cX10_isSame 51 = .ok (.iinc 4 1, 3) := by decide +kernel
theorem dX10_isSame_54 : decode cX10_isSame 54 = .ok (.goto (-49), 3) := by decide +kernel
theorem dX10_isSame_57 : decode cX10_isSame 57 = .ok (.iload_n 3, 1) := by decide +kernel
theorem dX10_isSame_58 : decode cX10_isSame 58 = .ok (.ireturn, 1) := by decide +kernel
theorem dX10_isTwice_0 : decode cX10_isTwice 0 = .ok (.iconst 0, 1) := by decide +kernel
theorem dX10_isTwice_1 : decode cX10_isTwice 1 = .ok (.istore_n 2, 1) := by decide +kernel
theorem dX10_isTwice_2 : decode cX10_isTwice 2 = .ok (.iconst 0, 1) := by decide +kernel
theorem dX10_isTwice_3 : decode cX10_isTwice 3 = .ok (.istore_n 3, 1) := by decide +kernel
theorem dX10_isTwice_4 : decode cX10_isTwice 4 = .ok (.iload_n 3, 1) := by decide +kernel
theorem dX10_isTwice_5 : decode cX10_isTwice 5 = .ok (.iload_n 1, 1) := by decide +kernel
theorem dX10_isTwice_6 : decode cX10_isTwice 6 = .ok (.if_icmp .ge 28, 3) := by decide +kernel
theorem dX10_isTwice_9 : decode cX10_isTwice 9 = .ok (.iload_n 2, 1) := by decide +kernel
theorem dX10_isTwice_10 : decode cX10_isTwice 10 = .ok (.ifCond .ne 12, 3) := by decide +kernel
theorem dX10_isTwice_13 : decode cX10_isTwice 13 = .ok (.aload_n 0, 1) := by decide +kernel
theorem dX10_isTwice_14 : decode cX10_isTwice 14 = .ok (.iload_n 3, 1) := by decide +kernel
theorem dX10_isTwice_15 : decode cX10_isTwice 15 = .ok (.iload_n 1, 1) := by decide +kernel
theorem dX10_isTwice_16 : decode cX10_isTwice 16 = .ok (.invokevirtual 289, 3) := by decide +kernel
theorem dX10_isTwice_19 : decode cX10_isTwice 19 = .ok (.ifCond .eq 7, 3) := by decide +kernel
theorem dX10_isTwice_22 : decode cX10_isTwice 22 = .ok (.iconst 1, 1) := by decide +kernel
theorem dX10_isTwice_23 : decode cX10_isTwice 23 = .ok (.goto 4, 3) := by decide +kernel
theorem dX10_isTwice_26 : decode cX10_isTwice 26 = .ok (.iconst 0, 1) := by decide +kernel
theorem dX10_isTwice_27 : decode cX10_isTwice 27 = .ok (.istore_n 2, 1) := by decide +kernel
theorem dX10_isTwice_28 : decode cX10_isTwice 28 = .ok (.iinc 3 1, 3) := by decide +kernel
theorem dX10_isTwice_31 : decode cX10_isTwice 31 = .ok (.goto (-27), 3) := by decide +kernel
theorem dX10_isTwice_34 : decode cX10_isTwice 34 = .ok (.iload_n 2, 1) := by decide +kernel
theorem dX10_isTwice_35 : decode cX10_isTwice 35 = .ok (.ireturn, 1) := by decide +kernel
theorem dX10_isPlainNet_0 : decode cX10_isPlainNet 0 = .ok (.aload_n 0, 1) := by decide +kernel
theorem dX10_isPlainNet_1 : decode cX10_isPlainNet 1 = .ok (.invokevirtual 228, 3) := by decide +kernel
theorem dX10_isPlainNet_4 : decode cX10_isPlainNet 4 = .ok (.ifCond .ne 7, 3) := by decide +kernel
theorem dX10_isPlainNet_7 : decode cX10_isPlainNet 7 = .ok (.iconst 1, 1) := by decide +kernel
theorem dX10_isPlainNet_8 : decode cX10_isPlainNet 8 = .ok (.goto 4, 3) := by decide +kernel
theorem dX10_isPlainNet_11 : decode cX10_isPlainNet 11 = .ok (.iconst 0, 1) := by decide +kernel
theorem dX10_isPlainNet_12 : decode cX10_isPlainNet 12 = .ok (.istore_n 1, 1) := by decide +kernel
theorem dX10_isPlainNet_13 : decode cX10_isPlainNet 13 = .ok (.iconst 0, 1) := by decide +kernel
theorem dX10_isPlainNet_14 : decode cX10_isPlainNet 14 = .ok (.istore_n 2, 1) := by decide +kernel
theorem dX10_isPlainNet_15 : decode cX10_isPlainNet 15 = .ok (.iload_n 2, 1) := by decide +kernel
theorem dX10_isPlainNet_16 : decode cX10_isPlainNet 16 = .ok (.aload_n 0, 1) := by decide +kernel
theorem dX10_isPlainNet_17 : decode cX10_isPlainNet 17 = .ok (.getfield 130, 3) := by decide +kernel
theorem dX10_isPlainNet_20 : decode cX10_isPlainNet 20 = .ok (.if_icmp .ge 29, 3) := by decide +kernel
theorem dX10_isPlainNet_23 : decode cX10_isPlainNet 23 = .ok (.iload_n 1, 1) := by decide +kernel
theorem dX10_isPlainNet_24 : decode cX10_isPlainNet 24 = .ok (.ifCond .eq 17, 3) := by decide +kernel
theorem dX10_isPlainNet_27 : decode cX10_isPlainNet 27 = .ok (.aload_n 0, 1) := by decide +kernel
theorem dX10_isPlainNet_28 : decode cX10_isPlainNet 28 = .ok (.getfield 13, 3) := by decide +kernel
theorem dX10_isPlainNet_31 : decode cX10_isPlainNet 31 = .ok (.iload_n 2, 1) := by decide +kernel
theorem dX10_isPlainNet_32 : decode cX10_isPlainNet 32 = .ok (.iaload, 1) := by decide +kernel
theorem dX10_isPlainNet_33 : decode cX10_isPlainNet 33 = .ok (.iconst 2, 1) := by decide +kernel
theorem dX10_isPlainNet_34 : decode cX10_isPlainNet 34 = .ok (.if_icmp .ge 7, 3) := by decide +kernel
theorem dX10_isPlainNet_37 : decode cX10_isPlainNet 37 = .ok (.iconst 1, 1) := by decide +kernel
theorem dX10_isPlainNet_38 : decode cX10_isPlainNet 38 = .ok (.goto 4, 3) := by decide +kernel
theorem dX10_isPlainNet_41 : decode cX10_isPlainNet 41 = .ok (.iconst 0, 1) := by decide +kernel
theorem dX10_isPlainNet_42 : decode cX10_isPlainNet 42 = .ok (.istore_n 1, 1) := by decide +kernel
theorem dX10_isPlainNet_43 : decode cX10_isPlainNet 43 = .ok (.iinc 2 1, 3) := by decide +kernel
theorem dX10_isPlainNet_46 : decode cX10_isPlainNet 46 = .ok (.goto (-31), 3) := by decide +kernel
theorem dX10_isPlainNet_49 : decode cX10_isPlainNet 49 = .ok (.iload_n 1, 1) := by decide +kernel
theorem dX10_isPlainNet_50 : decode cX10_isPlainNet 50 = .ok (.ireturn, 1) := by decide +kernel
theorem dX10_tree_0 : decode cX10_tree 0 = .ok (.iload_n 1, 1) := by decide +kernel
theorem dX10_tree_1 : decode cX10_tree 1 = .ok (.iconst 1, 1) := by decide +kernel
theorem dX10_tree_2 : decode cX10_tree 2 = .ok (.sipush 2000, 3) := by decide +kernel
theorem dX10_tree_5 : decode cX10_tree 5 = .ok (.invokestatic 155, 3) := by decide +kernel
theorem dX10_tree_8 : decode cX10_tree 8 = .ok (.ifCond .ne 6, 3) := by decide +kernel
theorem dX10_tree_11 : decode cX10_tree 11 = .ok (.ldc 159, 2) := by decide +kernel
theorem dX10_tree_13 : decode cX10_tree 13 = .ok (.ireturn, 1) := by decide +kernel
theorem dX10_tree_14 : decode cX10_tree 14 = .ok (.aload_n 0, 1) := by decide +kernel
theorem dX10_tree_15 : decode cX10_tree 15 = .ok (.invokevirtual 292, 3) := by decide +kernel
theorem dX10_tree_18 : decode cX10_tree 18 = .ok (.ifCond .ne 6, 3) := by decide +kernel
theorem dX10_tree_21 : decode cX10_tree 21 = .ok (.ldc 171, 2) := by decide +kernel
theorem dX10_tree_23 : decode cX10_tree 23 = .ok (.ireturn, 1) := by decide +kernel
theorem dX10_tree_24 : decode cX10_tree 24 = .ok (.iconst 0, 1) := by decide +kernel
theorem dX10_tree_25 : decode cX10_tree 25 = .ok (.istore_n 2, 1) := by decide +kernel
theorem dX10_tree_26 : decode cX10_tree 26 = .ok (.iload_n 2, 1) := by decide +kernel
theorem dX10_tree_27 : decode cX10_tree 27 = .ok (.aload_n 0, 1) := by decide +kernel
theorem dX10_tree_28 : decode cX10_tree 28 = .ok (.getfield 127, 3) := by decide +kernel
theorem dX10_tree_31 : decode cX10_tree 31 = .ok (.if_icmp .ge 21, 3) := by decide +kernel
theorem dX10_tree_34 : decode cX10_tree 34 = .ok (.aload_n 0, 1) := by decide +kernel
theorem dX10_tree_35 : decode cX10_tree 35 = .ok (.getfield 90, 3) := by decide +kernel
theorem dX10_tree_38 : decode cX10_tree 38 = .ok (.iload_n 2, 1) := by decide +kernel
theorem dX10_tree_39 : decode cX10_tree 39 = .ok (.aload_n 0, 1) := by decide +kernel
theorem dX10_tree_40 : decode cX10_tree 40 = .ok (.getfield 34, 3) := by decide +kernel
theorem dX10_tree_43 : decode cX10_tree 43 = .ok (.iload_n 2, 1) := by decide +kernel
theorem dX10_tree_44 : decode cX10_tree 44 = .ok (.iaload, 1) := by decide +kernel
theorem dX10_tree_45 : decode cX10_tree 45 = .ok (.iastore, 1) := by decide +kernel
theorem dX10_tree_46 : decode cX10_tree 46 = .ok (.iinc 2 1, 3) := by decide +kernel
theorem dX10_tree_49 : decode cX10_tree 49 = .ok (.goto (-23), 3) := by decide +kernel
theorem dX10_tree_52 : decode cX10_tree 52 = .ok (.aload_n 0, 1) := by decide +kernel
theorem dX10_tree_53 : decode cX10_tree 53 = .ok (.getfield 93, 3) := by decide +kernel
theorem dX10_tree_56 : decode cX10_tree 56 = .ok (.iconst 0, 1) := by decide +kernel
theorem dX10_tree_57 : decode cX10_tree 57 = .ok (.ldc 85, 2) := by decide +kernel
theorem dX10_tree_59 : decode cX10_tree 59 = .ok (.iastore, 1) := by decide +kernel
theorem dX10_tree_60 : decode cX10_tree 60 = .ok (.aload_n 0, 1) := by decide +kernel
theorem dX10_tree_61 : decode cX10_tree 61 = .ok (.getfield 96, 3) := by decide +kernel
theorem dX10_tree_64 : decode cX10_tree 64 = .ok (.iconst 0, 1) := by decide +kernel
theorem dX10_tree_65 : decode cX10_tree 65 = .ok (.ldc 85, 2) := by decide +kernel
theorem dX10_tree_67 : decode cX10_tree 67 = .ok (.iastore, 1) := by decide +kernel
theorem dX10_tree_68 : decode cX10_tree 68 = .ok (.aload_n 0, 1) := by decide +kernel
theorem dX10_tree_69 : decode cX10_tree 69 = .ok (.iconst 1, 1) := by decide +kernel
theorem dX10_tree_70 : decode cX10_tree 70 = .ok (.putfield 140, 3) := by decide +kernel
theorem dX10_tree_73 : decode cX10_tree 73 = .ok (.aload_n 0, 1) := by decide +kernel
theorem dX10_tree_74 : decode cX10_tree 74 = .ok (.iconst 1, 1) := by decide +kernel
theorem dX10_tree_75 : decode cX10_tree 75 = .ok (.putfield 137, 3) := by decide +kernel
theorem dX10_tree_78 : decode cX10_tree 78 = .ok (.iconst 0, 1) := by decide +kernel
theorem dX10_tree_79 : decode cX10_tree 79 = .ok (.istore_n 2, 1) := by decide +kernel
theorem dX10_tree_80 : decode cX10_tree 80 = .ok (.iload_n 2, 1) := by decide +kernel
theorem dX10_tree_81 : decode cX10_tree 81 = .ok (.aload_n 0, 1) := by decide +kernel
theorem dX10_tree_82 : decode cX10_tree 82 = .ok (.getfield 140, 3) := by decide +kernel
theorem dX10_tree_85 : decode cX10_tree 85 = .ok (.if_icmp .ge 81, 3) := by decide +kernel
theorem dX10_tree_88 : decode cX10_tree 88 = .ok (.aload_n 0, 1) := by decide +kernel
theorem dX10_tree_89 : decode cX10_tree 89 = .ok (.getfield 99, 3) := by decide +kernel
theorem dX10_tree_92 : decode cX10_tree 92 = .ok (.iload_n 2, 1) := by decide +kernel
theorem dX10_tree_93 : decode cX10_tree 93 = .ok (.aload_n 0, 1) := by decide +kernel
theorem dX10_tree_94 : decode cX10_tree 94 = .ok (.iload_n 2, 1) := by decide +kernel
theorem dX10_tree_95 : decode cX10_tree 95 = .ok (.invokevirtual 295, 3) := by decide +kernel
theorem dX10_tree_98 : decode cX10_tree 98 = .ok (.bastore, 1) := by decide +kernel
theorem dX10_tree_99 : decode cX10_tree 99 = .ok (.iconst 0, 1) := by decide +kernel
theorem dX10_tree_100 : decode cX10_tree 100 = .ok (.istore_n 3, 1) := by decide +kernel
theorem dX10_tree_101 : decode cX10_tree 101 = .ok (.iload_n 3, 1) := by decide +kernel
theorem dX10_tree_102 : decode cX10_tree 102 = .ok (.aload_n 0, 1) := by decide +kernel
theorem dX10_tree_103 : decode cX10_tree 103 = .ok (.getfield 130, 3) := by decide +kernel
theorem dX10_tree_106 : decode cX10_tree 106 = .ok (.if_icmp .ge 54, 3) := by decide +kernel
theorem dX10_tree_109 : decode cX10_tree 109 = .ok (.aload_n 0, 1) := by decide +kernel
theorem dX10_tree_110 : decode cX10_tree 110 = .ok (.getfield 99, 3) := by decide +kernel
theorem dX10_tree_113 : decode cX10_tree 113 = .ok (.iload_n 2, 1) := by decide +kernel
theorem dX10_tree_114 : decode cX10_tree 114 = .ok (.baload, 1) := by decide +kernel
theorem dX10_tree_115 : decode cX10_tree 115 = .ok (.ifCond .ne 45, 3) := by decide +kernel
theorem dX10_tree_118 : decode cX10_tree 118 = .ok (.aload_n 0, 1) := by decide +kernel
theorem dX10_tree_119 : decode cX10_tree 119 = .ok (.iload_n 3, 1) := by decide +kernel
theorem dX10_tree_120 : decode cX10_tree 120 = .ok (.iload_n 2, 1) := by decide +kernel
theorem dX10_tree_121 : decode cX10_tree 121 = .ok (.invokevirtual 298, 3) := by decide +kernel
theorem dX10_tree_124 : decode cX10_tree 124 = .ok (.ifCond .eq 30, 3) := by decide +kernel
theorem dX10_tree_127 : decode cX10_tree 127 = .ok (.aload_n 0, 1) := by decide +kernel
theorem dX10_tree_128 : decode cX10_tree 128 = .ok (.getfield 140, 3) := by decide +kernel
theorem dX10_tree_131 : decode cX10_tree 131 = .ok (.iload_n 1, 1) := by decide +kernel
theorem dX10_tree_132 : decode cX10_tree 132 = .ok (.if_icmp .ne 16, 3) := by decide +kernel
theorem dX10_tree_135 : decode cX10_tree 135 = .ok (.aload_n 0, 1) := by decide +kernel
theorem dX10_tree_136 : decode cX10_tree 136 = .ok (.iconst 0, 1) := by decide +kernel
theorem dX10_tree_137 : decode cX10_tree 137 = .ok (.putfield 137, 3) := by decide +kernel
theorem dX10_tree_140 : decode cX10_tree 140 = .ok (.aload_n 0, 1) := by decide +kernel
theorem dX10_tree_141 : decode cX10_tree 141 = .ok (.iconst 0, 1) := by decide +kernel
theorem dX10_tree_142 : decode cX10_tree 142 = .ok (.putfield 140, 3) := by decide +kernel
theorem dX10_tree_145 : decode cX10_tree 145 = .ok (.ldc 251, 2) := by decide +kernel
theorem dX10_tree_147 : decode cX10_tree 147 = .ok (.ireturn, 1) := by decide +kernel
theorem dX10_tree_148 : decode cX10_tree 148 = .ok (.aload_n 0, 1) := by decide +kernel
theorem dX10_tree_149 : decode cX10_tree 149 = .ok (.iload_n 2, 1) := by decide +kernel
theorem dX10_tree_150 : decode cX10_tree 150 = .ok (.iload_n 3, 1) := by decide +kernel
theorem dX10_tree_151 : decode cX10_tree 151 = .ok (.invokevirtual 301, 3) := by decide +kernel
theorem dX10_tree_154 : decode cX10_tree 154 = .ok (.iinc 3 1, 3) := by decide +kernel
theorem dX10_tree_157 : decode cX10_tree 157 = .ok (.goto (-56), 3) := by decide +kernel
theorem dX10_tree_160 : decode cX10_tree 160 = .ok (.iinc 2 1, 3) := by decide +kernel
theorem dX10_tree_163 : decode cX10_tree 163 = .ok (.goto (-83), 3) := by decide +kernel
theorem dX10_tree_166 : decode cX10_tree 166 = .ok (.aload_n 0, 1) := by decide +kernel
theorem dX10_tree_167 : decode cX10_tree 167 = .ok (.getfield 140, 3) := by decide +kernel
theorem dX10_tree_170 : decode cX10_tree 170 = .ok (.ireturn, 1) := by decide +kernel
theorem dX10_askTree_0 : decode cX10_askTree 0 = .ok (.aload_n 0, 1) := by decide +kernel
theorem dX10_askTree_1 : decode cX10_askTree 1 = .ok (.getfield 137, 3) := by decide +kernel
theorem dX10_askTree_4 : decode cX10_askTree 4 = .ok (.ifCond .ne 8, 3) := by decide +kernel
theorem dX10_askTree_7 : decode cX10_askTree 7 = .ok (.ldc 171, 2) := by decide +kernel
theorem dX10_askTree_9 : decode cX10_askTree 9 = .ok (.goto 23, 3) := by decide +kernel
theorem dX10_askTree_12 : decode cX10_askTree 12 = .ok (.iload_n 1, 1) := by decide +kernel
theorem dX10_askTree_13 : decode cX10_askTree 13 = .ok (.iconst 0, 1) := by decide +kernel
theorem dX10_askTree_14 : decode cX10_askTree 14 = .ok (.aload_n 0, 1) := by decide +kernel
theorem dX10_askTree_15 : decode cX10_askTree 15 = .ok (.getfield 140, 3) := by decide +kernel
theorem dX10_askTree_18 : decode cX10_askTree 18 = .ok (.iconst 1, 1) := by decide +kernel
theorem dX10_askTree_19 : decode cX10_askTree 19 = .ok (.isub, 1) := by decide +kernel
theorem dX10_askTree_20 : decode cX10_askTree 20 = .ok (.invokestatic 155, 3) := by decide +kernel
theorem dX10_askTree_23 : decode cX10_askTree 23 = .ok (.ifCond .eq 7, 3) := by decide +kernel
theorem dX10_askTree_26 : decode cX10_askTree 26 = .ok (.iconst 0, 1) := by decide +kernel
theorem dX10_askTree_27 : decode cX10_askTree 27 = .ok (.goto 5, 3) := by decide +kernel
theorem dX10_askTree_30 : decode cX10_askTree 30 = .ok (.ldc 159, 2) := by decide +kernel
theorem dX10_askTree_32 : decode cX10_askTree 32 = .ok (.ireturn, 1) := by decide +kernel
theorem dX10_shown_0 : decode cX10_shown 0 = .ok (.iload_n 0, 1) := by decide +kernel
theorem dX10_shown_1 : decode cX10_shown 1 = .ok (.ifCond .ge 9, 3) := by decide +kernel
theorem dX10_shown_4 : decode cX10_shown 4 = .ok (.ldc_w 304, 3) := by decide +kernel
theorem dX10_shown_7 : decode cX10_shown 7 = .ok (.goto 4, 3) := by decide +kernel
theorem dX10_shown_10 : decode cX10_shown 10 = .ok (.iload_n 0, 1) := by decide +kernel
theorem dX10_shown_11 : decode cX10_shown 11 = .ok (.ireturn, 1) := by decide +kernel
theorem dX10_node_0 : decode cX10_node 0 = .ok (.aload_n 0, 1) := by decide +kernel
theorem dX10_node_1 : decode cX10_node 1 = .ok (.iload_n 2, 1) := by decide +kernel
theorem dX10_node_2 : decode cX10_node 2 = .ok (.invokevirtual 168, 3) := by decide +kernel
theorem dX10_node_5 : decode cX10_node 5 = .ok (.ifCond .ne 6, 3) := by decide +kernel
theorem dX10_node_8 : decode cX10_node 8 = .ok (.ldc 159, 2) := by decide +kernel
theorem dX10_node_10 : decode cX10_node 10 = .ok (.ireturn, 1) := by decide +kernel
theorem dX10_node_11 : decode cX10_node 11 = .ok (.aload_n 0, 1) := by decide +kernel
theorem dX10_node_12 : decode cX10_node 12 = .ok (.iload_n 1, 1) := by decide +kernel
theorem dX10_node_13 : decode cX10_node 13 = .ok (.invokevirtual 305, 3) := by decide +kernel
theorem dX10_node_16 : decode cX10_node 16 = .ok (.istore_n 3, 1) := by decide +kernel
theorem dX10_node_17 : decode cX10_node 17 = .ok (.iload_n 3, 1) := by decide +kernel
theorem dX10_node_18 : decode cX10_node 18 = .ok (.ifCond .ge 7, 3) := by decide +kernel
theorem dX10_node_21 : decode cX10_node 21 = .ok (.iload_n 3, 1) := by decide +kernel
theorem dX10_node_22 : decode cX10_node 22 = .ok (.goto 17, 3) := by decide +kernel
theorem dX10_node_25 : decode cX10_node 25 = .ok (.aload_n 0, 1) := by decide +kernel
theorem dX10_node_26 : decode cX10_node 26 = .ok (.getfield 90, 3) := by decide +kernel
theorem dX10_node_29 : decode cX10_node 29 = .ok (.bipush 16, 2) := by decide +kernel
theorem dX10_node_31 : decode cX10_node 31 = .ok (.iload_n 1, 1) := by decide +kernel
theorem dX10_node_32 : decode cX10_node 32 = .ok (.imul, 1) := by decide +kernel
theorem dX10_node_33 : decode cX10_node 33 = .ok (.iload_n 2, 1) := by decide +kernel
theorem dX10_node_34 : decode cX10_node 34 = .ok (.iadd, 1) := by decide +kernel
theorem dX10_node_35 : decode cX10_node 35 = .ok (.iaload, 1) := by decide +kernel
theorem dX10_node_36 : decode cX10_node 36 = .ok (.invokestatic 308, 3) := by decide +kernel
theorem dX10_node_39 : decode cX10_node 39 = .ok (.ireturn, 1) := by decide +kernel
theorem dX10_above_0 : decode cX10_above 0 = .ok (.iload_n 2, 1) := by decide +kernel
theorem dX10_above_1 : decode cX10_above 1 = .ok (.iconst 0, 1) := by decide +kernel
theorem dX10_above_2 : decode cX10_above 2 = .ok (.iconst 2, 1) := by decide +kernel
theorem dX10_above_3 : decode cX10_above 3 = .ok (.invokestatic 155, 3) := by decide +kernel
theorem dX10_above_6 : decode cX10_above 6 = .ok (.ifCond .ne 6, 3) := by decide +kernel
theorem dX10_above_9 : decode cX10_above 9 = .ok (.ldc 159, 2) := by decide +kernel
theorem dX10_above_11 : decode cX10_above 11 = .ok (.ireturn, 1) := by decide +kernel
theorem dX10_above_12 : decode cX10_above 12 = .ok (.aload_n 0, 1) := by decide +kernel
theorem dX10_above_13 : decode cX10_above 13 = .ok (.iload_n 1, 1) := by decide +kernel
theorem dX10_above_14 : decode cX10_above 14 = .ok (.invokevirtual 305, 3) := by decide +kernel
theorem dX10_above_17 : decode cX10_above 17 = .ok (.istore_n 3, 1) := by decide +kernel
theorem dX10_above_18 : decode cX10_above 18 = .ok (.iload_n 3, 1) := by decide +kernel
theorem dX10_above_19 : decode cX10_above 19 = .ok (.ifCond .ge 5, 3) := by decide +kernel
theorem dX10_above_22 : decode cX10_above 22 = .ok (.iload_n 3, 1) := by decide +kernel
theorem dX10_above_23 : decode cX10_above 23 = .ok (.ireturn, 1) := by decide +kernel
theorem dX10_above_24 : decode cX10_above 24 = .ok (.iload_n 2, 1) := by decide +kernel
theorem dX10_above_25 : decode cX10_above 25 = .ok (.ifCond .ne 12, 3) := by decide +kernel
theorem dX10_above_28 : decode cX10_above 28 = .ok (.aload_n 0, 1) := by decide +kernel
theorem dX10_above_29 : decode cX10_above 29 = .ok (.getfield 93, 3) := by decide +kernel
theorem dX10_above_32 : decode cX10_above 32 = .ok (.iload_n 1, 1) := by decide +kernel
theorem dX10_above_33 : decode cX10_above 33 = .ok (.iaload, 1) := by decide +kernel
theorem dX10_above_34 : decode cX10_above 34 = .ok (.goto 31, 3) := by decide +kernel
theorem dX10_above_37 : decode cX10_above 37 = .ok (.iload_n 2, 1) := by decide +kernel
theorem dX10_above_38 : decode cX10_above 38 = .ok (.iconst 1, 1) := by decide +kernel
theorem dX10_above_39 : decode cX10_above 39 = .ok (.if_icmp .ne 12, 3) := by decide +kernel
theorem dX10_above_42 : decode cX10_above 42 = .ok (.aload_n 0, 1) := by decide +kernel
theorem dX10_above_43 : decode cX10_above 43 = .ok (.getfield 96, 3) := by decide +kernel
theorem dX10_above_46 : decode cX10_above 46 = .ok (.iload_n 1, 1) := by decide +kernel
theorem dX10_above_47 : decode cX10_above 47 = .ok (.iaload, 1) := by decide +kernel
theorem dX10_above_48 : decode cX10_above 48 = .ok (.goto 17, 3) := by decide +kernel
theorem dX10_above_51 : decode cX10_above 51 = .ok (.aload_n 0, 1) := by decide +kernel
theorem dX10_above_52 : decode cX10_above 52 = .ok (.getfield 99, 3) := by decide +kernel
theorem dX10_above_55 : decode cX10_above 55 = .ok (.iload_n 1, 1) := by decide +kernel
theorem dX10_above_56 : decode cX10_above 56 = .ok (.baload, 1) := by decide +kernel
theorem dX10_above_57 : decode cX10_above 57 = .ok (.ifCond .eq 7, 3) := by decide +kernel
theorem dX10_above_60 : decode cX10_above 60 = .ok (.iconst 1, 1) := by decide +kernel
theorem dX10_above_61 : decode cX10_above 61 = .ok (.goto 4, 3) := by decide +kernel
theorem dX10_above_64 : decode cX10_above 64 = .ok (.iconst 0, 1) := by decide +kernel
theorem dX10_above_65 : decode cX10_above 65 = .ok (.ireturn, 1) := by decide +kernel
theorem dX10_cover_0 : decode cX10_cover 0 = .ok (.aload_n 0, 1) := by decide +kernel
theorem dX10_cover_1 : decode cX10_cover 1 = .ok (.getfield 137, 3) := by decide +kernel
theorem dX10_cover_4 : decode cX10_cover 4 = .ok (.ifCond .ne 6, 3) := by decide +kernel
theorem dX10_cover_7 : decode cX10_cover 7 = .ok (.ldc 171, 2) := by decide +kernel
theorem dX10_cover_9 : decode cX10_cover 9 = .ok (.ireturn, 1) := by decide +kernel
theorem dX10_cover_10 : decode cX10_cover 10 = .ok (.iconst 0, 1) := by decide +kernel
theorem dX10_cover_11 : decode cX10_cover 11 = .ok (.istore_n 1, 1) := by decide +kernel
theorem dX10_cover_12 : decode cX10_cover 12 = .ok (.iload_n 1, 1) := by decide +kernel
theorem dX10_cover_13 : decode cX10_cover 13 = .ok (.aload_n 0, 1) := by decide +kernel
theorem dX10_cover_14 : decode cX10_cover 14 = .ok (.getfield 140, 3) := by decide +kernel
theorem dX10_cover_17 : decode cX10_cover 17 = .ok (.if_icmp .ge 76, 3) := by decide +kernel
theorem dX10_cover_20 : decode cX10_cover 20 = .ok (.iconst 1, 1) := by decide +kernel
theorem dX10_cover_21 : decode cX10_cover 21 = .ok (.istore_n 2, 1) := by decide +kernel
theorem dX10_cover_22 : decode cX10_cover 22 = .ok (.iconst 0, 1) := by decide +kernel
theorem dX10_cover_23 : decode cX10_cover 23 = .ok (.istore_n 3, 1) := by decide +kernel
theorem dX10_cover_24 : decode cX10_cover 24 = .ok (.iload_n 3, 1) := by decide +kernel
theorem dX10_cover_25 : decode cX10_cover 25 = .ok (.aload_n 0, 1) := by decide +kernel
theorem dX10_cover_26 : decode cX10_cover 26 = .ok (.getfield 127, 3) := by decide +kernel
theorem dX10_cover_29 : decode cX10_cover 29 = .ok (.if_icmp .ge 52, 3) := by decide +kernel
theorem dX10_cover_32 : decode cX10_cover 32 = .ok (.iload_n 2, 1) := by decide +kernel
theorem dX10_cover_33 : decode cX10_cover 33 = .ok (.ifCond .eq 40, 3) := by decide +kernel
theorem dX10_cover_36 : decode cX10_cover 36 = .ok (.aload_n 0, 1) := by decide +kernel
theorem dX10_cover_37 : decode cX10_cover 37 = .ok (.getfield 90, 3) := by decide +kernel
theorem dX10_cover_40 : decode cX10_cover 40 = .ok (.bipush 16, 2) := by decide +kernel
theorem dX10_cover_42 : decode cX10_cover 42 = .ok (.iload_n 1, 1) := by decide +kernel
theorem dX10_cover_43 : decode cX10_cover 43 = .ok (.imul, 1) := by decide +kernel
theorem dX10_cover_44 : decode cX10_cover 44 = .ok (.iload_n 3, 1) := by decide +kernel
theorem dX10_cover_45 : decode cX10_cover 45 = .ok (.iadd, 1) := by decide +kernel
theorem dX10_cover_46 : decode cX10_cover 46 = .ok (.iaload, 1) := by decide +kernel
theorem dX10_cover_47 : decode cX10_cover 47 = .ok (.ifCond .lt 22, 3) := by decide +kernel
theorem dX10_cover_50 : decode cX10_cover 50 = .ok (.aload_n 0, 1) := by decide +kernel
theorem dX10_cover_51 : decode cX10_cover 51 = .ok (.getfield 90, 3) := by decide +kernel
theorem dX10_cover_54 : decode cX10_cover 54 = .ok (.bipush 16, 2) := by decide +kernel
theorem dX10_cover_56 : decode cX10_cover 56 = .ok (.iload_n 1, 1) := by decide +kernel
theorem dX10_cover_57 : decode cX10_cover 57 = .ok (.imul, 1) := by decide +kernel
theorem dX10_cover_58 : decode cX10_cover 58 = .ok (.iload_n 3, 1) := by decide +kernel
theorem dX10_cover_59 : decode cX10_cover 59 = .ok (.iadd, 1) := by decide +kernel
theorem dX10_cover_60 : decode cX10_cover 60 = .ok (.iaload, 1) := by decide +kernel
theorem dX10_cover_61 : decode cX10_cover 61 = .ok (.aload_n 0, 1) := by decide +kernel
theorem dX10_cover_62 : decode cX10_cover 62 = .ok (.iload_n 3, 1) := by decide +kernel
theorem dX10_cover_63 : decode cX10_cover 63 = .ok (.invokevirtual 258, 3) := by decide +kernel
theorem dX10_cover_66 : decode cX10_cover 66 = .ok (.if_icmp .lt 7, 3) := by decide +kernel
theorem dX10_cover_69 : decode cX10_cover 69 = .ok (.iconst 1, 1) := by decide +kernel
theorem dX10_cover_70 : decode cX10_cover 70 = .ok (.goto 4, 3) := by decide +kernel
theorem dX10_cover_73 : decode cX10_cover 73 = .ok (.iconst 0, 1) := by decide +kernel
theorem dX10_cover_74 : decode cX10_cover 74 = .ok (.istore_n 2, 1) := by decide +kernel
theorem dX10_cover_75 : decode cX10_cover 75 = .ok (.iinc 3 1, 3) := by decide +kernel
theorem dX10_cover_78 : decode cX10_cover 78 = .ok (.goto (-54), 3) := by decide +kernel
theorem dX10_cover_81 : decode cX10_cover 81 = .ok (.iload_n 2, 1) := by decide +kernel
theorem dX10_cover_82 : decode cX10_cover 82 = .ok (.ifCond .eq 5, 3) := by decide +kernel
theorem dX10_cover_85 : decode cX10_cover 85 = .ok (.iload_n 1, 1) := by decide +kernel
theorem dX10_cover_86 : decode cX10_cover 86 = .ok (.ireturn, 1) := by decide +kernel
theorem dX10_cover_87 : decode cX10_cover 87 = .ok (.iinc 1 1, 3) := by decide +kernel
theorem dX10_cover_90 : decode cX10_cover 90 = .ok (.goto (-78), 3) := by decide +kernel
theorem dX10_cover_93 : decode cX10_cover 93 = .ok (.ldc 85, 2) := by decide +kernel
theorem dX10_cover_95 : decode cX10_cover 95 = .ok (.ireturn, 1) := by decide +kernel
theorem dX10_bound_0 : decode cX10_bound 0 = .ok (.aload_n 0, 1) := by decide +kernel
theorem dX10_bound_1 : decode cX10_bound 1 = .ok (.iload_n 1, 1) := by decide +kernel
theorem dX10_bound_2 : decode cX10_bound 2 = .ok (.invokevirtual 168, 3) := by decide +kernel
theorem dX10_bound_5 : decode cX10_bound 5 = .ok (.ifCond .ne 6, 3) := by decide +kernel
theorem dX10_bound_8 : decode cX10_bound 8 = .ok (.ldc 159, 2) := by decide +kernel
theorem dX10_bound_10 : decode cX10_bound 10 = .ok (.ireturn, 1) := by decide +kernel
theorem dX10_bound_11 : decode cX10_bound 11 = .ok (.aload_n 0, 1) := by decide +kernel
theorem dX10_bound_12 : decode cX10_bound 12 = .ok (.getfield 137, 3) := by decide +kernel
theorem dX10_bound_15 : decode cX10_bound 15 = .ok (.ifCond .ne 6, 3) := by decide +kernel
theorem dX10_bound_18 : decode cX10_bound 18 = .ok (.ldc 171, 2) := by decide +kernel
theorem dX10_bound_20 : decode cX10_bound 20 = .ok (.ireturn, 1) := by decide +kernel
theorem dX10_bound_21 : decode cX10_bound 21 = .ok (.iconst 0, 1) := by decide +kernel
theorem dX10_bound_22 : decode cX10_bound 22 = .ok (.istore_n 2, 1) := by decide +kernel
theorem dX10_bound_23 : decode cX10_bound 23 = .ok (.iconst 0, 1) := by decide +kernel
theorem dX10_bound_24 : decode cX10_bound 24 = .ok (.istore_n 3, 1) := by decide +kernel
theorem dX10_bound_25 : decode cX10_bound 25 = .ok (.iload_n 3, 1) := by decide +kernel
theorem dX10_bound_26 : decode cX10_bound 26 = .ok (.aload_n 0, 1) := by decide +kernel
theorem dX10_bound_27 : decode cX10_bound 27 = .ok (.getfield 140, 3) := by decide +kernel
theorem dX10_bound_30 : decode cX10_bound 30 = .ok (.if_icmp .ge 38, 3) := by decide +kernel
theorem dX10_bound_33 : decode cX10_bound 33 = .ok (.aload_n 0, 1) := by decide +kernel
theorem dX10_bound_34 : decode cX10_bound 34 = .ok (.getfield 90, 3) := by decide +kernel
theorem dX10_bound_37 : decode cX10_bound 37 = .ok (.bipush 16, 2) := by decide +kernel
theorem dX10_bound_39 : decode cX10_bound 39 = .ok (.iload_n 3, 1) := by decide +kernel
theorem dX10_bound_40 : decode cX10_bound 40 = .ok (.imul, 1) := by decide +kernel
theorem dX10_bound_41 : decode cX10_bound 41 = .ok (.iload_n 1, 1) := by decide +kernel
theorem dX10_bound_42 : decode cX10_bound 42 = .ok (.iadd, 1) := by decide +kernel
theorem dX10_bound_43 : decode cX10_bound 43 = .ok (.iaload, 1) := by decide +kernel
theorem dX10_bound_44 : decode cX10_bound 44 = .ok (.istore 4, 2) := by decide +kernel
theorem dX10_bound_46 : decode cX10_bound 46 = .ok (.iload 4, 2) := by decide +kernel
theorem dX10_bound_48 : decode cX10_bound 48 = .ok (.iload_n 2, 1) := by decide +kernel
theorem dX10_bound_49 : decode cX10_bound 49 = .ok (.invokestatic 280, 3) := by decide +kernel
theorem dX10_bound_52 : decode cX10_bound 52 = .ok (.ifCond .eq 8, 3) := by decide +kernel
theorem dX10_bound_55 : decode cX10_bound 55 = .ok (.iload 4, 2) := by decide +kernel
theorem dX10_bound_57 : decode cX10_bound 57 = .ok (.goto 4, 3) := by decide +kernel
theorem dX10_bound_60 : decode cX10_bound 60 = .ok (.iload_n 2, 1) := by decide +kernel
theorem dX10_bound_61 : decode cX10_bound 61 = .ok (.istore_n 2, 1) := by decide +kernel
theorem dX10_bound_62 : decode cX10_bound 62 = .ok (.iinc 3 1, 3) := by decide +kernel
theorem dX10_bound_65 : decode cX10_bound 65 = .ok (.goto (-40), 3) := by decide +kernel
theorem dX10_bound_68 : decode cX10_bound 68 = .ok (.iload_n 2, 1) := by decide +kernel
theorem dX10_bound_69 : decode cX10_bound 69 = .ok (.invokestatic 308, 3) := by decide +kernel
theorem dX10_bound_72 : decode cX10_bound 72 = .ok (.ireturn, 1) := by decide +kernel
theorem dX10_leastEndless_0 : decode cX10_leastEndless 0 = .ok (.iconst 0, 1) := by decide +kernel
theorem dX10_leastEndless_1 : decode cX10_leastEndless 1 = .ok (.istore_n 1, 1) := by decide +kernel
theorem dX10_leastEndless_2 : decode cX10_leastEndless 2 = .ok (.iload_n 1, 1) := by decide +kernel
theorem dX10_leastEndless_3 : decode cX10_leastEndless 3 = .ok (.aload_n 0, 1) := by decide +kernel
theorem dX10_leastEndless_4 : decode cX10_leastEndless 4 = .ok (.getfield 140, 3) := by decide +kernel
theorem dX10_leastEndless_7 : decode cX10_leastEndless 7 = .ok (.if_icmp .ge 41, 3) := by decide +kernel
theorem dX10_leastEndless_10 : decode cX10_leastEndless 10 = .ok (.iconst 0, 1) := by decide +kernel
theorem dX10_leastEndless_11 : decode cX10_leastEndless 11 = .ok (.istore_n 2, 1) := by decide +kernel
theorem dX10_leastEndless_12 : decode cX10_leastEndless 12 = .ok (.iload_n 2, 1) := by decide +kernel
theorem dX10_leastEndless_13 : decode cX10_leastEndless 13 = .ok (.aload_n 0, 1) := by decide +kernel
theorem dX10_leastEndless_14 : decode cX10_leastEndless 14 = .ok (.getfield 127, 3) := by decide +kernel
theorem dX10_leastEndless_17 : decode cX10_leastEndless 17 = .ok (.if_icmp .ge 25, 3) := by decide +kernel
theorem dX10_leastEndless_20 : decode cX10_leastEndless 20 = .ok (.aload_n 0, 1) := by decide +kernel
theorem dX10_leastEndless_21 : decode cX10_leastEndless 21 = .ok (.getfield 90, 3) := by decide +kernel
theorem dX10_leastEndless_24 : decode cX10_leastEndless 24 = .ok (.bipush 16, 2) := by decide +kernel
theorem dX10_leastEndless_26 : decode cX10_leastEndless 26 = .ok (.iload_n 1, 1) := by decide +kernel
theorem dX10_leastEndless_27 : decode cX10_leastEndless 27 = .ok (.imul, 1) := by decide +kernel
theorem dX10_leastEndless_28 : decode cX10_leastEndless 28 = .ok (.iload_n 2, 1) := by decide +kernel
theorem dX10_leastEndless_29 : decode cX10_leastEndless 29 = .ok (.iadd, 1) := by decide +kernel
theorem dX10_leastEndless_30 : decode cX10_leastEndless 30 = .ok (.iaload, 1) := by decide +kernel
theorem dX10_leastEndless_31 : decode cX10_leastEndless 31 = .ok (.ifCond .ge 5, 3) := by decide +kernel
theorem dX10_leastEndless_34 : decode cX10_leastEndless 34 = .ok (.iload_n 1, 1) := by decide +kernel
theorem dX10_leastEndless_35 : decode cX10_leastEndless 35 = .ok (.ireturn, 1) := by decide +kernel
theorem dX10_leastEndless_36 : decode cX10_leastEndless 36 = .ok (.iinc 2 1, 3) := by decide +kernel
theorem dX10_leastEndless_39 : decode cX10_leastEndless 39 = .ok (.goto (-27), 3) := by decide +kernel
theorem dX10_leastEndless_42 : decode cX10_leastEndless 42 = .ok (.iinc 1 1, 3) := by decide +kernel
theorem dX10_leastEndless_45 : decode cX10_leastEndless 45 = .ok (.goto (-43), 3) := by decide +kernel
theorem dX10_leastEndless_48 : decode cX10_leastEndless 48 = .ok (.ldc 85, 2) := by decide +kernel
theorem dX10_leastEndless_50 : decode cX10_leastEndless 50 = .ok (.ireturn, 1) := by decide +kernel
theorem dX10_depthOf_0 : decode cX10_depthOf 0 = .ok (.iconst 0, 1) := by decide +kernel
theorem dX10_depthOf_1 : decode cX10_depthOf 1 = .ok (.istore_n 2, 1) := by decide +kernel
theorem dX10_depthOf_2 : decode cX10_depthOf 2 = .ok (.iload_n 1, 1) := by decide +kernel
theorem dX10_depthOf_3 : decode cX10_depthOf 3 = .ok (.istore_n 3, 1) := by decide +kernel
theorem dX10_depthOf_4 : decode cX10_depthOf 4 = .ok (.aload_n 0, 1) := by decide +kernel
theorem dX10_depthOf_5 : decode cX10_depthOf 5 = .ok (.getfield 93, 3) := by decide +kernel
theorem dX10_depthOf_8 : decode cX10_depthOf 8 = .ok (.iload_n 3, 1) := by decide +kernel
theorem dX10_depthOf_9 : decode cX10_depthOf 9 = .ok (.iaload, 1) := by decide +kernel
theorem dX10_depthOf_10 : decode cX10_depthOf 10 = .ok (.ldc 85, 2) := by decide +kernel
theorem dX10_depthOf_12 : decode cX10_depthOf 12 = .ok (.if_icmp .eq 16, 3) := by decide +kernel
theorem dX10_depthOf_15 : decode cX10_depthOf 15 = .ok (.iinc 2 1, 3) := by decide +kernel
theorem dX10_depthOf_18 : decode cX10_depthOf 18 = .ok (.aload_n 0, 1) := by decide +kernel
theorem dX10_depthOf_19 : decode cX10_depthOf 19 = .ok (.getfield 93, 3) := by decide +kernel
theorem dX10_depthOf_22 : decode cX10_depthOf 22 = .ok (.iload_n 3, 1) := by decide +kernel
theorem dX10_depthOf_23 : decode cX10_depthOf 23 = .ok (.iaload, 1) := by decide +kernel
theorem dX10_depthOf_24 : decode cX10_depthOf 24 = .ok (.istore_n 3, 1) := by decide +kernel
theorem dX10_depthOf_25 : decode cX10_depthOf 25 = .ok (.goto (-21), 3) := by decide +kernel
theorem dX10_depthOf_28 : decode cX10_depthOf 28 = .ok (.iload_n 2, 1) := by decide +kernel
theorem dX10_depthOf_29 : decode cX10_depthOf 29 = .ok (.ireturn, 1) := by decide +kernel
theorem dX10_comeTo_0 : decode cX10_comeTo 0 = .ok (.iconst 0, 1) := by decide +kernel
theorem dX10_comeTo_1 : decode cX10_comeTo 1 = .ok (.istore_n 2, 1) := by decide +kernel
theorem dX10_comeTo_2 : decode cX10_comeTo 2 = .ok (.iload_n 2, 1) := by decide +kernel
theorem dX10_comeTo_3 : decode cX10_comeTo 3 = .ok (.aload_n 0, 1) := by decide +kernel
theorem dX10_comeTo_4 : decode cX10_comeTo 4 = .ok (.getfield 127, 3) := by decide +kernel
theorem dX10_comeTo_7 : decode cX10_comeTo 7 = .ok (.if_icmp .ge 62, 3) := by decide +kernel
theorem dX10_comeTo_10 : decode cX10_comeTo 10 = .ok (.aload_n 0, 1) := by decide +kernel
theorem dX10_comeTo_11 : decode cX10_comeTo 11 = .ok (.getfield 96, 3) := by decide +kernel
theorem dX10_comeTo_14 : decode cX10_comeTo 14 = .ok (.iload_n 1, 1) := by decide +kernel
theorem dX10_comeTo_15 : decode cX10_comeTo 15 = .ok (.iaload, 1) := by decide +kernel
theorem dX10_comeTo_16 : decode cX10_comeTo 16 = .ok (.istore_n 3, 1) := by decide +kernel
theorem dX10_comeTo_17 : decode cX10_comeTo 17 = .ok (.aload_n 0, 1) := by decide +kernel
theorem dX10_comeTo_18 : decode cX10_comeTo 18 = .ok (.getfield 78, 3) := by decide +kernel
theorem dX10_comeTo_21 : decode cX10_comeTo 21 = .ok (.iload_n 2, 1) := by decide +kernel
theorem dX10_comeTo_22 : decode cX10_comeTo 22 = .ok (.aload_n 0, 1) := by decide +kernel
theorem dX10_comeTo_23 : decode cX10_comeTo 23 = .ok (.getfield 90, 3) := by decide +kernel
theorem dX10_comeTo_26 : decode cX10_comeTo 26 = .ok (.bipush 16, 2) := by decide +kernel
theorem dX10_comeTo_28 : decode cX10_comeTo 28 = .ok (.aload_n 0, 1) := by decide +kernel
theorem dX10_comeTo_29 : decode cX10_comeTo 29 = .ok (.getfield 93, 3) := by decide +kernel
theorem dX10_comeTo_32 : decode cX10_comeTo 32 = .ok (.iload_n 1, 1) := by decide +kernel
theorem dX10_comeTo_33 : decode cX10_comeTo 33 = .ok (.iaload, 1) := by decide +kernel
theorem dX10_comeTo_34 : decode cX10_comeTo 34 = .ok (.imul, 1) := by decide +kernel
theorem dX10_comeTo_35 : decode cX10_comeTo 35 = .ok (.iload_n 2, 1) := by decide +kernel
theorem dX10_comeTo_36 : decode cX10_comeTo 36 = .ok (.iadd, 1) := by decide +kernel
theorem dX10_comeTo_37 : decode cX10_comeTo 37 = .ok (.iaload, 1) := by decide +kernel
theorem dX10_comeTo_38 : decode cX10_comeTo 38 = .ok (.aload_n 0, 1) := by decide +kernel
theorem dX10_comeTo_39 : decode cX10_comeTo 39 = .ok (.getfield 19, 3) := by decide +kernel
theorem dX10_comeTo_42 : decode cX10_comeTo 42 = .ok (.bipush 16, 2) := by decide +kernel
theorem dX10_comeTo_44 : decode cX10_comeTo 44 = .ok (.iload_n 3, 1) := by decide +kernel
theorem dX10_comeTo_45 : decode cX10_comeTo 45 = .ok (.imul, 1) := by decide +kernel
theorem dX10_comeTo_46 : decode cX10_comeTo 46 = .ok (.iload_n 2, 1) := by decide +kernel
theorem dX10_comeTo_47 : decode cX10_comeTo 47 = .ok (.iadd, 1) := by decide +kernel
theorem dX10_comeTo_48 : decode cX10_comeTo 48 = .ok (.iaload, 1) := by decide +kernel
theorem dX10_comeTo_49 : decode cX10_comeTo 49 = .ok (.iadd, 1) := by decide +kernel
theorem dX10_comeTo_50 : decode cX10_comeTo 50 = .ok (.aload_n 0, 1) := by decide +kernel
theorem dX10_comeTo_51 : decode cX10_comeTo 51 = .ok (.getfield 16, 3) := by decide +kernel
theorem dX10_comeTo_54 : decode cX10_comeTo 54 = .ok (.bipush 16, 2) := by decide +kernel
theorem dX10_comeTo_56 : decode cX10_comeTo 56 = .ok (.iload_n 3, 1) := by decide +kernel
theorem dX10_comeTo_57 : decode cX10_comeTo 57 = .ok (.imul, 1) := by decide +kernel
theorem dX10_comeTo_58 : decode cX10_comeTo 58 = .ok (.iload_n 2, 1) := by decide +kernel
theorem dX10_comeTo_59 : decode cX10_comeTo 59 = .ok (.iadd, 1) := by decide +kernel
theorem dX10_comeTo_60 : decode cX10_comeTo 60 = .ok (.iaload, 1) := by decide +kernel
theorem dX10_comeTo_61 : decode cX10_comeTo 61 = .ok (.isub, 1) := by decide +kernel
theorem dX10_comeTo_62 : decode cX10_comeTo 62 = .ok (.iastore, 1) := by decide +kernel
theorem dX10_comeTo_63 : decode cX10_comeTo 63 = .ok (.iinc 2 1, 3) := by decide +kernel
theorem dX10_comeTo_66 : decode cX10_comeTo 66 = .ok (.goto (-64), 3) := by decide +kernel
theorem dX10_comeTo_69 : decode cX10_comeTo 69 = .ok (.return_, 1) := by decide +kernel
theorem dX10_isLess_0 : decode cX10_isLess 0 = .ok (.iconst 1, 1) := by decide +kernel
theorem dX10_isLess_1 : decode cX10_isLess 1 = .ok (.istore_n 2, 1) := by decide +kernel
theorem dX10_isLess_2 : decode cX10_isLess 2 = .ok (.iconst 0, 1) := by decide +kernel
theorem dX10_isLess_3 : decode cX10_isLess 3 = .ok (.istore_n 3, 1) := by decide +kernel
theorem dX10_isLess_4 : decode cX10_isLess 4 = .ok (.iconst 0, 1) := by decide +kernel
theorem dX10_isLess_5 : decode cX10_isLess 5 = .ok (.istore 4, 2) := by decide +kernel
theorem dX10_isLess_7 : decode cX10_isLess 7 = .ok (.iload 4, 2) := by decide +kernel
theorem dX10_isLess_9 : decode cX10_isLess 9 = .ok (.aload_n 0, 1) := by decide +kernel
theorem dX10_isLess_10 : decode cX10_isLess 10 = .ok (.getfield 127, 3) := by decide +kernel
theorem dX10_isLess_13 : decode cX10_isLess 13 = .ok (.if_icmp .ge 73, 3) := by decide +kernel
theorem dX10_isLess_16 : decode cX10_isLess 16 = .ok (.iload_n 2, 1) := by decide +kernel
theorem dX10_isLess_17 : decode cX10_isLess 17 = .ok (.ifCond .eq 29, 3) := by decide +kernel
theorem dX10_isLess_20 : decode cX10_isLess 20 = .ok (.aload_n 0, 1) := by decide +kernel
theorem dX10_isLess_21 : decode cX10_isLess 21 = .ok (.getfield 90, 3) := by decide +kernel
theorem dX10_isLess_24 : decode cX10_isLess 24 = .ok (.bipush 16, 2) := by decide +kernel
theorem dX10_isLess_26 : decode cX10_isLess 26 = .ok (.iload_n 1, 1) := by decide +kernel
theorem dX10_isLess_27 : decode cX10_isLess 27 = .ok (.imul, 1) := by decide +kernel
theorem dX10_isLess_28 : decode cX10_isLess 28 = .ok (.iload 4, 2) := by decide +kernel
theorem dX10_isLess_30 : decode cX10_isLess 30 = .ok (.iadd, 1) := by decide +kernel
theorem dX10_isLess_31 : decode cX10_isLess 31 = .ok (.iaload, 1) := by decide +kernel
theorem dX10_isLess_32 : decode cX10_isLess 32 = .ok (.aload_n 0, 1) := by decide +kernel
theorem dX10_isLess_33 : decode cX10_isLess 33 = .ok (.getfield 78, 3) := by decide +kernel
theorem dX10_isLess_36 : decode cX10_isLess 36 = .ok (.iload 4, 2) := by decide +kernel
theorem dX10_isLess_38 : decode cX10_isLess 38 = .ok (.iaload, 1) := by decide +kernel
theorem dX10_isLess_39 : decode cX10_isLess 39 = .ok (.if_icmp .gt 7, 3) := by decide +kernel
theorem dX10_isLess_42 : decode cX10_isLess 42 = .ok (.iconst 1, 1) := by decide +kernel
theorem dX10_isLess_43 : decode cX10_isLess 43 = .ok (.goto 4, 3) := by decide +kernel
theorem dX10_isLess_46 : decode cX10_isLess 46 = .ok (.iconst 0, 1) := by decide +kernel
theorem dX10_isLess_47 : decode cX10_isLess 47 = .ok (.istore_n 2, 1) := by decide +kernel
theorem dX10_isLess_48 : decode cX10_isLess 48 = .ok (.iload_n 3, 1) := by decide +kernel
theorem dX10_isLess_49 : decode cX10_isLess 49 = .ok (.ifCond .ne 25, 3) := by decide +kernel
theorem dX10_isLess_52 : decode cX10_isLess 52 = .ok (.aload_n 0, 1) := by decide +kernel
theorem dX10_isLess_53 : decode cX10_isLess 53 = .ok (.getfield 90, 3) := by decide +kernel
theorem dX10_isLess_56 : decode cX10_isLess 56 = .ok (.bipush 16, 2) := by decide +kernel
theorem dX10_isLess_58 : decode cX10_isLess 58 = .ok (.iload_n 1, 1) := by decide +kernel
theorem dX10_isLess_59 : decode cX10_isLess 59 = .ok (.imul, 1) := by decide +kernel
theorem dX10_isLess_60 : decode cX10_isLess 60 = .ok (.iload 4, 2) := by decide +kernel
theorem dX10_isLess_62 : decode cX10_isLess 62 = .ok (.iadd, 1) := by decide +kernel
theorem dX10_isLess_63 : decode cX10_isLess 63 = .ok (.iaload, 1) := by decide +kernel
theorem dX10_isLess_64 : decode cX10_isLess 64 = .ok (.aload_n 0, 1) := by decide +kernel
theorem dX10_isLess_65 : decode cX10_isLess 65 = .ok (.getfield 78, 3) := by decide +kernel
theorem dX10_isLess_68 : decode cX10_isLess 68 = .ok (.iload 4, 2) := by decide +kernel
theorem dX10_isLess_70 : decode cX10_isLess 70 = .ok (.iaload, 1) := by decide +kernel
theorem dX10_isLess_71 : decode cX10_isLess 71 = .ok (.if_icmp .ge 7, 3) := by decide +kernel
theorem dX10_isLess_74 : decode cX10_isLess 74 = .ok (.iconst 1, 1) := by decide +kernel
theorem dX10_isLess_75 : decode cX10_isLess 75 = .ok (.goto 4, 3) := by decide +kernel
theorem dX10_isLess_78 : decode cX10_isLess 78 = .ok (.iconst 0, 1) := by decide +kernel
theorem dX10_isLess_79 : decode cX10_isLess 79 = .ok (.istore_n 3, 1) := by decide +kernel
theorem dX10_isLess_80 : decode cX10_isLess 80 = .ok (.iinc 4 1, 3) := by decide +kernel
theorem dX10_isLess_83 : decode cX10_isLess 83 = .ok (.goto (-76), 3) := by decide +kernel
theorem dX10_isLess_86 : decode cX10_isLess 86 = .ok (.iload_n 2, 1) := by decide +kernel
theorem dX10_isLess_87 : decode cX10_isLess 87 = .ok (.ifCond .eq 11, 3) := by decide +kernel
theorem dX10_isLess_90 : decode cX10_isLess 90 = .ok (.iload_n 3, 1) := by decide +kernel
theorem dX10_isLess_91 : decode cX10_isLess 91 = .ok (.ifCond .eq 7, 3) := by decide +kernel
theorem dX10_isLess_94 : decode cX10_isLess 94 = .ok (.iconst 1, 1) := by decide +kernel
theorem dX10_isLess_95 : decode cX10_isLess 95 = .ok (.goto 4, 3) := by decide +kernel
theorem dX10_isLess_98 : decode cX10_isLess 98 = .ok (.iconst 0, 1) := by decide +kernel
theorem dX10_isLess_99 : decode cX10_isLess 99 = .ok (.ireturn, 1) := by decide +kernel
theorem dX10_pump_0 : decode cX10_pump 0 = .ok (.aload_n 0, 1) := by decide +kernel
theorem dX10_pump_1 : decode cX10_pump 1 = .ok (.getfield 137, 3) := by decide +kernel
theorem dX10_pump_4 : decode cX10_pump 4 = .ok (.ifCond .ne 6, 3) := by decide +kernel
theorem dX10_pump_7 : decode cX10_pump 7 = .ok (.ldc 171, 2) := by decide +kernel
theorem dX10_pump_9 : decode cX10_pump 9 = .ok (.ireturn, 1) := by decide +kernel
theorem dX10_pump_10 : decode cX10_pump 10 = .ok (.aload_n 0, 1) := by decide +kernel
theorem dX10_pump_11 : decode cX10_pump 11 = .ok (.invokevirtual 311, 3) := by decide +kernel
theorem dX10_pump_14 : decode cX10_pump 14 = .ok (.istore_n 1, 1) := by decide +kernel
theorem dX10_pump_15 : decode cX10_pump 15 = .ok (.iload_n 1, 1) := by decide +kernel
theorem dX10_pump_16 : decode cX10_pump 16 = .ok (.ldc 85, 2) := by decide +kernel
theorem dX10_pump_18 : decode cX10_pump 18 = .ok (.if_icmp .ne 6, 3) := by decide +kernel
theorem dX10_pump_21 : decode cX10_pump 21 = .ok (.ldc 85, 2) := by decide +kernel
theorem dX10_pump_23 : decode cX10_pump 23 = .ok (.ireturn, 1) := by decide +kernel
theorem dX10_pump_24 : decode cX10_pump 24 = .ok (.aload_n 0, 1) := by decide +kernel
theorem dX10_pump_25 : decode cX10_pump 25 = .ok (.iload_n 1, 1) := by decide +kernel
theorem dX10_pump_26 : decode cX10_pump 26 = .ok (.invokevirtual 314, 3) := by decide +kernel
theorem dX10_pump_29 : decode cX10_pump 29 = .ok (.istore_n 2, 1) := by decide +kernel
theorem dX10_pump_30 : decode cX10_pump 30 = .ok (.aload_n 0, 1) := by decide +kernel
theorem dX10_pump_31 : decode cX10_pump 31 = .ok (.iload_n 2, 1) := by decide +kernel
theorem dX10_pump_32 : decode cX10_pump 32 = .ok (.putfield 225, 3) := by decide +kernel
theorem dX10_pump_35 : decode cX10_pump 35 = .ok (.iload_n 1, 1) := by decide +kernel
theorem dX10_pump_36 : decode cX10_pump 36 = .ok (.istore_n 3, 1) := by decide +kernel
theorem dX10_pump_37 : decode cX10_pump 37 = .ok (.aload_n 0, 1) := by decide +kernel
theorem dX10_pump_38 : decode cX10_pump 38 = .ok (.getfield 93, 3) := by decide +kernel
theorem dX10_pump_41 : decode cX10_pump 41 = .ok (.iload_n 3, 1) := by decide +kernel
theorem dX10_pump_42 : decode cX10_pump 42 = .ok (.iaload, 1) := by decide +kernel
theorem dX10_pump_43 : decode cX10_pump 43 = .ok (.ldc 85, 2) := by decide +kernel
theorem dX10_pump_45 : decode cX10_pump 45 = .ok (.if_icmp .eq 28, 3) := by decide +kernel
theorem dX10_pump_48 : decode cX10_pump 48 = .ok (.iinc 2 (-1), 3) := by decide +kernel
theorem dX10_pump_51 : decode cX10_pump 51 = .ok (.aload_n 0, 1) := by decide +kernel
theorem dX10_pump_52 : decode cX10_pump 52 = .ok (.getfield 56, 3) := by decide +kernel
theorem dX10_pump_55 : decode cX10_pump 55 = .ok (.iload_n 2, 1) := by decide +kernel
theorem dX10_pump_56 : decode cX10_pump 56 = .ok (.aload_n 0, 1) := by decide +kernel
theorem dX10_pump_57 : decode cX10_pump 57 = .ok (.getfield 96, 3) := by decide +kernel
theorem dX10_pump_60 : decode cX10_pump 60 = .ok (.iload_n 3, 1) := by decide +kernel
theorem dX10_pump_61 : decode cX10_pump 61 = .ok (.iaload, 1) := by decide +kernel
theorem dX10_pump_62 : decode cX10_pump 62 = .ok (.iastore, 1) := by decide +kernel
theorem dX10_pump_63 : decode cX10_pump 63 = .ok (.aload_n 0, 1) := by decide +kernel
theorem dX10_pump_64 : decode cX10_pump 64 = .ok (.getfield 93, 3) := by decide +kernel
theorem dX10_pump_67 : decode cX10_pump 67 = .ok (.iload_n 3, 1) := by decide +kernel
theorem dX10_pump_68 : decode cX10_pump 68 = .ok (.iaload, 1) := by decide +kernel
theorem dX10_pump_69 : decode cX10_pump 69 = .ok (.istore_n 3, 1) := by decide +kernel
theorem dX10_pump_70 : decode cX10_pump 70 = .ok (.goto (-33), 3) := by decide +kernel
theorem dX10_pump_73 : decode cX10_pump 73 = .ok (.aload_n 0, 1) := by decide +kernel
theorem dX10_pump_74 : decode cX10_pump 74 = .ok (.iload_n 1, 1) := by decide +kernel
theorem dX10_pump_75 : decode cX10_pump 75 = .ok (.invokevirtual 317, 3) := by decide +kernel
theorem dX10_pump_78 : decode cX10_pump 78 = .ok (.aload_n 0, 1) := by decide +kernel
theorem dX10_pump_79 : decode cX10_pump 79 = .ok (.getfield 93, 3) := by decide +kernel
theorem dX10_pump_82 : decode cX10_pump 82 = .ok (.iload_n 1, 1) := by decide +kernel
theorem dX10_pump_83 : decode cX10_pump 83 = .ok (.iaload, 1) := by decide +kernel
theorem dX10_pump_84 : decode cX10_pump 84 = .ok (.istore_n 3, 1) := by decide +kernel
theorem dX10_pump_85 : decode cX10_pump 85 = .ok (.aload_n 0, 1) := by decide +kernel
theorem dX10_pump_86 : decode cX10_pump 86 = .ok (.iload_n 3, 1) := by decide +kernel
theorem dX10_pump_87 : decode cX10_pump 87 = .ok (.invokevirtual 320, 3) := by decide +kernel
theorem dX10_pump_90 : decode cX10_pump 90 = .ok (.ifCond .ne 13, 3) := by decide +kernel
theorem dX10_pump_93 : decode cX10_pump 93 = .ok (.aload_n 0, 1) := by decide +kernel
theorem dX10_pump_94 : decode cX10_pump 94 = .ok (.getfield 93, 3) := by decide +kernel
theorem dX10_pump_97 : decode cX10_pump 97 = .ok (.iload_n 3, 1) := by decide +kernel
theorem dX10_pump_98 : decode cX10_pump 98 = .ok (.iaload, 1) := by decide +kernel
theorem dX10_pump_99 : decode cX10_pump 99 = .ok (.istore_n 3, 1) := by decide +kernel
theorem dX10_pump_100 : decode cX10_pump 100 = .ok (.goto (-15), 3) := by decide +kernel
theorem dX10_pump_103 : decode cX10_pump 103 = .ok (.aload_n 0, 1) := by decide +kernel
theorem dX10_pump_104 : decode cX10_pump 104 = .ok (.iload_n 3, 1) := by decide +kernel
theorem dX10_pump_105 : decode cX10_pump 105 = .ok (.invokevirtual 314, 3) := by decide +kernel
theorem dX10_pump_108 : decode cX10_pump 108 = .ok (.ireturn, 1) := by decide +kernel
theorem dX10_common_0 : decode cX10_common 0 = .ok (.lload_n 0, 1) := by decide +kernel
theorem dX10_common_1 : decode cX10_common 1 = .ok (.lconst 0, 1) := by decide +kernel
theorem dX10_common_2 : decode cX10_common 2 = .ok (.lcmp, 1) := by decide +kernel
theorem dX10_common_3 : decode cX10_common 3 = .ok (.ifCond .ge 8, 3) := by decide +kernel
theorem dX10_common_6 : decode cX10_common 6 = .ok (.lload_n 0, 1) := by decide +kernel
theorem dX10_common_7 : decode cX10_common 7 = .ok (.lneg, 1) := by decide +kernel
theorem dX10_common_8 : decode cX10_common 8 = .ok (.goto 4, 3) := by decide +kernel
theorem dX10_common_11 : decode cX10_common 11 = .ok (.lload_n 0, 1) := by decide +kernel
theorem dX10_common_12 : decode cX10_common 12 = .ok (.lstore 4, 2) := by decide +kernel
theorem dX10_common_14 : decode cX10_common 14 = .ok (.lload_n 2, 1) := by decide +kernel
theorem dX10_common_15 : decode cX10_common 15 = .ok (.lconst 0, 1) := by decide +kernel
theorem dX10_common_16 : decode cX10_common 16 = .ok (.lcmp, 1) := by decide +kernel
theorem dX10_common_17 : decode cX10_common 17 = .ok (.ifCond .ge 8, 3) := by decide +kernel
theorem dX10_common_20 : decode cX10_common 20 = .ok (.lload_n 2, 1) := by decide +kernel
theorem dX10_common_21 : decode cX10_common 21 = .ok (.lneg, 1) := by decide +kernel
theorem dX10_common_22 : decode cX10_common 22 = .ok (.goto 4, 3) := by decide +kernel
theorem dX10_common_25 : decode cX10_common 25 = .ok (.lload_n 2, 1) := by decide +kernel
theorem dX10_common_26 : decode cX10_common 26 = .ok (.lstore 6, 2) := by decide +kernel
theorem dX10_common_28 : decode cX10_common 28 = .ok (.lload 6, 2) := by decide +kernel
theorem dX10_common_30 : decode cX10_common 30 = .ok (.lconst 0, 1) := by decide +kernel
theorem dX10_common_31 : decode cX10_common 31 = .ok (.lcmp, 1) := by decide +kernel
theorem dX10_common_32 : decode cX10_common 32 = .ok (.ifCond .eq 21, 3) := by decide +kernel
theorem dX10_common_35 : decode cX10_common 35 = .ok (.lload 4, 2) := by decide +kernel
theorem dX10_common_37 : decode cX10_common 37 = .ok (.lload 6, 2) := by decide +kernel
theorem dX10_common_39 : decode cX10_common 39 = .ok (.lrem, 1) := by decide +kernel
theorem dX10_common_40 : decode cX10_common 40 = .ok (.lstore 8, 2) := by decide +kernel
theorem dX10_common_42 : decode cX10_common 42 = .ok (.lload 6, 2) := by decide +kernel
theorem dX10_common_44 : decode cX10_common 44 = .ok (.lstore 4, 2) := by decide +kernel
theorem dX10_common_46 : decode cX10_common 46 = .ok (.lload 8, 2) := by decide +kernel
theorem dX10_common_48 : decode cX10_common 48 = .ok (.lstore 6, 2) := by decide +kernel
theorem dX10_common_50 : decode cX10_common 50 = .ok (.goto (-22), 3) := by decide +kernel
theorem dX10_common_53 : decode cX10_common 53 = .ok (.lload 4, 2) := by decide +kernel
theorem dX10_common_55 : decode cX10_common 55 = .ok (.lreturn, 1) := by decide +kernel
theorem dX10_lessened_0 : decode cX10_lessened 0 = .ok (.aload_n 0, 1) := by decide +kernel
theorem dX10_lessened_1 : decode cX10_lessened 1 = .ok (.getfield 102, 3) := by decide +kernel
theorem dX10_lessened_4 : decode cX10_lessened 4 = .ok (.bipush 32, 2) := by decide +kernel
theorem dX10_lessened_6 : decode cX10_lessened 6 = .ok (.iload_n 2, 1) := by decide +kernel
theorem dX10_lessened_7 : decode cX10_lessened 7 = .ok (.imul, 1) := by decide +kernel
theorem dX10_lessened_8 : decode cX10_lessened 8 = .ok (.iload_n 3, 1) := by decide +kernel
theorem dX10_lessened_9 : decode cX10_lessened 9 = .ok (.iadd, 1) := by decide +kernel
theorem dX10_lessened_10 : decode cX10_lessened 10 = .ok (.laload, 1) := by decide +kernel
theorem dX10_lessened_11 : decode cX10_lessened 11 = .ok (.lstore 4, 2) := by decide +kernel
theorem dX10_lessened_13 : decode cX10_lessened 13 = .ok (.aload_n 0, 1) := by decide +kernel
theorem dX10_lessened_14 : decode cX10_lessened 14 = .ok (.getfield 102, 3) := by decide +kernel
theorem dX10_lessened_17 : decode cX10_lessened 17 = .ok (.bipush 32, 2) := by decide +kernel
theorem dX10_lessened_19 : decode cX10_lessened 19 = .ok (.iload_n 1, 1) := by decide +kernel
theorem dX10_lessened_20 : decode cX10_lessened 20 = .ok (.imul, 1) := by decide +kernel
theorem dX10_lessened_21 : decode cX10_lessened 21 = .ok (.iload_n 3, 1) := by decide +kernel
theorem dX10_lessened_22 : decode cX10_lessened 22 = .ok (.iadd, 1) := by decide +kernel
theorem dX10_lessened_23 : decode cX10_lessened 23 = .ok (.laload, 1) := by decide +kernel
theorem dX10_lessened_24 : decode cX10_lessened 24 = .ok (.lstore 6, 2) := by decide +kernel
theorem dX10_lessened_26 : decode cX10_lessened 26 = .ok (.lconst 0, 1) := by decide +kernel
theorem dX10_lessened_27 : decode cX10_lessened 27 = .ok (.lstore 8, 2) := by decide +kernel
theorem dX10_lessened_29 : decode cX10_lessened 29 = .ok (.iconst 0, 1) := by decide +kernel
theorem dX10_lessened_30 : decode cX10_lessened 30 = .ok (.istore 10, 2) := by decide +kernel
theorem dX10_lessened_32 : decode cX10_lessened 32 = .ok (.iload 10, 2) := by decide +kernel
theorem dX10_lessened_34 : decode cX10_lessened 34 = .ok (.bipush 32, 2) := by decide +kernel
theorem dX10_lessened_36 : decode cX10_lessened 36 = .ok (.if_icmp .ge 71, 3) := by decide +kernel
theorem dX10_lessened_39 : decode cX10_lessened 39 = .ok (.aload_n 0, 1) := by decide +kernel
theorem dX10_lessened_40 : decode cX10_lessened 40 = .ok (.getfield 102, 3) := by decide +kernel
theorem dX10_lessened_43 : decode cX10_lessened 43 = .ok (.bipush 32, 2) := by decide +kernel
theorem dX10_lessened_45 : decode cX10_lessened 45 = .ok (.iload_n 1, 1) := by decide +kernel
theorem dX10_lessened_46 : decode cX10_lessened 46 = .ok (.imul, 1) := by decide +kernel
theorem dX10_lessened_47 : decode cX10_lessened 47 = .ok (.iload 10, 2) := by decide +kernel
theorem dX10_lessened_49 : decode cX10_lessened 49 = .ok (.iadd, 1) := by decide +kernel
theorem dX10_lessened_50 : decode cX10_lessened 50 = .ok (.lload 4, 2) := by decide +kernel
theorem dX10_lessened_52 : decode cX10_lessened 52 = .ok (.aload_n 0, 1) := by decide +kernel
theorem dX10_lessened_53 : decode cX10_lessened 53 = .ok (.getfield 102, 3) := by decide +kernel
theorem dX10_lessened_56 : decode cX10_lessened 56 = .ok (.bipush 32, 2) := by decide +kernel
theorem dX10_lessened_58 : decode cX10_lessened 58 = .ok (.iload_n 1, 1) := by decide +kernel
theorem dX10_lessened_59 : decode cX10_lessened 59 = .ok (.imul, 1) := by decide +kernel
theorem dX10_lessened_60 : decode cX10_lessened 60 = .ok (.iload 10, 2) := by decide +kernel
theorem dX10_lessened_62 : decode cX10_lessened 62 = .ok (.iadd, 1) := by decide +kernel
theorem dX10_lessened_63 : decode cX10_lessened 63 = .ok (.laload, 1) := by decide +kernel
theorem dX10_lessened_64 : decode cX10_lessened 64 = .ok (.lmul, 1) := by decide +kernel
theorem dX10_lessened_65 : decode cX10_lessened 65 = .ok (.lload 6, 2) := by decide +kernel
theorem dX10_lessened_67 : decode cX10_lessened 67 = .ok (.aload_n 0, 1) := by decide +kernel
theorem dX10_lessened_68 : decode cX10_lessened 68 = .ok (.getfield 102, 3) := by decide +kernel
theorem dX10_lessened_71 : decode cX10_lessened 71 = .ok (.bipush 32, 2) := by decide +kernel
theorem dX10_lessened_73 : decode cX10_lessened 73 = .ok (.iload_n 2, 1) := by decide +kernel
theorem dX10_lessened_74 : decode cX10_lessened 74 = .ok (.imul, 1) := by decide +kernel
theorem dX10_lessened_75 : decode cX10_lessened 75 = .ok (.iload 10, 2) := by decide +kernel
theorem dX10_lessened_77 : decode cX10_lessened 77 = .ok (.iadd, 1) := by decide +kernel
theorem dX10_lessened_78 : decode cX10_lessened 78 = .ok (.laload, 1) := by decide +kernel
theorem dX10_lessened_79 : decode cX10_lessened 79 = .ok (.lmul, 1) := by decide +kernel
theorem dX10_lessened_80 : decode cX10_lessened 80 = .ok (.lsub, 1) := by decide +kernel
theorem dX10_lessened_81 : decode cX10_lessened 81 = .ok (.lastore, 1) := by decide +kernel
theorem dX10_lessened_82 : decode cX10_lessened 82 = .ok (.lload 8, 2) := by decide +kernel
theorem dX10_lessened_84 : decode cX10_lessened 84 = .ok (.aload_n 0, 1) := by decide +kernel
theorem dX10_lessened_85 : decode cX10_lessened 85 = .ok (.getfield 102, 3) := by decide +kernel
theorem dX10_lessened_88 : decode cX10_lessened 88 = .ok (.bipush 32, 2) := by decide +kernel
theorem dX10_lessened_90 : decode cX10_lessened 90 = .ok (.iload_n 1, 1) := by decide +kernel
theorem dX10_lessened_91 : decode cX10_lessened 91 = .ok (.imul, 1) := by decide +kernel
theorem dX10_lessened_92 : decode cX10_lessened 92 = .ok (.iload 10, 2) := by decide +kernel
theorem dX10_lessened_94 : decode cX10_lessened 94 = .ok (.iadd, 1) := by decide +kernel
theorem dX10_lessened_95 : decode cX10_lessened 95 = .ok (.laload, 1) := by decide +kernel
theorem dX10_lessened_96 : decode cX10_lessened 96 = .ok (.invokestatic 323, 3) := by decide +kernel
theorem dX10_lessened_99 : decode cX10_lessened 99 = .ok (.lstore 8, 2) := by decide +kernel
theorem dX10_lessened_101 : decode cX10_lessened 101 = .ok (.iinc 10 1, 3) := by decide +kernel
theorem dX10_lessened_104 : decode cX10_lessened 104 = .ok (.goto (-72), 3) := by decide +kernel
theorem dX10_lessened_107 : decode cX10_lessened 107 = .ok (.iconst 1, 1) := by decide +kernel
theorem dX10_lessened_108 : decode cX10_lessened 108 = .ok (.istore 10, 2) := by decide +kernel
theorem dX10_lessened_110 : decode cX10_lessened 110 = .ok (.iconst 0, 1) := by decide +kernel
theorem dX10_lessened_111 : decode cX10_lessened 111 = .ok (.istore 11, 2) := by decide +kernel
theorem dX10_lessened_113 : decode cX10_lessened 113 = .ok (.iload 11, 2) := by decide +kernel
theorem dX10_lessened_115 : decode cX10_lessened 115 = .ok (.bipush 32, 2) := by decide +kernel
theorem dX10_lessened_117 : decode cX10_lessened 117 = .ok (.if_icmp .ge 97, 3) := by decide +kernel
theorem dX10_lessened_120 : decode cX10_lessened 120 = .ok (.aload_n 0, 1) := by decide +kernel
theorem dX10_lessened_121 : decode cX10_lessened 121 = .ok (.getfield 102, 3) := by decide +kernel
theorem dX10_lessened_124 : decode cX10_lessened 124 = .ok (.bipush 32, 2) := by decide +kernel
theorem dX10_lessened_126 : decode cX10_lessened 126 = .ok (.iload_n 1, 1) := by decide +kernel
theorem dX10_lessened_127 : decode cX10_lessened 127 = .ok (.imul, 1) := by decide +kernel
theorem dX10_lessened_128 : decode cX10_lessened 128 = .ok (.iload 11, 2) := by decide +kernel
theorem dX10_lessened_130 : decode cX10_lessened 130 = .ok (.iadd, 1) := by decide +kernel
theorem dX10_lessened_131 : decode cX10_lessened 131 = .ok (.lload 8, 2) := by decide +kernel
theorem dX10_lessened_133 : decode cX10_lessened 133 = .ok (.lconst 0, 1) := by decide +kernel
theorem dX10_lessened_134 : decode cX10_lessened 134 = .ok (.lcmp, 1) := by decide +kernel
theorem dX10_lessened_135 : decode cX10_lessened 135 = .ok (.ifCond .ne 7, 3) := by decide +kernel
theorem dX10_lessened_138 : decode cX10_lessened 138 = .ok (.lconst 0, 1) := by decide +kernel
theorem dX10_lessened_139 : decode cX10_lessened 139 = .ok (.goto 18, 3) := by decide +kernel
theorem dX10_lessened_142 : decode cX10_lessened 142 = .ok (.aload_n 0, 1) := by decide +kernel
theorem dX10_lessened_143 : decode cX10_lessened 143 = .ok (.getfield 102, 3) := by decide +kernel
theorem dX10_lessened_146 : decode cX10_lessened 146 = .ok (.bipush 32, 2) := by decide +kernel
theorem dX10_lessened_148 : decode cX10_lessened 148 = .ok (.iload_n 1, 1) := by decide +kernel
theorem dX10_lessened_149 : decode cX10_lessened 149 = .ok (.imul, 1) := by decide +kernel
theorem dX10_lessened_150 : decode cX10_lessened 150 = .ok (.iload 11, 2) := by decide +kernel
theorem dX10_lessened_152 : decode cX10_lessened 152 = .ok (.iadd, 1) := by decide +kernel
theorem dX10_lessened_153 : decode cX10_lessened 153 = .ok (.laload, 1) := by decide +kernel
theorem dX10_lessened_154 : decode cX10_lessened 154 = .ok (.lload 8, 2) := by decide +kernel
theorem dX10_lessened_156 : decode cX10_lessened 156 = .ok (.ldiv, 1) := by decide +kernel
theorem dX10_lessened_157 : decode cX10_lessened 157 = .ok (.lastore, 1) := by decide +kernel
theorem dX10_lessened_158 : decode cX10_lessened 158 = .ok (.iload 10, 2) := by decide +kernel
theorem dX10_lessened_160 : decode cX10_lessened 160 = .ok (.ifCond .eq 45, 3) := by decide +kernel
theorem dX10_lessened_163 : decode cX10_lessened 163 = .ok (.aload_n 0, 1) := by decide +kernel
theorem dX10_lessened_164 : decode cX10_lessened 164 = .ok (.getfield 102, 3) := by decide +kernel
theorem dX10_lessened_167 : decode cX10_lessened 167 = .ok (.bipush 32, 2) := by decide +kernel
theorem dX10_lessened_169 : decode cX10_lessened 169 = .ok (.iload_n 1, 1) := by decide +kernel
theorem dX10_lessened_170 : decode cX10_lessened 170 = .ok (.imul, 1) := by decide +kernel
theorem dX10_lessened_171 : decode cX10_lessened 171 = .ok (.iload 11, 2) := by decide +kernel
theorem dX10_lessened_173 : decode cX10_lessened 173 = .ok (.iadd, 1) := by decide +kernel
theorem dX10_lessened_174 : decode cX10_lessened 174 = .ok (.laload, 1) := by decide +kernel
theorem dX10_lessened_175 : decode cX10_lessened 175 = .ok (.ldc2_w 327, 3) := by decide +kernel
theorem dX10_lessened_178 : decode cX10_lessened 178 = .ok (.lcmp, 1) := by decide +kernel
theorem dX10_lessened_179 : decode cX10_lessened 179 = .ok (.ifCond .gt 26, 3) := by decide +kernel
theorem dX10_lessened_182 : decode cX10_lessened 182 = .ok (.aload_n 0, 1) := by decide +kernel
theorem dX10_lessened_183 : decode cX10_lessened 183 = .ok (.getfield 102, 3) := by decide +kernel
theorem dX10_lessened_186 : decode cX10_lessened 186 = .ok (.bipush 32, 2) := by decide +kernel
theorem dX10_lessened_188 : decode cX10_lessened 188 = .ok (.iload_n 1, 1) := by decide +kernel
theorem dX10_lessened_189 : decode cX10_lessened 189 = .ok (.imul, 1) := by decide +kernel
theorem dX10_lessened_190 : decode cX10_lessened 190 = .ok (.iload 11, 2) := by decide +kernel
theorem dX10_lessened_192 : decode cX10_lessened 192 = .ok (.iadd, 1) := by decide +kernel
theorem dX10_lessened_193 : decode cX10_lessened 193 = .ok (.laload, 1) := by decide +kernel
theorem dX10_lessened_194 : decode cX10_lessened 194 = .ok (.ldc2_w 329, 3) := by decide +kernel
theorem dX10_lessened_197 : decode cX10_lessened 197 = .ok (.lcmp, 1) := by decide +kernel
theorem dX10_lessened_198 : decode cX10_lessened 198 = .ok (.ifCond .lt 7, 3) := by decide +kernel
theorem dX10_lessened_201 : decode cX10_lessened 201 = .ok (.iconst 1, 1) := by decide +kernel
theorem dX10_lessened_202 : decode cX10_lessened 202 = .ok (.goto 4, 3) := by decide +kernel
theorem dX10_lessened_205 : decode cX10_lessened 205 = .ok (.iconst 0, 1) := by decide +kernel
theorem dX10_lessened_206 : decode cX10_lessened 206 = .ok (.istore 10, 2) := by decide +kernel
theorem dX10_lessened_208 : decode cX10_lessened 208 = .ok (.iinc 11 1, 3) := by decide +kernel
theorem dX10_lessened_211 : decode cX10_lessened 211 = .ok (.goto (-98), 3) := by decide +kernel
theorem dX10_lessened_214 : decode cX10_lessened 214 = .ok (.iload 10, 2) := by decide +kernel
theorem dX10_lessened_216 : decode cX10_lessened 216 = .ok (.ireturn, 1) := by decide +kernel
theorem dX10_firstWith_0 : decode cX10_firstWith 0 = .ok (.iconst 0, 1) := by decide +kernel
theorem dX10_firstWith_1 : decode cX10_firstWith 1 = .ok (.istore_n 3, 1) := by decide +kernel
theorem dX10_firstWith_2 : decode cX10_firstWith 2 = .ok (.iload_n 3, 1) := by decide +kernel
theorem dX10_firstWith_3 : decode cX10_firstWith 3 = .ok (.iload_n 1, 1) := by decide +kernel
theorem dX10_firstWith_4 : decode cX10_firstWith 4 = .ok (.if_icmp .ge 36, 3) := by decide +kernel
theorem dX10_firstWith_7 : decode cX10_firstWith 7 = .ok (.aload_n 0, 1) := by decide +kernel
theorem dX10_firstWith_8 : decode cX10_firstWith 8 = .ok (.getfield 106, 3) := by decide +kernel
theorem dX10_firstWith_11 : decode cX10_firstWith 11 = .ok (.iload_n 3, 1) := by decide +kernel
theorem dX10_firstWith_12 : decode cX10_firstWith 12 = .ok (.baload, 1) := by decide +kernel
theorem dX10_firstWith_13 : decode cX10_firstWith 13 = .ok (.ifCond .ne 21, 3) := by decide +kernel
theorem dX10_firstWith_16 : decode cX10_firstWith 16 = .ok (.aload_n 0, 1) := by decide +kernel
theorem dX10_firstWith_17 : decode cX10_firstWith 17 = .ok (.getfield 102, 3) := by decide +kernel
theorem dX10_firstWith_20 : decode cX10_firstWith 20 = .ok (.bipush 32, 2) := by decide +kernel
theorem dX10_firstWith_22 : decode cX10_firstWith 22 = .ok (.iload_n 3, 1) := by decide +kernel
theorem dX10_firstWith_23 : decode cX10_firstWith 23 = .ok (.imul, 1) := by decide +kernel
theorem dX10_firstWith_24 : decode cX10_firstWith 24 = .ok (.iload_n 2, 1) := by decide +kernel
theorem dX10_firstWith_25 : decode cX10_firstWith 25 = .ok (.iadd, 1) := by decide +kernel
theorem dX10_firstWith_26 : decode cX10_firstWith 26 = .ok (.laload, 1) := by decide +kernel
theorem dX10_firstWith_27 : decode cX10_firstWith 27 = .ok (.lconst 0, 1) := by decide +kernel
theorem dX10_firstWith_28 : decode cX10_firstWith 28 = .ok (.lcmp, 1) := by decide +kernel
theorem dX10_firstWith_29 : decode cX10_firstWith 29 = .ok (.ifCond .eq 5, 3) := by decide +kernel
theorem dX10_firstWith_32 : decode cX10_firstWith 32 = .ok (.iload_n 3, 1) := by decide +kernel
theorem dX10_firstWith_33 : decode cX10_firstWith 33 = .ok (.ireturn, 1) := by decide +kernel
theorem dX10_firstWith_34 : decode cX10_firstWith 34 = .ok (.iinc 3 1, 3) := by decide +kernel
theorem dX10_firstWith_37 : decode cX10_firstWith 37 = .ok (.goto (-35), 3) := by decide +kernel
theorem dX10_firstWith_40 : decode cX10_firstWith 40 = .ok (.iconst (-1), 1) := by decide +kernel
theorem dX10_firstWith_41 : decode cX10_firstWith 41 = .ok (.ireturn, 1) := by decide +kernel
theorem dX10_reduce_0 : decode cX10_reduce 0 = .ok (.iconst 0, 1) := by decide +kernel
theorem dX10_reduce_1 : decode cX10_reduce 1 = .ok (.istore_n 3, 1) := by decide +kernel
theorem dX10_reduce_2 : decode cX10_reduce 2 = .ok (.iload_n 3, 1) := by decide +kernel
theorem dX10_reduce_3 : decode cX10_reduce 3 = .ok (.iload_n 2, 1) := by decide +kernel
theorem dX10_reduce_4 : decode cX10_reduce 4 = .ok (.if_icmp .ge 86, 3) := by decide +kernel
theorem dX10_reduce_7 : decode cX10_reduce 7 = .ok (.aload_n 0, 1) := by decide +kernel
theorem dX10_reduce_8 : decode cX10_reduce 8 = .ok (.iload_n 1, 1) := by decide +kernel
theorem dX10_reduce_9 : decode cX10_reduce 9 = .ok (.iload_n 3, 1) := by decide +kernel
theorem dX10_reduce_10 : decode cX10_reduce 10 = .ok (.invokevirtual 331, 3) := by decide +kernel
theorem dX10_reduce_13 : decode cX10_reduce 13 = .ok (.istore 4, 2) := by decide +kernel
theorem dX10_reduce_15 : decode cX10_reduce 15 = .ok (.iload 4, 2) := by decide +kernel
theorem dX10_reduce_17 : decode cX10_reduce 17 = .ok (.ifCond .lt 67, 3) := by decide +kernel
theorem dX10_reduce_20 : decode cX10_reduce 20 = .ok (.aload_n 0, 1) := by decide +kernel
theorem dX10_reduce_21 : decode cX10_reduce 21 = .ok (.getfield 106, 3) := by decide +kernel
theorem dX10_reduce_24 : decode cX10_reduce 24 = .ok (.iload 4, 2) := by decide +kernel
theorem dX10_reduce_26 : decode cX10_reduce 26 = .ok (.iconst 1, 1) := by decide +kernel
theorem dX10_reduce_27 : decode cX10_reduce 27 = .ok (.bastore, 1) := by decide +kernel
theorem dX10_reduce_28 : decode cX10_reduce 28 = .ok (.iconst 0, 1) := by decide +kernel
theorem dX10_reduce_29 : decode cX10_reduce 29 = .ok (.istore 5, 2) := by decide +kernel
theorem dX10_reduce_31 : decode cX10_reduce 31 = .ok (.iload 5, 2) := by decide +kernel
theorem dX10_reduce_33 : decode cX10_reduce 33 = .ok (.iload_n 1, 1) := by decide +kernel
theorem dX10_reduce_34 : decode cX10_reduce 34 = .ok (.if_icmp .ge 50, 3) := by decide +kernel
theorem dX10_reduce_37 : decode cX10_reduce 37 = .ok (.aload_n 0, 1) := by decide +kernel
theorem dX10_reduce_38 : decode cX10_reduce 38 = .ok (.getfield 106, 3) := by decide +kernel
theorem dX10_reduce_41 : decode cX10_reduce 41 = .ok (.iload 5, 2) := by decide +kernel
theorem dX10_reduce_43 : decode cX10_reduce 43 = .ok (.baload, 1) := by decide +kernel
theorem dX10_reduce_44 : decode cX10_reduce 44 = .ok (.ifCond .ne 34, 3) := by decide +kernel
theorem dX10_reduce_47 : decode cX10_reduce 47 = .ok (.aload_n 0, 1) := by decide +kernel
theorem dX10_reduce_48 : decode cX10_reduce 48 = .ok (.getfield 102, 3) := by decide +kernel
theorem dX10_reduce_51 : decode cX10_reduce 51 = .ok (.bipush 32, 2) := by decide +kernel
theorem dX10_reduce_53 : decode cX10_reduce 53 = .ok (.iload 5, 2) := by decide +kernel
theorem dX10_reduce_55 : decode cX10_reduce 55 = .ok (.imul, 1) := by decide +kernel
theorem dX10_reduce_56 : decode cX10_reduce 56 = .ok (.iload_n 3, 1) := by decide +kernel
theorem dX10_reduce_57 : decode cX10_reduce 57 = .ok (.iadd, 1) := by decide +kernel
theorem dX10_reduce_58 : decode cX10_reduce 58 = .ok (.laload, 1) := by decide +kernel
theorem dX10_reduce_59 : decode cX10_reduce 59 = .ok (.lconst 0, 1) := by decide +kernel
theorem dX10_reduce_60 : decode cX10_reduce 60 = .ok (.lcmp, 1) := by decide +kernel
theorem dX10_reduce_61 : decode cX10_reduce 61 = .ok (.ifCond .eq 17, 3) := by decide +kernel
theorem dX10_reduce_64 : decode cX10_reduce 64 = .ok (.aload_n 0, 1) := by decide +kernel
theorem dX10_reduce_65 : decode cX10_reduce 65 = .ok (.iload 5, 2) := by decide +kernel
theorem dX10_reduce_67 : decode cX10_reduce 67 = .ok (.iload 4, 2) := by decide +kernel
theorem dX10_reduce_69 : decode cX10_reduce 69 = .ok (.iload_n 3, 1) := by decide +kernel
theorem dX10_reduce_70 : decode cX10_reduce 70 = .ok (.invokevirtual 334, 3) := by decide +kernel
theorem dX10_reduce_73 : decode cX10_reduce 73 = .ok (.ifCond .ne 5, 3) := by decide +kernel
theorem dX10_reduce_76 : decode cX10_reduce 76 = .ok (.iconst 0, 1) := by decide +kernel
theorem dX10_reduce_77 : decode cX10_reduce 77 = .ok (.ireturn, 1) := by decide +kernel
theorem dX10_reduce_78 : decode cX10_reduce 78 = .ok (.iinc 5 1, 3) := by decide +kernel
theorem dX10_reduce_81 : decode cX10_reduce 81 = .ok (.goto (-50), 3) := by decide +kernel
theorem dX10_reduce_84 : decode cX10_reduce 84 = .ok (.iinc 3 1, 3) := by decide +kernel
theorem dX10_reduce_87 : decode cX10_reduce 87 = .ok (.goto (-85), 3) := by decide +kernel
theorem dX10_reduce_90 : decode cX10_reduce 90 = .ok (.iconst 1, 1) := by decide +kernel
theorem dX10_reduce_91 : decode cX10_reduce 91 = .ok (.ireturn, 1) := by decide +kernel
theorem dX10_gather_0 : decode cX10_gather 0 = .ok (.iconst 0, 1) := by decide +kernel
theorem dX10_gather_1 : decode cX10_gather 1 = .ok (.istore_n 3, 1) := by decide +kernel
theorem dX10_gather_2 : decode cX10_gather 2 = .ok (.iconst 0, 1) := by decide +kernel
theorem dX10_gather_3 : decode cX10_gather 3 = .ok (.istore 4, 2) := by decide +kernel
theorem dX10_gather_5 : decode cX10_gather 5 = .ok (.iload 4, 2) := by decide +kernel
theorem dX10_gather_7 : decode cX10_gather 7 = .ok (.iload_n 1, 1) := by decide +kernel
theorem dX10_gather_8 : decode cX10_gather 8 = .ok (.if_icmp .ge 113, 3) := by decide +kernel
theorem dX10_gather_11 : decode cX10_gather 11 = .ok (.aload_n 0, 1) := by decide +kernel
theorem dX10_gather_12 : decode cX10_gather 12 = .ok (.getfield 106, 3) := by decide +kernel
theorem dX10_gather_15 : decode cX10_gather 15 = .ok (.iload 4, 2) := by decide +kernel
theorem dX10_gather_17 : decode cX10_gather 17 = .ok (.baload, 1) := by decide +kernel
theorem dX10_gather_18 : decode cX10_gather 18 = .ok (.ifCond .ne 97, 3) := by decide +kernel
theorem dX10_gather_21 : decode cX10_gather 21 = .ok (.iconst 0, 1) := by decide +kernel
theorem dX10_gather_22 : decode cX10_gather 22 = .ok (.istore 5, 2) := by decide +kernel
theorem dX10_gather_24 : decode cX10_gather 24 = .ok (.iconst 0, 1) := by decide +kernel
theorem dX10_gather_25 : decode cX10_gather 25 = .ok (.istore 6, 2) := by decide +kernel
theorem dX10_gather_27 : decode cX10_gather 27 = .ok (.iload 6, 2) := by decide +kernel
theorem dX10_gather_29 : decode cX10_gather 29 = .ok (.bipush 16, 2) := by decide +kernel
theorem dX10_gather_31 : decode cX10_gather 31 = .ok (.if_icmp .ge 81, 3) := by decide +kernel
theorem dX10_gather_34 : decode cX10_gather 34 = .ok (.aload_n 0, 1) := by decide +kernel
theorem dX10_gather_35 : decode cX10_gather 35 = .ok (.getfield 102, 3) := by decide +kernel
theorem dX10_gather_38 : decode cX10_gather 38 = .ok (.bipush 32, 2) := by decide +kernel
theorem dX10_gather_40 : decode cX10_gather 40 = .ok (.iload 4, 2) := by decide +kernel
theorem dX10_gather_42 : decode cX10_gather 42 = .ok (.imul, 1) := by decide +kernel
theorem dX10_gather_43 : decode cX10_gather 43 = .ok (.bipush 16, 2) := by decide +kernel
theorem dX10_gather_45 : decode cX10_gather 45 = .ok (.iadd, 1) := by decide +kernel
theorem dX10_gather_46 : decode cX10_gather 46 = .ok (.iload 6, 2) := by decide +kernel
theorem dX10_gather_48 : decode cX10_gather 48 = .ok (.iadd, 1) := by decide +kernel
theorem dX10_gather_49 : decode cX10_gather 49 = .ok (.laload, 1) := by decide +kernel
theorem dX10_gather_50 : decode cX10_gather 50 = .ok (.lstore 7, 2) := by decide +kernel
theorem dX10_gather_52 : decode cX10_gather 52 = .ok (.iload 5, 2) := by decide +kernel
theorem dX10_gather_54 : decode cX10_gather 54 = .ok (.ifCond .ne 25, 3) := by decide +kernel
theorem dX10_gather_57 : decode cX10_gather 57 = .ok (.lload 7, 2) := by decide +kernel
theorem dX10_gather_59 : decode cX10_gather 59 = .ok (.lconst 0, 1) := by decide +kernel
theorem dX10_gather_60 : decode cX10_gather 60 = .ok (.lcmp, 1) := by decide +kernel
theorem dX10_gather_61 : decode cX10_gather 61 = .ok (.ifCond .eq 18, 3) := by decide +kernel
theorem dX10_gather_64 : decode cX10_gather 64 = .ok (.lload 7, 2) := by decide +kernel
theorem dX10_gather_66 : decode cX10_gather 66 = .ok (.lconst 0, 1) := by decide +kernel
theorem dX10_gather_67 : decode cX10_gather 67 = .ok (.lcmp, 1) := by decide +kernel
theorem dX10_gather_68 : decode cX10_gather 68 = .ok (.ifCond .ge 7, 3) := by decide +kernel
theorem dX10_gather_71 : decode cX10_gather 71 = .ok (.iconst (-1), 1) := by decide +kernel
theorem dX10_gather_72 : decode cX10_gather 72 = .ok (.goto 9, 3) := by decide +kernel
theorem dX10_gather_75 : decode cX10_gather 75 = .ok (.iconst 1, 1) := by decide +kernel
theorem dX10_gather_76 : decode cX10_gather 76 = .ok (.goto 5, 3) := by decide +kernel
theorem dX10_gather_79 : decode cX10_gather 79 = .ok (.iload 5, 2) := by decide +kernel
theorem dX10_gather_81 : decode cX10_gather 81 = .ok (.istore 5, 2) := by decide +kernel
theorem dX10_gather_83 : decode cX10_gather 83 = .ok (.aload_n 2, 1) := by decide +kernel
theorem dX10_gather_84 : decode cX10_gather 84 = .ok (.bipush 16, 2) := by decide +kernel
theorem dX10_gather_86 : decode cX10_gather 86 = .ok (.iload_n 3, 1) := by decide +kernel
theorem dX10_gather_87 : decode cX10_gather 87 = .ok (.imul, 1) := by decide +kernel
theorem dX10_gather_88 : decode cX10_gather 88 = .ok (.iload 6, 2) := by decide +kernel
theorem dX10_gather_90 : decode cX10_gather 90 = .ok (.iadd, 1) := by decide +kernel
theorem dX10_gather_91 : decode cX10_gather 91 = .ok (.iload 5, 2) := by decide +kernel
theorem dX10_gather_93 : decode cX10_gather 93 = .ok (.ifCond .ge 9, 3) := by decide +kernel
theorem dX10_gather_96 : decode cX10_gather 96 = .ok (.lload 7, 2) := by decide +kernel
theorem dX10_gather_98 : decode cX10_gather 98 = .ok (.lneg, 1) := by decide +kernel
theorem dX10_gather_99 : decode cX10_gather 99 = .ok (.goto 5, 3) := by decide +kernel
theorem dX10_gather_102 : decode cX10_gather 102 = .ok (.lload 7, 2) := by decide +kernel
theorem dX10_gather_104 : decode cX10_gather 104 = .ok (.l2i, 1) := by decide +kernel
theorem dX10_gather_105 : decode cX10_gather 105 = .ok (.iastore, 1) := by decide +kernel
theorem dX10_gather_106 : decode cX10_gather 106 = .ok (.iinc 6 1, 3) := by decide +kernel
theorem dX10_gather_109 : decode cX10_gather 109 = .ok (.goto (-82), 3) := by decide +kernel
theorem dX10_gather_112 : decode cX10_gather 112 = .ok (.iinc 3 1, 3) := by decide +kernel
theorem dX10_gather_115 : decode cX10_gather 115 = .ok (.iinc 4 1, 3) := by decide +kernel
theorem dX10_gather_118 : decode cX10_gather 118 = .ok (.goto (-113), 3) := by decide +kernel
theorem dX10_gather_121 : decode cX10_gather 121 = .ok (.iload_n 3, 1) := by decide +kernel
theorem dX10_gather_122 : decode cX10_gather 122 = .ok (.ireturn, 1) := by decide +kernel
theorem dX10_change_0 : decode cX10_change 0 = .ok (.aload_n 0, 1) := by decide +kernel
theorem dX10_change_1 : decode cX10_change 1 = .ok (.getfield 19, 3) := by decide +kernel
theorem dX10_change_4 : decode cX10_change 4 = .ok (.bipush 16, 2) := by decide +kernel
theorem dX10_change_6 : decode cX10_change 6 = .ok (.iload_n 1, 1) := by decide +kernel
theorem dX10_change_7 : decode cX10_change 7 = .ok (.imul, 1) := by decide +kernel
theorem dX10_change_8 : decode cX10_change 8 = .ok (.iload_n 2, 1) := by decide +kernel
theorem dX10_change_9 : decode cX10_change 9 = .ok (.iadd, 1) := by decide +kernel
theorem dX10_change_10 : decode cX10_change 10 = .ok (.iaload, 1) := by decide +kernel
theorem dX10_change_11 : decode cX10_change 11 = .ok (.aload_n 0, 1) := by decide +kernel
theorem dX10_change_12 : decode cX10_change 12 = .ok (.getfield 16, 3) := by decide +kernel
theorem dX10_change_15 : decode cX10_change 15 = .ok (.bipush 16, 2) := by decide +kernel
theorem dX10_change_17 : decode cX10_change 17 = .ok (.iload_n 1, 1) := by decide +kernel
theorem dX10_change_18 : decode cX10_change 18 = .ok (.imul, 1) := by decide +kernel
theorem dX10_change_19 : decode cX10_change 19 = .ok (.iload_n 2, 1) := by decide +kernel
theorem dX10_change_20 : decode cX10_change 20 = .ok (.iadd, 1) := by decide +kernel
theorem dX10_change_21 : decode cX10_change 21 = .ok (.iaload, 1) := by decide +kernel
theorem dX10_change_22 : decode cX10_change 22 = .ok (.isub, 1) := by decide +kernel
theorem dX10_change_23 : decode cX10_change 23 = .ok (.ireturn, 1) := by decide +kernel
theorem dX10_layRows_0 : decode cX10_layRows 0 = .ok (.iconst 0, 1) := by decide +kernel
theorem dX10_layRows_1 : decode cX10_layRows 1 = .ok (.istore 4, 2) := by decide +kernel
theorem dX10_layRows_3 : decode cX10_layRows 3 = .ok (.iload 4, 2) := by decide +kernel
theorem dX10_layRows_5 : decode cX10_layRows 5 = .ok (.bipush 16, 2) := by decide +kernel
theorem dX10_layRows_7 : decode cX10_layRows 7 = .ok (.if_icmp .ge 120, 3) := by decide +kernel
theorem dX10_layRows_10 : decode cX10_layRows 10 = .ok (.aload_n 0, 1) := by decide +kernel
theorem dX10_layRows_11 : decode cX10_layRows 11 = .ok (.getfield 106, 3) := by decide +kernel
theorem dX10_layRows_14 : decode cX10_layRows 14 = .ok (.iload 4, 2) := by decide +kernel
theorem dX10_layRows_16 : decode cX10_layRows 16 = .ok (.iconst 0, 1) := by decide +kernel
theorem dX10_layRows_17 : decode cX10_layRows 17 = .ok (.bastore, 1) := by decide +kernel
theorem dX10_layRows_18 : decode cX10_layRows 18 = .ok (.iconst 0, 1) := by decide +kernel
theorem dX10_layRows_19 : decode cX10_layRows 19 = .ok (.istore 5, 2) := by decide +kernel
theorem dX10_layRows_21 : decode cX10_layRows 21 = .ok (.iload 5, 2) := by decide +kernel
theorem dX10_layRows_23 : decode cX10_layRows 23 = .ok (.bipush 32, 2) := by decide +kernel
theorem dX10_layRows_25 : decode cX10_layRows 25 = .ok (.if_icmp .ge 37, 3) := by decide +kernel
theorem dX10_layRows_28 : decode cX10_layRows 28 = .ok (.aload_n 0, 1) := by decide +kernel
theorem dX10_layRows_29 : decode cX10_layRows 29 = .ok (.getfield 102, 3) := by decide +kernel
theorem dX10_layRows_32 : decode cX10_layRows 32 = .ok (.bipush 32, 2) := by decide +kernel
theorem dX10_layRows_34 : decode cX10_layRows 34 = .ok (.iload 4, 2) := by decide +kernel
theorem dX10_layRows_36 : decode cX10_layRows 36 = .ok (.imul, 1) := by decide +kernel
theorem dX10_layRows_37 : decode cX10_layRows 37 = .ok (.iload 5, 2) := by decide +kernel
theorem dX10_layRows_39 : decode cX10_layRows 39 = .ok (.iadd, 1) := by decide +kernel
theorem dX10_layRows_40 : decode cX10_layRows 40 = .ok (.iload 5, 2) := by decide +kernel
theorem dX10_layRows_42 : decode cX10_layRows 42 = .ok (.bipush 16, 2) := by decide +kernel
theorem dX10_layRows_44 : decode cX10_layRows 44 = .ok (.iload 4, 2) := by decide +kernel
theorem dX10_layRows_46 : decode cX10_layRows 46 = .ok (.iadd, 1) := by decide +kernel
theorem dX10_layRows_47 : decode cX10_layRows 47 = .ok (.if_icmp .ne 7, 3) := by decide +kernel
theorem dX10_layRows_50 : decode cX10_layRows 50 = .ok (.lconst 1, 1) := by decide +kernel
theorem dX10_layRows_51 : decode cX10_layRows 51 = .ok (.goto 4, 3) := by decide +kernel
theorem dX10_layRows_54 : decode cX10_layRows 54 = .ok (.lconst 0, 1) := by decide +kernel
theorem dX10_layRows_55 : decode cX10_layRows 55 = .ok (.lastore, 1) := by decide +kernel
theorem dX10_layRows_56 : decode cX10_layRows 56 = .ok (.iinc 5 1, 3) := by decide +kernel
theorem dX10_layRows_59 : decode cX10_layRows 59 = .ok (.goto (-38), 3) := by decide +kernel
theorem dX10_layRows_62 : decode cX10_layRows 62 = .ok (.iconst 0, 1) := by decide +kernel
theorem dX10_layRows_63 : decode cX10_layRows 63 = .ok (.istore 5, 2) := by decide +kernel
theorem dX10_layRows_65 : decode cX10_layRows 65 = .ok (.iload 5, 2) := by decide +kernel
theorem dX10_layRows_67 : decode cX10_layRows 67 = .ok (.iload_n 2, 1) := by decide +kernel
theorem dX10_layRows_68 : decode cX10_layRows 68 = .ok (.if_icmp .ge 53, 3) := by decide +kernel
theorem dX10_layRows_71 : decode cX10_layRows 71 = .ok (.iload 4, 2) := by decide +kernel
theorem dX10_layRows_73 : decode cX10_layRows 73 = .ok (.iload_n 1, 1) := by decide +kernel
theorem dX10_layRows_74 : decode cX10_layRows 74 = .ok (.if_icmp .ge 47, 3) := by decide +kernel
theorem dX10_layRows_77 : decode cX10_layRows 77 = .ok (.aload_n 0, 1) := by decide +kernel
theorem dX10_layRows_78 : decode cX10_layRows 78 = .ok (.getfield 102, 3) := by decide +kernel
theorem dX10_layRows_81 : decode cX10_layRows 81 = .ok (.bipush 32, 2) := by decide +kernel
theorem dX10_layRows_83 : decode cX10_layRows 83 = .ok (.iload 4, 2) := by decide +kernel
theorem dX10_layRows_85 : decode cX10_layRows 85 = .ok (.imul, 1) := by decide +kernel
theorem dX10_layRows_86 : decode cX10_layRows 86 = .ok (.iload 5, 2) := by decide +kernel
theorem dX10_layRows_88 : decode cX10_layRows 88 = .ok (.iadd, 1) := by decide +kernel
theorem dX10_layRows_89 : decode cX10_layRows 89 = .ok (.iload_n 3, 1) := by decide +kernel
theorem dX10_layRows_90 : decode cX10_layRows 90 = .ok (.ifCond .eq 15, 3) := by decide +kernel
theorem dX10_layRows_93 : decode cX10_layRows 93 = .ok (.aload_n 0, 1) := by decide +kernel
theorem dX10_layRows_94 : decode cX10_layRows 94 = .ok (.iload 5, 2) := by decide +kernel
theorem dX10_layRows_96 : decode cX10_layRows 96 = .ok (.iload 4, 2) := by decide +kernel
theorem dX10_layRows_98 : decode cX10_layRows 98 = .ok (.invokevirtual 337, 3) := by decide +kernel
theorem dX10_layRows_101 : decode cX10_layRows 101 = .ok (.i2l, 1) := by decide +kernel
theorem dX10_layRows_102 : decode cX10_layRows 102 = .ok (.goto 12, 3) := by decide +kernel
theorem dX10_layRows_105 : decode cX10_layRows 105 = .ok (.aload_n 0, 1) := by decide +kernel
theorem dX10_layRows_106 : decode cX10_layRows 106 = .ok (.iload 4, 2) := by decide +kernel
theorem dX10_layRows_108 : decode cX10_layRows 108 = .ok (.iload 5, 2) := by decide +kernel
theorem dX10_layRows_110 : decode cX10_layRows 110 = .ok (.invokevirtual 337, 3) := by decide +kernel
theorem dX10_layRows_113 : decode cX10_layRows 113 = .ok (.i2l, 1) := by decide +kernel
theorem dX10_layRows_114 : decode cX10_layRows 114 = .ok (.lastore, 1) := by decide +kernel
theorem dX10_layRows_115 : decode cX10_layRows 115 = .ok (.iinc 5 1, 3) := by decide +kernel
theorem dX10_layRows_118 : decode cX10_layRows 118 = .ok (.goto (-53), 3) := by decide +kernel
theorem dX10_layRows_121 : decode cX10_layRows 121 = .ok (.iinc 4 1, 3) := by decide +kernel
theorem dX10_layRows_124 : decode cX10_layRows 124 = .ok (.goto (-121), 3) := by decide +kernel
theorem dX10_layRows_127 : decode cX10_layRows 127 = .ok (.return_, 1) := by decide +kernel
theorem dX10_weights_0 : decode cX10_weights 0 = .ok (.aload_n 0, 1) := by decide +kernel
theorem dX10_weights_1 : decode cX10_weights 1 = .ok (.iconst 0, 1) := by decide +kernel
theorem dX10_weights_2 : decode cX10_weights 2 = .ok (.putfield 143, 3) := by decide +kernel
theorem dX10_weights_5 : decode cX10_weights 5 = .ok (.aload_n 0, 1) := by decide +kernel
theorem dX10_weights_6 : decode cX10_weights 6 = .ok (.aload_n 0, 1) := by decide +kernel
theorem dX10_weights_7 : decode cX10_weights 7 = .ok (.getfield 127, 3) := by decide +kernel
theorem dX10_weights_10 : decode cX10_weights 10 = .ok (.aload_n 0, 1) := by decide +kernel
theorem dX10_weights_11 : decode cX10_weights 11 = .ok (.getfield 130, 3) := by decide +kernel
theorem dX10_weights_14 : decode cX10_weights 14 = .ok (.iconst 1, 1) := by decide +kernel
theorem dX10_weights_15 : decode cX10_weights 15 = .ok (.invokevirtual 340, 3) := by decide +kernel
theorem dX10_weights_18 : decode cX10_weights 18 = .ok (.aload_n 0, 1) := by decide +kernel
theorem dX10_weights_19 : decode cX10_weights 19 = .ok (.aload_n 0, 1) := by decide +kernel
theorem dX10_weights_20 : decode cX10_weights 20 = .ok (.getfield 127, 3) := by decide +kernel
theorem dX10_weights_23 : decode cX10_weights 23 = .ok (.aload_n 0, 1) := by decide +kernel
theorem dX10_weights_24 : decode cX10_weights 24 = .ok (.getfield 130, 3) := by decide +kernel
theorem dX10_weights_27 : decode cX10_weights 27 = .ok (.invokevirtual 344, 3) := by decide +kernel
theorem dX10_weights_30 : decode cX10_weights 30 = .ok (.ifCond .ne 6, 3) := by decide +kernel
theorem dX10_weights_33 : decode cX10_weights 33 = .ok (.ldc 251, 2) := by decide +kernel
theorem dX10_weights_35 : decode cX10_weights 35 = .ok (.ireturn, 1) := by decide +kernel
theorem dX10_weights_36 : decode cX10_weights 36 = .ok (.aload_n 0, 1) := by decide +kernel
theorem dX10_weights_37 : decode cX10_weights 37 = .ok (.aload_n 0, 1) := by decide +kernel
theorem dX10_weights_38 : decode cX10_weights 38 = .ok (.aload_n 0, 1) := by decide +kernel
theorem dX10_weights_39 : decode cX10_weights 39 = .ok (.getfield 127, 3) := by decide +kernel
theorem dX10_weights_42 : decode cX10_weights 42 = .ok (.aload_n 0, 1) := by decide +kernel
theorem dX10_weights_43 : decode cX10_weights 43 = .ok (.getfield 109, 3) := by decide +kernel
theorem dX10_weights_46 : decode cX10_weights 46 = .ok (.invokevirtual 347, 3) := by decide +kernel
theorem dX10_weights_49 : decode cX10_weights 49 = .ok (.putfield 143, 3) := by decide +kernel
theorem dX10_weights_52 : decode cX10_weights 52 = .ok (.aload_n 0, 1) := by decide +kernel
theorem dX10_weights_53 : decode cX10_weights 53 = .ok (.getfield 143, 3) := by decide +kernel
theorem dX10_weights_56 : decode cX10_weights 56 = .ok (.ireturn, 1) := by decide +kernel
theorem dX10_weight_0 : decode cX10_weight 0 = .ok (.iload_n 1, 1) := by decide +kernel
theorem dX10_weight_1 : decode cX10_weight 1 = .ok (.iconst 0, 1) := by decide +kernel
theorem dX10_weight_2 : decode cX10_weight 2 = .ok (.aload_n 0, 1) := by decide +kernel
theorem dX10_weight_3 : decode cX10_weight 3 = .ok (.getfield 143, 3) := by decide +kernel
theorem dX10_weight_6 : decode cX10_weight 6 = .ok (.iconst 1, 1) := by decide +kernel
theorem dX10_weight_7 : decode cX10_weight 7 = .ok (.isub, 1) := by decide +kernel
theorem dX10_weight_8 : decode cX10_weight 8 = .ok (.invokestatic 155, 3) := by decide +kernel
theorem dX10_weight_11 : decode cX10_weight 11 = .ok (.ifCond .eq 25, 3) := by decide +kernel
theorem dX10_weight_14 : decode cX10_weight 14 = .ok (.aload_n 0, 1) := by decide +kernel
theorem dX10_weight_15 : decode cX10_weight 15 = .ok (.iload_n 2, 1) := by decide +kernel
theorem dX10_weight_16 : decode cX10_weight 16 = .ok (.invokevirtual 168, 3) := by decide +kernel
theorem dX10_weight_19 : decode cX10_weight 19 = .ok (.ifCond .eq 17, 3) := by decide +kernel
theorem dX10_weight_22 : decode cX10_weight 22 = .ok (.aload_n 0, 1) := by decide +kernel
theorem dX10_weight_23 : decode cX10_weight 23 = .ok (.getfield 109, 3) := by decide +kernel
theorem dX10_weight_26 : decode cX10_weight 26 = .ok (.bipush 16, 2) := by decide +kernel
theorem dX10_weight_28 : decode cX10_weight 28 = .ok (.iload_n 1, 1) := by decide +kernel
theorem dX10_weight_29 : decode cX10_weight 29 = .ok (.imul, 1) := by decide +kernel
theorem dX10_weight_30 : decode cX10_weight 30 = .ok (.iload_n 2, 1) := by decide +kernel
theorem dX10_weight_31 : decode cX10_weight 31 = .ok (.iadd, 1) := by decide +kernel
theorem dX10_weight_32 : decode cX10_weight 32 = .ok (.iaload, 1) := by decide +kernel
theorem dX10_weight_33 : decode cX10_weight 33 = .ok (.goto 5, 3) := by decide +kernel
theorem dX10_weight_36 : decode cX10_weight 36 = .ok (.ldc 159, 2) := by decide +kernel
theorem dX10_weight_38 : decode cX10_weight 38 = .ok (.ireturn, 1) := by decide +kernel
theorem dX10_rounds_0 : decode cX10_rounds 0 = .ok (.aload_n 0, 1) := by decide +kernel
theorem dX10_rounds_1 : decode cX10_rounds 1 = .ok (.iconst 0, 1) := by decide +kernel
theorem dX10_rounds_2 : decode cX10_rounds 2 = .ok (.putfield 146, 3) := by decide +kernel
theorem dX10_rounds_5 : decode cX10_rounds 5 = .ok (.aload_n 0, 1) := by decide +kernel
theorem dX10_rounds_6 : decode cX10_rounds 6 = .ok (.aload_n 0, 1) := by decide +kernel
theorem dX10_rounds_7 : decode cX10_rounds 7 = .ok (.getfield 130, 3) := by decide +kernel
theorem dX10_rounds_10 : decode cX10_rounds 10 = .ok (.aload_n 0, 1) := by decide +kernel
theorem dX10_rounds_11 : decode cX10_rounds 11 = .ok (.getfield 127, 3) := by decide +kernel
theorem dX10_rounds_14 : decode cX10_rounds 14 = .ok (.iconst 0, 1) := by decide +kernel
theorem dX10_rounds_15 : decode cX10_rounds 15 = .ok (.invokevirtual 340, 3) := by decide +kernel
theorem dX10_rounds_18 : decode cX10_rounds 18 = .ok (.aload_n 0, 1) := by decide +kernel
theorem dX10_rounds_19 : decode cX10_rounds 19 = .ok (.aload_n 0, 1) := by decide +kernel
theorem dX10_rounds_20 : decode cX10_rounds 20 = .ok (.getfield 130, 3) := by decide +kernel
theorem dX10_rounds_23 : decode cX10_rounds 23 = .ok (.aload_n 0, 1) := by decide +kernel
theorem dX10_rounds_24 : decode cX10_rounds 24 = .ok (.getfield 127, 3) := by decide +kernel
theorem dX10_rounds_27 : decode cX10_rounds 27 = .ok (.invokevirtual 344, 3) := by decide +kernel
theorem dX10_rounds_30 : decode cX10_rounds 30 = .ok (.ifCond .ne 6, 3) := by decide +kernel
theorem dX10_rounds_33 : decode cX10_rounds 33 = .ok (.ldc 251, 2) := by decide +kernel
theorem dX10_rounds_35 : decode cX10_rounds 35 = .ok (.ireturn, 1) := by decide +kernel
theorem dX10_rounds_36 : decode cX10_rounds 36 = .ok (.aload_n 0, 1) := by decide +kernel
theorem dX10_rounds_37 : decode cX10_rounds 37 = .ok (.aload_n 0, 1) := by decide +kernel
theorem dX10_rounds_38 : decode cX10_rounds 38 = .ok (.aload_n 0, 1) := by decide +kernel
theorem dX10_rounds_39 : decode cX10_rounds 39 = .ok (.getfield 130, 3) := by decide +kernel
theorem dX10_rounds_42 : decode cX10_rounds 42 = .ok (.aload_n 0, 1) := by decide +kernel
theorem dX10_rounds_43 : decode cX10_rounds 43 = .ok (.getfield 112, 3) := by decide +kernel
theorem dX10_rounds_46 : decode cX10_rounds 46 = .ok (.invokevirtual 347, 3) := by decide +kernel
theorem dX10_rounds_49 : decode cX10_rounds 49 = .ok (.putfield 146, 3) := by decide +kernel
theorem dX10_rounds_52 : decode cX10_rounds 52 = .ok (.aload_n 0, 1) := by decide +kernel
theorem dX10_rounds_53 : decode cX10_rounds 53 = .ok (.getfield 146, 3) := by decide +kernel
theorem dX10_rounds_56 : decode cX10_rounds 56 = .ok (.ireturn, 1) := by decide +kernel
theorem dX10_round_0 : decode cX10_round 0 = .ok (.iload_n 1, 1) := by decide +kernel
theorem dX10_round_1 : decode cX10_round 1 = .ok (.iconst 0, 1) := by decide +kernel
theorem dX10_round_2 : decode cX10_round 2 = .ok (.aload_n 0, 1) := by decide +kernel
theorem dX10_round_3 : decode cX10_round 3 = .ok (.getfield 146, 3) := by decide +kernel
theorem dX10_round_6 : decode cX10_round 6 = .ok (.iconst 1, 1) := by decide +kernel
theorem dX10_round_7 : decode cX10_round 7 = .ok (.isub, 1) := by decide +kernel
theorem dX10_round_8 : decode cX10_round 8 = .ok (.invokestatic 155, 3) := by decide +kernel
theorem dX10_round_11 : decode cX10_round 11 = .ok (.ifCond .eq 25, 3) := by decide +kernel
theorem dX10_round_14 : decode cX10_round 14 = .ok (.aload_n 0, 1) := by decide +kernel
theorem dX10_round_15 : decode cX10_round 15 = .ok (.iload_n 2, 1) := by decide +kernel
theorem dX10_round_16 : decode cX10_round 16 = .ok (.invokevirtual 164, 3) := by decide +kernel
theorem dX10_round_19 : decode cX10_round 19 = .ok (.ifCond .eq 17, 3) := by decide +kernel
theorem dX10_round_22 : decode cX10_round 22 = .ok (.aload_n 0, 1) := by decide +kernel
theorem dX10_round_23 : decode cX10_round 23 = .ok (.getfield 112, 3) := by decide +kernel
theorem dX10_round_26 : decode cX10_round 26 = .ok (.bipush 16, 2) := by decide +kernel
theorem dX10_round_28 : decode cX10_round 28 = .ok (.iload_n 1, 1) := by decide +kernel
theorem dX10_round_29 : decode cX10_round 29 = .ok (.imul, 1) := by decide +kernel
theorem dX10_round_30 : decode cX10_round 30 = .ok (.iload_n 2, 1) := by decide +kernel
theorem dX10_round_31 : decode cX10_round 31 = .ok (.iadd, 1) := by decide +kernel
theorem dX10_round_32 : decode cX10_round 32 = .ok (.iaload, 1) := by decide +kernel
theorem dX10_round_33 : decode cX10_round 33 = .ok (.goto 5, 3) := by decide +kernel
theorem dX10_round_36 : decode cX10_round 36 = .ok (.ldc 159, 2) := by decide +kernel
theorem dX10_round_38 : decode cX10_round 38 = .ok (.ireturn, 1) := by decide +kernel
theorem dX10_keeps_0 : decode cX10_keeps 0 = .ok (.iconst 1, 1) := by decide +kernel
theorem dX10_keeps_1 : decode cX10_keeps 1 = .ok (.istore_n 1, 1) := by decide +kernel
theorem dX10_keeps_2 : decode cX10_keeps 2 = .ok (.iconst 0, 1) := by decide +kernel
theorem dX10_keeps_3 : decode cX10_keeps 3 = .ok (.istore_n 2, 1) := by decide +kernel
theorem dX10_keeps_4 : decode cX10_keeps 4 = .ok (.iload_n 2, 1) := by decide +kernel
theorem dX10_keeps_5 : decode cX10_keeps 5 = .ok (.aload_n 0, 1) := by decide +kernel
theorem dX10_keeps_6 : decode cX10_keeps 6 = .ok (.getfield 130, 3) := by decide +kernel
theorem dX10_keeps_9 : decode cX10_keeps 9 = .ok (.if_icmp .ge 64, 3) := by decide +kernel
theorem dX10_keeps_12 : decode cX10_keeps 12 = .ok (.lconst 0, 1) := by decide +kernel
theorem dX10_keeps_13 : decode cX10_keeps 13 = .ok (.lstore_n 3, 1) := by decide +kernel
theorem dX10_keeps_14 : decode cX10_keeps 14 = .ok (.iconst 0, 1) := by decide +kernel
theorem dX10_keeps_15 : decode cX10_keeps 15 = .ok (.istore 5, 2) := by decide +kernel
theorem dX10_keeps_17 : decode cX10_keeps 17 = .ok (.iload 5, 2) := by decide +kernel
theorem dX10_keeps_19 : decode cX10_keeps 19 = .ok (.aload_n 0, 1) := by decide +kernel
theorem dX10_keeps_20 : decode cX10_keeps 20 = .ok (.getfield 127, 3) := by decide +kernel
theorem dX10_keeps_23 : decode cX10_keeps 23 = .ok (.if_icmp .ge 28, 3) := by decide +kernel
theorem dX10_keeps_26 : decode cX10_keeps 26 = .ok (.lload_n 3, 1) := by decide +kernel
theorem dX10_keeps_27 : decode cX10_keeps 27 = .ok (.aload_n 0, 1) := by decide +kernel
theorem dX10_keeps_28 : decode cX10_keeps 28 = .ok (.iload 5, 2) := by decide +kernel
theorem dX10_keeps_30 : decode cX10_keeps 30 = .ok (.invokevirtual 258, 3) := by decide +kernel
theorem dX10_keeps_33 : decode cX10_keeps 33 = .ok (.i2l, 1) := by decide +kernel
theorem dX10_keeps_34 : decode cX10_keeps 34 = .ok (.aload_n 0, 1) := by decide +kernel
theorem dX10_keeps_35 : decode cX10_keeps 35 = .ok (.iload_n 2, 1) := by decide +kernel
theorem dX10_keeps_36 : decode cX10_keeps 36 = .ok (.iload 5, 2) := by decide +kernel
theorem dX10_keeps_38 : decode cX10_keeps 38 = .ok (.invokevirtual 337, 3) := by decide +kernel
theorem dX10_keeps_41 : decode cX10_keeps 41 = .ok (.i2l, 1) := by decide +kernel
theorem dX10_keeps_42 : decode cX10_keeps 42 = .ok (.lmul, 1) := by decide +kernel
theorem dX10_keeps_43 : decode cX10_keeps 43 = .ok (.ladd, 1) := by decide +kernel
theorem dX10_keeps_44 : decode cX10_keeps 44 = .ok (.lstore_n 3, 1) := by decide +kernel
theorem dX10_keeps_45 : decode cX10_keeps 45 = .ok (.iinc 5 1, 3) := by decide +kernel
theorem dX10_keeps_48 : decode cX10_keeps 48 = .ok (.goto (-31), 3) := by decide +kernel
theorem dX10_keeps_51 : decode cX10_keeps 51 = .ok (.iload_n 1, 1) := by decide +kernel
theorem dX10_keeps_52 : decode cX10_keeps 52 = .ok (.ifCond .eq 13, 3) := by decide +kernel
theorem dX10_keeps_55 : decode cX10_keeps 55 = .ok (.lload_n 3, 1) := by decide +kernel
theorem dX10_keeps_56 : decode cX10_keeps 56 = .ok (.lconst 0, 1) := by decide +kernel
theorem dX10_keeps_57 : decode cX10_keeps 57 = .ok (.lcmp, 1) := by decide +kernel
theorem dX10_keeps_58 : decode cX10_keeps 58 = .ok (.ifCond .ne 7, 3) := by decide +kernel
theorem dX10_keeps_61 : decode cX10_keeps 61 = .ok (.iconst 1, 1) := by decide +kernel
theorem dX10_keeps_62 : decode cX10_keeps 62 = .ok (.goto 4, 3) := by decide +kernel
theorem dX10_keeps_65 : decode cX10_keeps 65 = .ok (.iconst 0, 1) := by decide +kernel
theorem dX10_keeps_66 : decode cX10_keeps 66 = .ok (.istore_n 1, 1) := by decide +kernel
theorem dX10_keeps_67 : decode cX10_keeps 67 = .ok (.iinc 2 1, 3) := by decide +kernel
theorem dX10_keeps_70 : decode cX10_keeps 70 = .ok (.goto (-66), 3) := by decide +kernel
theorem dX10_keeps_73 : decode cX10_keeps 73 = .ok (.iload_n 1, 1) := by decide +kernel
theorem dX10_keeps_74 : decode cX10_keeps 74 = .ok (.ifCond .eq 7, 3) := by decide +kernel
theorem dX10_keeps_77 : decode cX10_keeps 77 = .ok (.iconst 1, 1) := by decide +kernel
theorem dX10_keeps_78 : decode cX10_keeps 78 = .ok (.goto 4, 3) := by decide +kernel
theorem dX10_keeps_81 : decode cX10_keeps 81 = .ok (.iconst 0, 1) := by decide +kernel
theorem dX10_keeps_82 : decode cX10_keeps 82 = .ok (.ireturn, 1) := by decide +kernel
theorem dX10_turns_0 : decode cX10_turns 0 = .ok (.iconst 1, 1) := by decide +kernel
theorem dX10_turns_1 : decode cX10_turns 1 = .ok (.istore_n 1, 1) := by decide +kernel
theorem dX10_turns_2 : decode cX10_turns 2 = .ok (.iconst 0, 1) := by decide +kernel
theorem dX10_turns_3 : decode cX10_turns 3 = .ok (.istore_n 2, 1) := by decide +kernel
theorem dX10_turns_4 : decode cX10_turns 4 = .ok (.iload_n 2, 1) := by decide +kernel
theorem dX10_turns_5 : decode cX10_turns 5 = .ok (.aload_n 0, 1) := by decide +kernel
theorem dX10_turns_6 : decode cX10_turns 6 = .ok (.getfield 130, 3) := by decide +kernel
theorem dX10_turns_9 : decode cX10_turns 9 = .ok (.if_icmp .ge 27, 3) := by decide +kernel
theorem dX10_turns_12 : decode cX10_turns 12 = .ok (.iload_n 1, 1) := by decide +kernel
theorem dX10_turns_13 : decode cX10_turns 13 = .ok (.ifCond .eq 15, 3) := by decide +kernel
theorem dX10_turns_16 : decode cX10_turns 16 = .ok (.aload_n 0, 1) := by decide +kernel
theorem dX10_turns_17 : decode cX10_turns 17 = .ok (.iload_n 2, 1) := by decide +kernel
theorem dX10_turns_18 : decode cX10_turns 18 = .ok (.invokevirtual 258, 3) := by decide +kernel
theorem dX10_turns_21 : decode cX10_turns 21 = .ok (.ifCond .lt 7, 3) := by decide +kernel
theorem dX10_turns_24 : decode cX10_turns 24 = .ok (.iconst 1, 1) := by decide +kernel
theorem dX10_turns_25 : decode cX10_turns 25 = .ok (.goto 4, 3) := by decide +kernel
theorem dX10_turns_28 : decode cX10_turns 28 = .ok (.iconst 0, 1) := by decide +kernel
theorem dX10_turns_29 : decode cX10_turns 29 = .ok (.istore_n 1, 1) := by decide +kernel
theorem dX10_turns_30 : decode cX10_turns 30 = .ok (.iinc 2 1, 3) := by decide +kernel
theorem dX10_turns_33 : decode cX10_turns 33 = .ok (.goto (-29), 3) := by decide +kernel
theorem dX10_turns_36 : decode cX10_turns 36 = .ok (.iconst 0, 1) := by decide +kernel
theorem dX10_turns_37 : decode cX10_turns 37 = .ok (.istore_n 2, 1) := by decide +kernel
theorem dX10_turns_38 : decode cX10_turns 38 = .ok (.iload_n 2, 1) := by decide +kernel
theorem dX10_turns_39 : decode cX10_turns 39 = .ok (.aload_n 0, 1) := by decide +kernel
theorem dX10_turns_40 : decode cX10_turns 40 = .ok (.getfield 127, 3) := by decide +kernel
theorem dX10_turns_43 : decode cX10_turns 43 = .ok (.if_icmp .ge 64, 3) := by decide +kernel
theorem dX10_turns_46 : decode cX10_turns 46 = .ok (.lconst 0, 1) := by decide +kernel
theorem dX10_turns_47 : decode cX10_turns 47 = .ok (.lstore_n 3, 1) := by decide +kernel
theorem dX10_turns_48 : decode cX10_turns 48 = .ok (.iconst 0, 1) := by decide +kernel
theorem dX10_turns_49 : decode cX10_turns 49 = .ok (.istore 5, 2) := by decide +kernel
theorem dX10_turns_51 : decode cX10_turns 51 = .ok (.iload 5, 2) := by decide +kernel
theorem dX10_turns_53 : decode cX10_turns 53 = .ok (.aload_n 0, 1) := by decide +kernel
theorem dX10_turns_54 : decode cX10_turns 54 = .ok (.getfield 130, 3) := by decide +kernel
theorem dX10_turns_57 : decode cX10_turns 57 = .ok (.if_icmp .ge 28, 3) := by decide +kernel
theorem dX10_turns_60 : decode cX10_turns 60 = .ok (.lload_n 3, 1) := by decide +kernel
theorem dX10_turns_61 : decode cX10_turns 61 = .ok (.aload_n 0, 1) := by decide +kernel
theorem dX10_turns_62 : decode cX10_turns 62 = .ok (.iload 5, 2) := by decide +kernel
theorem dX10_turns_64 : decode cX10_turns 64 = .ok (.invokevirtual 258, 3) := by decide +kernel
theorem dX10_turns_67 : decode cX10_turns 67 = .ok (.i2l, 1) := by decide +kernel
theorem dX10_turns_68 : decode cX10_turns 68 = .ok (.aload_n 0, 1) := by decide +kernel
theorem dX10_turns_69 : decode cX10_turns 69 = .ok (.iload 5, 2) := by decide +kernel
theorem dX10_turns_71 : decode cX10_turns 71 = .ok (.iload_n 2, 1) := by decide +kernel
theorem dX10_turns_72 : decode cX10_turns 72 = .ok (.invokevirtual 337, 3) := by decide +kernel
theorem dX10_turns_75 : decode cX10_turns 75 = .ok (.i2l, 1) := by decide +kernel
theorem dX10_turns_76 : decode cX10_turns 76 = .ok (.lmul, 1) := by decide +kernel
