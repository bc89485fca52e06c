theorem dX9_way_22 : decode cX9_way 22 = .ok (.iload_n 1, 1) := by decide +kernel
theorem dX9_way_23 : decode cX9_way 23 = .ok (.aload_n 0, 1) := by decide +kernel
theorem dX9_way_24 : decode cX9_way 24 = .ok (.getfield 36, 3) := by decide +kernel
theorem dX9_way_27 : decode cX9_way 27 = .ok (.invokevirtual 266, 3) := by decide +kernel
theorem dX9_way_30 : decode cX9_way 30 = .ok (.aload_n 0, 1) := by decide +kernel
theorem dX9_way_31 : decode cX9_way 31 = .ok (.getfield 36, 3) := by decide +kernel
theorem dX9_way_34 : decode cX9_way 34 = .ok (.getfield 224, 3) := by decide +kernel
theorem dX9_way_37 : decode cX9_way 37 = .ok (.ireturn, 1) := by decide +kernel
theorem dX9_find_0 : decode cX9_find 0 = .ok (.aload_n 0, 1) := by decide +kernel
theorem dX9_find_1 : decode cX9_find 1 = .ok (.getfield 43, 3) := by decide +kernel
theorem dX9_find_4 : decode cX9_find 4 = .ok (.getfield 270, 3) := by decide +kernel
theorem dX9_find_7 : decode cX9_find 7 = .ok (.ifCond .ne 6, 3) := by decide +kernel
theorem dX9_find_10 : decode cX9_find 10 = .ok (.ldc 113, 2) := by decide +kernel
theorem dX9_find_12 : decode cX9_find 12 = .ok (.ireturn, 1) := by decide +kernel
theorem dX9_find_13 : decode cX9_find 13 = .ok (.aload_n 0, 1) := by decide +kernel
theorem dX9_find_14 : decode cX9_find 14 = .ok (.invokevirtual 274, 3) := by decide +kernel
theorem dX9_find_17 : decode cX9_find 17 = .ok (.aload_n 0, 1) := by decide +kernel
theorem dX9_find_18 : decode cX9_find 18 = .ok (.getfield 43, 3) := by decide +kernel
theorem dX9_find_21 : decode cX9_find 21 = .ok (.getfield 248, 3) := by decide +kernel
theorem dX9_find_24 : decode cX9_find 24 = .ok (.aload_n 0, 1) := by decide +kernel
theorem dX9_find_25 : decode cX9_find 25 = .ok (.getfield 23, 3) := by decide +kernel
theorem dX9_find_28 : decode cX9_find 28 = .ok (.invokevirtual 277, 3) := by decide +kernel
theorem dX9_find_31 : decode cX9_find 31 = .ok (.istore_n 1, 1) := by decide +kernel
theorem dX9_find_32 : decode cX9_find 32 = .ok (.iload_n 1, 1) := by decide +kernel
theorem dX9_find_33 : decode cX9_find 33 = .ok (.ifCond .ge 8, 3) := by decide +kernel
theorem dX9_find_36 : decode cX9_find 36 = .ok (.ldc 75, 2) := by decide +kernel
theorem dX9_find_38 : decode cX9_find 38 = .ok (.goto 4, 3) := by decide +kernel
theorem dX9_find_41 : decode cX9_find 41 = .ok (.iload_n 1, 1) := by decide +kernel
theorem dX9_find_42 : decode cX9_find 42 = .ok (.ireturn, 1) := by decide +kernel
theorem dX9_dead_0 : decode cX9_dead 0 = .ok (.iload_n 1, 1) := by decide +kernel
theorem dX9_dead_1 : decode cX9_dead 1 = .ok (.ifCond .ge 6, 3) := by decide +kernel
theorem dX9_dead_4 : decode cX9_dead 4 = .ok (.ldc 79, 2) := by decide +kernel
theorem dX9_dead_6 : decode cX9_dead 6 = .ok (.ireturn, 1) := by decide +kernel
theorem dX9_dead_7 : decode cX9_dead 7 = .ok (.aload_n 0, 1) := by decide +kernel
theorem dX9_dead_8 : decode cX9_dead 8 = .ok (.getfield 43, 3) := by decide +kernel
theorem dX9_dead_11 : decode cX9_dead 11 = .ok (.getfield 270, 3) := by decide +kernel
theorem dX9_dead_14 : decode cX9_dead 14 = .ok (.ifCond .eq 14, 3) := by decide +kernel
theorem dX9_dead_17 : decode cX9_dead 17 = .ok (.aload_n 0, 1) := by decide +kernel
theorem dX9_dead_18 : decode cX9_dead 18 = .ok (.getfield 43, 3) := by decide +kernel
theorem dX9_dead_21 : decode cX9_dead 21 = .ok (.iload_n 1, 1) := by decide +kernel
theorem dX9_dead_22 : decode cX9_dead 22 = .ok (.invokevirtual 280, 3) := by decide +kernel
theorem dX9_dead_25 : decode cX9_dead 25 = .ok (.goto 5, 3) := by decide +kernel
theorem dX9_dead_28 : decode cX9_dead 28 = .ok (.ldc 113, 2) := by decide +kernel
theorem dX9_dead_30 : decode cX9_dead 30 = .ok (.ireturn, 1) := by decide +kernel
theorem dX9_stuck_0 : decode cX9_stuck 0 = .ok (.aload_n 0, 1) := by decide +kernel
theorem dX9_stuck_1 : decode cX9_stuck 1 = .ok (.getfield 10, 3) := by decide +kernel
theorem dX9_stuck_4 : decode cX9_stuck 4 = .ok (.iload_n 1, 1) := by decide +kernel
theorem dX9_stuck_5 : decode cX9_stuck 5 = .ok (.invokevirtual 149, 3) := by decide +kernel
theorem dX9_stuck_8 : decode cX9_stuck 8 = .ok (.ifCond .ne 6, 3) := by decide +kernel
theorem dX9_stuck_11 : decode cX9_stuck 11 = .ok (.ldc 79, 2) := by decide +kernel
theorem dX9_stuck_13 : decode cX9_stuck 13 = .ok (.ireturn, 1) := by decide +kernel
theorem dX9_stuck_14 : decode cX9_stuck 14 = .ok (.aload_n 0, 1) := by decide +kernel
theorem dX9_stuck_15 : decode cX9_stuck 15 = .ok (.getfield 43, 3) := by decide +kernel
theorem dX9_stuck_18 : decode cX9_stuck 18 = .ok (.getfield 270, 3) := by decide +kernel
theorem dX9_stuck_21 : decode cX9_stuck 21 = .ok (.ifCond .eq 14, 3) := by decide +kernel
theorem dX9_stuck_24 : decode cX9_stuck 24 = .ok (.aload_n 0, 1) := by decide +kernel
theorem dX9_stuck_25 : decode cX9_stuck 25 = .ok (.getfield 43, 3) := by decide +kernel
theorem dX9_stuck_28 : decode cX9_stuck 28 = .ok (.iload_n 1, 1) := by decide +kernel
theorem dX9_stuck_29 : decode cX9_stuck 29 = .ok (.invokevirtual 283, 3) := by decide +kernel
theorem dX9_stuck_32 : decode cX9_stuck 32 = .ok (.goto 5, 3) := by decide +kernel
theorem dX9_stuck_35 : decode cX9_stuck 35 = .ok (.ldc 113, 2) := by decide +kernel
theorem dX9_stuck_37 : decode cX9_stuck 37 = .ok (.ireturn, 1) := by decide +kernel
theorem dX9_home_0 : decode cX9_home 0 = .ok (.aload_n 0, 1) := by decide +kernel
theorem dX9_home_1 : decode cX9_home 1 = .ok (.getfield 43, 3) := by decide +kernel
theorem dX9_home_4 : decode cX9_home 4 = .ok (.iload_n 1, 1) := by decide +kernel
theorem dX9_home_5 : decode cX9_home 5 = .ok (.invokevirtual 256, 3) := by decide +kernel
theorem dX9_home_8 : decode cX9_home 8 = .ok (.istore_n 2, 1) := by decide +kernel
theorem dX9_home_9 : decode cX9_home 9 = .ok (.iload_n 2, 1) := by decide +kernel
theorem dX9_home_10 : decode cX9_home 10 = .ok (.ifCond .eq 5, 3) := by decide +kernel
theorem dX9_home_13 : decode cX9_home 13 = .ok (.iload_n 2, 1) := by decide +kernel
theorem dX9_home_14 : decode cX9_home 14 = .ok (.ireturn, 1) := by decide +kernel
theorem dX9_home_15 : decode cX9_home 15 = .ok (.aload_n 0, 1) := by decide +kernel
theorem dX9_home_16 : decode cX9_home 16 = .ok (.getfield 43, 3) := by decide +kernel
theorem dX9_home_19 : decode cX9_home 19 = .ok (.iload_n 1, 1) := by decide +kernel
theorem dX9_home_20 : decode cX9_home 20 = .ok (.invokevirtual 286, 3) := by decide +kernel
theorem dX9_home_23 : decode cX9_home 23 = .ok (.ldc 75, 2) := by decide +kernel
theorem dX9_home_25 : decode cX9_home 25 = .ok (.if_icmp .ne 7, 3) := by decide +kernel
theorem dX9_home_28 : decode cX9_home 28 = .ok (.iconst 1, 1) := by decide +kernel
theorem dX9_home_29 : decode cX9_home 29 = .ok (.goto 4, 3) := by decide +kernel
theorem dX9_home_32 : decode cX9_home 32 = .ok (.iconst 0, 1) := by decide +kernel
theorem dX9_home_33 : decode cX9_home 33 = .ok (.ireturn, 1) := by decide +kernel
theorem dX9_works_0 : decode cX9_works 0 = .ok (.aload_n 0, 1) := by decide +kernel
theorem dX9_works_1 : decode cX9_works 1 = .ok (.getfield 10, 3) := by decide +kernel
theorem dX9_works_4 : decode cX9_works 4 = .ok (.iload_n 1, 1) := by decide +kernel
theorem dX9_works_5 : decode cX9_works 5 = .ok (.invokevirtual 152, 3) := by decide +kernel
theorem dX9_works_8 : decode cX9_works 8 = .ok (.ifCond .eq 26, 3) := by decide +kernel
theorem dX9_works_11 : decode cX9_works 11 = .ok (.aload_n 0, 1) := by decide +kernel
theorem dX9_works_12 : decode cX9_works 12 = .ok (.getfield 10, 3) := by decide +kernel
theorem dX9_works_15 : decode cX9_works 15 = .ok (.iload_n 2, 1) := by decide +kernel
theorem dX9_works_16 : decode cX9_works 16 = .ok (.invokevirtual 152, 3) := by decide +kernel
theorem dX9_works_19 : decode cX9_works 19 = .ok (.ifCond .eq 15, 3) := by decide +kernel
theorem dX9_works_22 : decode cX9_works 22 = .ok (.iload_n 3, 1) := by decide +kernel
theorem dX9_works_23 : decode cX9_works 23 = .ok (.iconst 1, 1) := by decide +kernel
theorem dX9_works_24 : decode cX9_works 24 = .ok (.if_icmp .lt 10, 3) := by decide +kernel
theorem dX9_works_27 : decode cX9_works 27 = .ok (.iload_n 3, 1) := by decide +kernel
theorem dX9_works_28 : decode cX9_works 28 = .ok (.sipush 8000, 3) := by decide +kernel
theorem dX9_works_31 : decode cX9_works 31 = .ok (.if_icmp .le 6, 3) := by decide +kernel
theorem dX9_works_34 : decode cX9_works 34 = .ok (.ldc 79, 2) := by decide +kernel
theorem dX9_works_36 : decode cX9_works 36 = .ok (.ireturn, 1) := by decide +kernel
theorem dX9_works_37 : decode cX9_works 37 = .ok (.aload_n 0, 1) := by decide +kernel
theorem dX9_works_38 : decode cX9_works 38 = .ok (.getfield 10, 3) := by decide +kernel
theorem dX9_works_41 : decode cX9_works 41 = .ok (.getfield 233, 3) := by decide +kernel
theorem dX9_works_44 : decode cX9_works 44 = .ok (.ifCond .le 6, 3) := by decide +kernel
theorem dX9_works_47 : decode cX9_works 47 = .ok (.ldc 113, 2) := by decide +kernel
theorem dX9_works_49 : decode cX9_works 49 = .ok (.ireturn, 1) := by decide +kernel
theorem dX9_works_50 : decode cX9_works 50 = .ok (.aload_n 0, 1) := by decide +kernel
theorem dX9_works_51 : decode cX9_works 51 = .ok (.getfield 23, 3) := by decide +kernel
theorem dX9_works_54 : decode cX9_works 54 = .ok (.iload_n 1, 1) := by decide +kernel
theorem dX9_works_55 : decode cX9_works 55 = .ok (.invokevirtual 289, 3) := by decide +kernel
theorem dX9_works_58 : decode cX9_works 58 = .ok (.aload_n 0, 1) := by decide +kernel
theorem dX9_works_59 : decode cX9_works 59 = .ok (.getfield 43, 3) := by decide +kernel
theorem dX9_works_62 : decode cX9_works 62 = .ok (.aload_n 0, 1) := by decide +kernel
theorem dX9_works_63 : decode cX9_works 63 = .ok (.getfield 10, 3) := by decide +kernel
theorem dX9_works_66 : decode cX9_works 66 = .ok (.aload_n 0, 1) := by decide +kernel
theorem dX9_works_67 : decode cX9_works 67 = .ok (.getfield 23, 3) := by decide +kernel
theorem dX9_works_70 : decode cX9_works 70 = .ok (.iload_n 3, 1) := by decide +kernel
theorem dX9_works_71 : decode cX9_works 71 = .ok (.invokevirtual 244, 3) := by decide +kernel
theorem dX9_works_74 : decode cX9_works 74 = .ok (.ifCond .ne 6, 3) := by decide +kernel
theorem dX9_works_77 : decode cX9_works 77 = .ok (.ldc 255, 2) := by decide +kernel
theorem dX9_works_79 : decode cX9_works 79 = .ok (.ireturn, 1) := by decide +kernel
theorem dX9_works_80 : decode cX9_works 80 = .ok (.aload_n 0, 1) := by decide +kernel
theorem dX9_works_81 : decode cX9_works 81 = .ok (.getfield 23, 3) := by decide +kernel
theorem dX9_works_84 : decode cX9_works 84 = .ok (.iload_n 2, 1) := by decide +kernel
theorem dX9_works_85 : decode cX9_works 85 = .ok (.invokevirtual 289, 3) := by decide +kernel
theorem dX9_works_88 : decode cX9_works 88 = .ok (.aload_n 0, 1) := by decide +kernel
theorem dX9_works_89 : decode cX9_works 89 = .ok (.getfield 43, 3) := by decide +kernel
theorem dX9_works_92 : decode cX9_works 92 = .ok (.getfield 248, 3) := by decide +kernel
theorem dX9_works_95 : decode cX9_works 95 = .ok (.aload_n 0, 1) := by decide +kernel
theorem dX9_works_96 : decode cX9_works 96 = .ok (.getfield 23, 3) := by decide +kernel
theorem dX9_works_99 : decode cX9_works 99 = .ok (.invokevirtual 277, 3) := by decide +kernel
theorem dX9_works_102 : decode cX9_works 102 = .ok (.istore 4, 2) := by decide +kernel
theorem dX9_works_104 : decode cX9_works 104 = .ok (.aload_n 0, 1) := by decide +kernel
theorem dX9_works_105 : decode cX9_works 105 = .ok (.iload 4, 2) := by decide +kernel
theorem dX9_works_107 : decode cX9_works 107 = .ok (.ifCond .ge 7, 3) := by decide +kernel
theorem dX9_works_110 : decode cX9_works 110 = .ok (.iconst 0, 1) := by decide +kernel
theorem dX9_works_111 : decode cX9_works 111 = .ok (.goto 12, 3) := by decide +kernel
theorem dX9_works_114 : decode cX9_works 114 = .ok (.aload_n 0, 1) := by decide +kernel
theorem dX9_works_115 : decode cX9_works 115 = .ok (.getfield 43, 3) := by decide +kernel
theorem dX9_works_118 : decode cX9_works 118 = .ok (.iload 4, 2) := by decide +kernel
theorem dX9_works_120 : decode cX9_works 120 = .ok (.invokevirtual 286, 3) := by decide +kernel
theorem dX9_works_123 : decode cX9_works 123 = .ok (.putfield 76, 3) := by decide +kernel
theorem dX9_works_126 : decode cX9_works 126 = .ok (.aload_n 0, 1) := by decide +kernel
theorem dX9_works_127 : decode cX9_works 127 = .ok (.getfield 76, 3) := by decide +kernel
theorem dX9_works_130 : decode cX9_works 130 = .ok (.ldc 75, 2) := by decide +kernel
theorem dX9_works_132 : decode cX9_works 132 = .ok (.if_icmp .eq 5, 3) := by decide +kernel
theorem dX9_works_135 : decode cX9_works 135 = .ok (.iconst 1, 1) := by decide +kernel
theorem dX9_works_136 : decode cX9_works 136 = .ok (.ireturn, 1) := by decide +kernel
theorem dX9_works_137 : decode cX9_works 137 = .ok (.aload_n 0, 1) := by decide +kernel
theorem dX9_works_138 : decode cX9_works 138 = .ok (.aload_n 0, 1) := by decide +kernel
theorem dX9_works_139 : decode cX9_works 139 = .ok (.getfield 43, 3) := by decide +kernel
theorem dX9_works_142 : decode cX9_works 142 = .ok (.iload_n 2, 1) := by decide +kernel
theorem dX9_works_143 : decode cX9_works 143 = .ok (.iload 4, 2) := by decide +kernel
theorem dX9_works_145 : decode cX9_works 145 = .ok (.invokevirtual 292, 3) := by decide +kernel
theorem dX9_works_148 : decode cX9_works 148 = .ok (.putfield 76, 3) := by decide +kernel
theorem dX9_works_151 : decode cX9_works 151 = .ok (.aload_n 0, 1) := by decide +kernel
theorem dX9_works_152 : decode cX9_works 152 = .ok (.getfield 76, 3) := by decide +kernel
theorem dX9_works_155 : decode cX9_works 155 = .ok (.ldc 75, 2) := by decide +kernel
theorem dX9_works_157 : decode cX9_works 157 = .ok (.if_icmp .eq 5, 3) := by decide +kernel
theorem dX9_works_160 : decode cX9_works 160 = .ok (.iconst 2, 1) := by decide +kernel
theorem dX9_works_161 : decode cX9_works 161 = .ok (.ireturn, 1) := by decide +kernel
theorem dX9_works_162 : decode cX9_works 162 = .ok (.aload_n 0, 1) := by decide +kernel
theorem dX9_works_163 : decode cX9_works 163 = .ok (.aload_n 0, 1) := by decide +kernel
theorem dX9_works_164 : decode cX9_works 164 = .ok (.getfield 43, 3) := by decide +kernel
theorem dX9_works_167 : decode cX9_works 167 = .ok (.invokevirtual 295, 3) := by decide +kernel
theorem dX9_works_170 : decode cX9_works 170 = .ok (.putfield 76, 3) := by decide +kernel
theorem dX9_works_173 : decode cX9_works 173 = .ok (.aload_n 0, 1) := by decide +kernel
theorem dX9_works_174 : decode cX9_works 174 = .ok (.getfield 76, 3) := by decide +kernel
theorem dX9_works_177 : decode cX9_works 177 = .ok (.ldc 75, 2) := by decide +kernel
theorem dX9_works_179 : decode cX9_works 179 = .ok (.if_icmp .ne 7, 3) := by decide +kernel
theorem dX9_works_182 : decode cX9_works 182 = .ok (.iconst 0, 1) := by decide +kernel
theorem dX9_works_183 : decode cX9_works 183 = .ok (.goto 4, 3) := by decide +kernel
theorem dX9_works_186 : decode cX9_works 186 = .ok (.iconst 3, 1) := by decide +kernel
theorem dX9_works_187 : decode cX9_works 187 = .ok (.ireturn, 1) := by decide +kernel
theorem dX9_fault_0 : decode cX9_fault 0 = .ok (.aload_n 0, 1) := by decide +kernel
theorem dX9_fault_1 : decode cX9_fault 1 = .ok (.getfield 76, 3) := by decide +kernel
theorem dX9_fault_4 : decode cX9_fault 4 = .ok (.ireturn, 1) := by decide +kernel
theorem dX9_tree_0 : decode cX9_tree 0 = .ok (.iload_n 1, 1) := by decide +kernel
theorem dX9_tree_1 : decode cX9_tree 1 = .ok (.iconst 1, 1) := by decide +kernel
theorem dX9_tree_2 : decode cX9_tree 2 = .ok (.if_icmp .lt 10, 3) := by decide +kernel
theorem dX9_tree_5 : decode cX9_tree 5 = .ok (.iload_n 1, 1) := by decide +kernel
theorem dX9_tree_6 : decode cX9_tree 6 = .ok (.sipush 2000, 3) := by decide +kernel
theorem dX9_tree_9 : decode cX9_tree 9 = .ok (.if_icmp .le 6, 3) := by decide +kernel
theorem dX9_tree_12 : decode cX9_tree 12 = .ok (.ldc 79, 2) := by decide +kernel
theorem dX9_tree_14 : decode cX9_tree 14 = .ok (.ireturn, 1) := by decide +kernel
theorem dX9_tree_15 : decode cX9_tree 15 = .ok (.aload_n 0, 1) := by decide +kernel
theorem dX9_tree_16 : decode cX9_tree 16 = .ok (.getfield 10, 3) := by decide +kernel
theorem dX9_tree_19 : decode cX9_tree 19 = .ok (.getfield 233, 3) := by decide +kernel
theorem dX9_tree_22 : decode cX9_tree 22 = .ok (.ifCond .gt 14, 3) := by decide +kernel
theorem dX9_tree_25 : decode cX9_tree 25 = .ok (.aload_n 0, 1) := by decide +kernel
theorem dX9_tree_26 : decode cX9_tree 26 = .ok (.getfield 10, 3) := by decide +kernel
theorem dX9_tree_29 : decode cX9_tree 29 = .ok (.iconst 1, 1) := by decide +kernel
theorem dX9_tree_30 : decode cX9_tree 30 = .ok (.invokevirtual 299, 3) := by decide +kernel
theorem dX9_tree_33 : decode cX9_tree 33 = .ok (.ifCond .eq 6, 3) := by decide +kernel
theorem dX9_tree_36 : decode cX9_tree 36 = .ok (.ldc 113, 2) := by decide +kernel
theorem dX9_tree_38 : decode cX9_tree 38 = .ok (.ireturn, 1) := by decide +kernel
theorem dX9_tree_39 : decode cX9_tree 39 = .ok (.aload_n 0, 1) := by decide +kernel
theorem dX9_tree_40 : decode cX9_tree 40 = .ok (.getfield 50, 3) := by decide +kernel
theorem dX9_tree_43 : decode cX9_tree 43 = .ok (.aload_n 0, 1) := by decide +kernel
theorem dX9_tree_44 : decode cX9_tree 44 = .ok (.getfield 10, 3) := by decide +kernel
theorem dX9_tree_47 : decode cX9_tree 47 = .ok (.aload_n 0, 1) := by decide +kernel
theorem dX9_tree_48 : decode cX9_tree 48 = .ok (.getfield 19, 3) := by decide +kernel
theorem dX9_tree_51 : decode cX9_tree 51 = .ok (.iload_n 1, 1) := by decide +kernel
theorem dX9_tree_52 : decode cX9_tree 52 = .ok (.invokevirtual 302, 3) := by decide +kernel
theorem dX9_tree_55 : decode cX9_tree 55 = .ok (.ifCond .eq 16, 3) := by decide +kernel
theorem dX9_tree_58 : decode cX9_tree 58 = .ok (.aload_n 0, 1) := by decide +kernel
theorem dX9_tree_59 : decode cX9_tree 59 = .ok (.getfield 50, 3) := by decide +kernel
theorem dX9_tree_62 : decode cX9_tree 62 = .ok (.getfield 303, 3) := by decide +kernel
theorem dX9_tree_65 : decode cX9_tree 65 = .ok (.getfield 252, 3) := by decide +kernel
theorem dX9_tree_68 : decode cX9_tree 68 = .ok (.goto 5, 3) := by decide +kernel
theorem dX9_tree_71 : decode cX9_tree 71 = .ok (.ldc 255, 2) := by decide +kernel
theorem dX9_tree_73 : decode cX9_tree 73 = .ok (.ireturn, 1) := by decide +kernel
theorem dX9_node_0 : decode cX9_node 0 = .ok (.aload_n 0, 1) := by decide +kernel
theorem dX9_node_1 : decode cX9_node 1 = .ok (.getfield 10, 3) := by decide +kernel
theorem dX9_node_4 : decode cX9_node 4 = .ok (.iload_n 2, 1) := by decide +kernel
theorem dX9_node_5 : decode cX9_node 5 = .ok (.invokevirtual 152, 3) := by decide +kernel
theorem dX9_node_8 : decode cX9_node 8 = .ok (.ifCond .ne 6, 3) := by decide +kernel
theorem dX9_node_11 : decode cX9_node 11 = .ok (.ldc 79, 2) := by decide +kernel
theorem dX9_node_13 : decode cX9_node 13 = .ok (.ireturn, 1) := by decide +kernel
theorem dX9_node_14 : decode cX9_node 14 = .ok (.aload_n 0, 1) := by decide +kernel
theorem dX9_node_15 : decode cX9_node 15 = .ok (.getfield 50, 3) := by decide +kernel
theorem dX9_node_18 : decode cX9_node 18 = .ok (.iload_n 1, 1) := by decide +kernel
theorem dX9_node_19 : decode cX9_node 19 = .ok (.invokevirtual 306, 3) := by decide +kernel
theorem dX9_node_22 : decode cX9_node 22 = .ok (.istore_n 3, 1) := by decide +kernel
theorem dX9_node_23 : decode cX9_node 23 = .ok (.iload_n 3, 1) := by decide +kernel
theorem dX9_node_24 : decode cX9_node 24 = .ok (.ifCond .eq 7, 3) := by decide +kernel
theorem dX9_node_27 : decode cX9_node 27 = .ok (.iload_n 3, 1) := by decide +kernel
theorem dX9_node_28 : decode cX9_node 28 = .ok (.goto 18, 3) := by decide +kernel
theorem dX9_node_31 : decode cX9_node 31 = .ok (.aload_n 0, 1) := by decide +kernel
theorem dX9_node_32 : decode cX9_node 32 = .ok (.getfield 50, 3) := by decide +kernel
theorem dX9_node_35 : decode cX9_node 35 = .ok (.getfield 303, 3) := by decide +kernel
theorem dX9_node_38 : decode cX9_node 38 = .ok (.iload_n 1, 1) := by decide +kernel
theorem dX9_node_39 : decode cX9_node 39 = .ok (.iload_n 2, 1) := by decide +kernel
theorem dX9_node_40 : decode cX9_node 40 = .ok (.invokevirtual 260, 3) := by decide +kernel
theorem dX9_node_43 : decode cX9_node 43 = .ok (.invokestatic 307, 3) := by decide +kernel
theorem dX9_node_46 : decode cX9_node 46 = .ok (.ireturn, 1) := by decide +kernel
theorem dX9_above_0 : decode cX9_above 0 = .ok (.iload_n 2, 1) := by decide +kernel
theorem dX9_above_1 : decode cX9_above 1 = .ok (.ifCond .lt 8, 3) := by decide +kernel
theorem dX9_above_4 : decode cX9_above 4 = .ok (.iload_n 2, 1) := by decide +kernel
theorem dX9_above_5 : decode cX9_above 5 = .ok (.iconst 2, 1) := by decide +kernel
theorem dX9_above_6 : decode cX9_above 6 = .ok (.if_icmp .le 6, 3) := by decide +kernel
theorem dX9_above_9 : decode cX9_above 9 = .ok (.ldc 79, 2) := by decide +kernel
theorem dX9_above_11 : decode cX9_above 11 = .ok (.ireturn, 1) := by decide +kernel
theorem dX9_above_12 : decode cX9_above 12 = .ok (.aload_n 0, 1) := by decide +kernel
theorem dX9_above_13 : decode cX9_above 13 = .ok (.getfield 50, 3) := by decide +kernel
theorem dX9_above_16 : decode cX9_above 16 = .ok (.iload_n 1, 1) := by decide +kernel
theorem dX9_above_17 : decode cX9_above 17 = .ok (.invokevirtual 306, 3) := by decide +kernel
theorem dX9_above_20 : decode cX9_above 20 = .ok (.istore_n 3, 1) := by decide +kernel
theorem dX9_above_21 : decode cX9_above 21 = .ok (.iload_n 3, 1) := by decide +kernel
theorem dX9_above_22 : decode cX9_above 22 = .ok (.ifCond .eq 5, 3) := by decide +kernel
theorem dX9_above_25 : decode cX9_above 25 = .ok (.iload_n 3, 1) := by decide +kernel
theorem dX9_above_26 : decode cX9_above 26 = .ok (.ireturn, 1) := by decide +kernel
theorem dX9_above_27 : decode cX9_above 27 = .ok (.iload_n 2, 1) := by decide +kernel
theorem dX9_above_28 : decode cX9_above 28 = .ok (.iconst 2, 1) := by decide +kernel
theorem dX9_above_29 : decode cX9_above 29 = .ok (.if_icmp .ne 13, 3) := by decide +kernel
theorem dX9_above_32 : decode cX9_above 32 = .ok (.aload_n 0, 1) := by decide +kernel
theorem dX9_above_33 : decode cX9_above 33 = .ok (.getfield 50, 3) := by decide +kernel
theorem dX9_above_36 : decode cX9_above 36 = .ok (.getfield 310, 3) := by decide +kernel
theorem dX9_above_39 : decode cX9_above 39 = .ok (.iload_n 1, 1) := by decide +kernel
theorem dX9_above_40 : decode cX9_above 40 = .ok (.iaload, 1) := by decide +kernel
theorem dX9_above_41 : decode cX9_above 41 = .ok (.ireturn, 1) := by decide +kernel
theorem dX9_above_42 : decode cX9_above 42 = .ok (.iload_n 2, 1) := by decide +kernel
theorem dX9_above_43 : decode cX9_above 43 = .ok (.ifCond .ne 18, 3) := by decide +kernel
theorem dX9_above_46 : decode cX9_above 46 = .ok (.aload_n 0, 1) := by decide +kernel
theorem dX9_above_47 : decode cX9_above 47 = .ok (.getfield 50, 3) := by decide +kernel
theorem dX9_above_50 : decode cX9_above 50 = .ok (.getfield 303, 3) := by decide +kernel
theorem dX9_above_53 : decode cX9_above 53 = .ok (.getfield 313, 3) := by decide +kernel
theorem dX9_above_56 : decode cX9_above 56 = .ok (.iload_n 1, 1) := by decide +kernel
theorem dX9_above_57 : decode cX9_above 57 = .ok (.iaload, 1) := by decide +kernel
theorem dX9_above_58 : decode cX9_above 58 = .ok (.goto 15, 3) := by decide +kernel
theorem dX9_above_61 : decode cX9_above 61 = .ok (.aload_n 0, 1) := by decide +kernel
theorem dX9_above_62 : decode cX9_above 62 = .ok (.getfield 50, 3) := by decide +kernel
theorem dX9_above_65 : decode cX9_above 65 = .ok (.getfield 303, 3) := by decide +kernel
theorem dX9_above_68 : decode cX9_above 68 = .ok (.getfield 316, 3) := by decide +kernel
theorem dX9_above_71 : decode cX9_above 71 = .ok (.iload_n 1, 1) := by decide +kernel
theorem dX9_above_72 : decode cX9_above 72 = .ok (.iaload, 1) := by decide +kernel
theorem dX9_above_73 : decode cX9_above 73 = .ok (.ireturn, 1) := by decide +kernel
theorem dX9_cover_0 : decode cX9_cover 0 = .ok (.aload_n 0, 1) := by decide +kernel
theorem dX9_cover_1 : decode cX9_cover 1 = .ok (.getfield 50, 3) := by decide +kernel
theorem dX9_cover_4 : decode cX9_cover 4 = .ok (.getfield 319, 3) := by decide +kernel
theorem dX9_cover_7 : decode cX9_cover 7 = .ok (.ifCond .ne 6, 3) := by decide +kernel
theorem dX9_cover_10 : decode cX9_cover 10 = .ok (.ldc 113, 2) := by decide +kernel
theorem dX9_cover_12 : decode cX9_cover 12 = .ok (.ireturn, 1) := by decide +kernel
theorem dX9_cover_13 : decode cX9_cover 13 = .ok (.aload_n 0, 1) := by decide +kernel
theorem dX9_cover_14 : decode cX9_cover 14 = .ok (.invokevirtual 274, 3) := by decide +kernel
theorem dX9_cover_17 : decode cX9_cover 17 = .ok (.iconst 0, 1) := by decide +kernel
theorem dX9_cover_18 : decode cX9_cover 18 = .ok (.istore_n 1, 1) := by decide +kernel
theorem dX9_cover_19 : decode cX9_cover 19 = .ok (.iload_n 1, 1) := by decide +kernel
theorem dX9_cover_20 : decode cX9_cover 20 = .ok (.aload_n 0, 1) := by decide +kernel
theorem dX9_cover_21 : decode cX9_cover 21 = .ok (.getfield 50, 3) := by decide +kernel
theorem dX9_cover_24 : decode cX9_cover 24 = .ok (.getfield 303, 3) := by decide +kernel
theorem dX9_cover_27 : decode cX9_cover 27 = .ok (.getfield 252, 3) := by decide +kernel
theorem dX9_cover_30 : decode cX9_cover 30 = .ok (.if_icmp .ge 29, 3) := by decide +kernel
theorem dX9_cover_33 : decode cX9_cover 33 = .ok (.aload_n 0, 1) := by decide +kernel
theorem dX9_cover_34 : decode cX9_cover 34 = .ok (.getfield 50, 3) := by decide +kernel
theorem dX9_cover_37 : decode cX9_cover 37 = .ok (.getfield 303, 3) := by decide +kernel
theorem dX9_cover_40 : decode cX9_cover 40 = .ok (.iload_n 1, 1) := by decide +kernel
theorem dX9_cover_41 : decode cX9_cover 41 = .ok (.aload_n 0, 1) := by decide +kernel
theorem dX9_cover_42 : decode cX9_cover 42 = .ok (.getfield 23, 3) := by decide +kernel
theorem dX9_cover_45 : decode cX9_cover 45 = .ok (.invokevirtual 320, 3) := by decide +kernel
theorem dX9_cover_48 : decode cX9_cover 48 = .ok (.ifCond .eq 5, 3) := by decide +kernel
theorem dX9_cover_51 : decode cX9_cover 51 = .ok (.iload_n 1, 1) := by decide +kernel
theorem dX9_cover_52 : decode cX9_cover 52 = .ok (.ireturn, 1) := by decide +kernel
theorem dX9_cover_53 : decode cX9_cover 53 = .ok (.iinc 1 1, 3) := by decide +kernel
theorem dX9_cover_56 : decode cX9_cover 56 = .ok (.goto (-37), 3) := by decide +kernel
theorem dX9_cover_59 : decode cX9_cover 59 = .ok (.ldc 75, 2) := by decide +kernel
theorem dX9_cover_61 : decode cX9_cover 61 = .ok (.ireturn, 1) := by decide +kernel
theorem dX9_bound_0 : decode cX9_bound 0 = .ok (.aload_n 0, 1) := by decide +kernel
theorem dX9_bound_1 : decode cX9_bound 1 = .ok (.getfield 10, 3) := by decide +kernel
theorem dX9_bound_4 : decode cX9_bound 4 = .ok (.iload_n 1, 1) := by decide +kernel
theorem dX9_bound_5 : decode cX9_bound 5 = .ok (.invokevirtual 152, 3) := by decide +kernel
theorem dX9_bound_8 : decode cX9_bound 8 = .ok (.ifCond .ne 6, 3) := by decide +kernel
theorem dX9_bound_11 : decode cX9_bound 11 = .ok (.ldc 79, 2) := by decide +kernel
theorem dX9_bound_13 : decode cX9_bound 13 = .ok (.ireturn, 1) := by decide +kernel
theorem dX9_bound_14 : decode cX9_bound 14 = .ok (.aload_n 0, 1) := by decide +kernel
theorem dX9_bound_15 : decode cX9_bound 15 = .ok (.getfield 50, 3) := by decide +kernel
theorem dX9_bound_18 : decode cX9_bound 18 = .ok (.getfield 319, 3) := by decide +kernel
theorem dX9_bound_21 : decode cX9_bound 21 = .ok (.ifCond .eq 20, 3) := by decide +kernel
theorem dX9_bound_24 : decode cX9_bound 24 = .ok (.aload_n 0, 1) := by decide +kernel
theorem dX9_bound_25 : decode cX9_bound 25 = .ok (.getfield 50, 3) := by decide +kernel
theorem dX9_bound_28 : decode cX9_bound 28 = .ok (.getfield 303, 3) := by decide +kernel
theorem dX9_bound_31 : decode cX9_bound 31 = .ok (.iload_n 1, 1) := by decide +kernel
theorem dX9_bound_32 : decode cX9_bound 32 = .ok (.invokevirtual 324, 3) := by decide +kernel
theorem dX9_bound_35 : decode cX9_bound 35 = .ok (.invokestatic 307, 3) := by decide +kernel
theorem dX9_bound_38 : decode cX9_bound 38 = .ok (.goto 5, 3) := by decide +kernel
theorem dX9_bound_41 : decode cX9_bound 41 = .ok (.ldc 113, 2) := by decide +kernel
theorem dX9_bound_43 : decode cX9_bound 43 = .ok (.ireturn, 1) := by decide +kernel
theorem dX9_pump_0 : decode cX9_pump 0 = .ok (.aload_n 0, 1) := by decide +kernel
theorem dX9_pump_1 : decode cX9_pump 1 = .ok (.getfield 50, 3) := by decide +kernel
theorem dX9_pump_4 : decode cX9_pump 4 = .ok (.getfield 319, 3) := by decide +kernel
theorem dX9_pump_7 : decode cX9_pump 7 = .ok (.ifCond .ne 6, 3) := by decide +kernel
theorem dX9_pump_10 : decode cX9_pump 10 = .ok (.ldc 113, 2) := by decide +kernel
theorem dX9_pump_12 : decode cX9_pump 12 = .ok (.ireturn, 1) := by decide +kernel
theorem dX9_pump_13 : decode cX9_pump 13 = .ok (.aload_n 0, 1) := by decide +kernel
theorem dX9_pump_14 : decode cX9_pump 14 = .ok (.getfield 50, 3) := by decide +kernel
theorem dX9_pump_17 : decode cX9_pump 17 = .ok (.getfield 327, 3) := by decide +kernel
theorem dX9_pump_20 : decode cX9_pump 20 = .ok (.ifCond .ge 6, 3) := by decide +kernel
theorem dX9_pump_23 : decode cX9_pump 23 = .ok (.ldc 75, 2) := by decide +kernel
theorem dX9_pump_25 : decode cX9_pump 25 = .ok (.ireturn, 1) := by decide +kernel
theorem dX9_pump_26 : decode cX9_pump 26 = .ok (.aload_n 0, 1) := by decide +kernel
theorem dX9_pump_27 : decode cX9_pump 27 = .ok (.getfield 50, 3) := by decide +kernel
theorem dX9_pump_30 : decode cX9_pump 30 = .ok (.getfield 303, 3) := by decide +kernel
theorem dX9_pump_33 : decode cX9_pump 33 = .ok (.aload_n 0, 1) := by decide +kernel
theorem dX9_pump_34 : decode cX9_pump 34 = .ok (.getfield 50, 3) := by decide +kernel
theorem dX9_pump_37 : decode cX9_pump 37 = .ok (.getfield 327, 3) := by decide +kernel
theorem dX9_pump_40 : decode cX9_pump 40 = .ok (.aload_n 0, 1) := by decide +kernel
theorem dX9_pump_41 : decode cX9_pump 41 = .ok (.getfield 36, 3) := by decide +kernel
theorem dX9_pump_44 : decode cX9_pump 44 = .ok (.invokevirtual 266, 3) := by decide +kernel
theorem dX9_pump_47 : decode cX9_pump 47 = .ok (.aload_n 0, 1) := by decide +kernel
theorem dX9_pump_48 : decode cX9_pump 48 = .ok (.getfield 50, 3) := by decide +kernel
theorem dX9_pump_51 : decode cX9_pump 51 = .ok (.getfield 303, 3) := by decide +kernel
theorem dX9_pump_54 : decode cX9_pump 54 = .ok (.aload_n 0, 1) := by decide +kernel
theorem dX9_pump_55 : decode cX9_pump 55 = .ok (.getfield 50, 3) := by decide +kernel
theorem dX9_pump_58 : decode cX9_pump 58 = .ok (.getfield 330, 3) := by decide +kernel
theorem dX9_pump_61 : decode cX9_pump 61 = .ok (.invokevirtual 333, 3) := by decide +kernel
theorem dX9_pump_64 : decode cX9_pump 64 = .ok (.ireturn, 1) := by decide +kernel
theorem dX9_weights_0 : decode cX9_weights 0 = .ok (.aload_n 0, 1) := by decide +kernel
theorem dX9_weights_1 : decode cX9_weights 1 = .ok (.getfield 57, 3) := by decide +kernel
theorem dX9_weights_4 : decode cX9_weights 4 = .ok (.aload_n 0, 1) := by decide +kernel
theorem dX9_weights_5 : decode cX9_weights 5 = .ok (.getfield 10, 3) := by decide +kernel
theorem dX9_weights_8 : decode cX9_weights 8 = .ok (.iconst 1, 1) := by decide +kernel
theorem dX9_weights_9 : decode cX9_weights 9 = .ok (.invokevirtual 336, 3) := by decide +kernel
theorem dX9_weights_12 : decode cX9_weights 12 = .ok (.ifCond .eq 13, 3) := by decide +kernel
theorem dX9_weights_15 : decode cX9_weights 15 = .ok (.aload_n 0, 1) := by decide +kernel
theorem dX9_weights_16 : decode cX9_weights 16 = .ok (.getfield 57, 3) := by decide +kernel
theorem dX9_weights_19 : decode cX9_weights 19 = .ok (.getfield 340, 3) := by decide +kernel
theorem dX9_weights_22 : decode cX9_weights 22 = .ok (.goto 5, 3) := by decide +kernel
theorem dX9_weights_25 : decode cX9_weights 25 = .ok (.ldc 255, 2) := by decide +kernel
theorem dX9_weights_27 : decode cX9_weights 27 = .ok (.ireturn, 1) := by decide +kernel
theorem dX9_weight_0 : decode cX9_weight 0 = .ok (.aload_n 0, 1) := by decide +kernel
theorem dX9_weight_1 : decode cX9_weight 1 = .ok (.getfield 10, 3) := by decide +kernel
theorem dX9_weight_4 : decode cX9_weight 4 = .ok (.iload_n 2, 1) := by decide +kernel
theorem dX9_weight_5 : decode cX9_weight 5 = .ok (.invokevirtual 152, 3) := by decide +kernel
theorem dX9_weight_8 : decode cX9_weight 8 = .ok (.ifCond .eq 26, 3) := by decide +kernel
theorem dX9_weight_11 : decode cX9_weight 11 = .ok (.aload_n 0, 1) := by decide +kernel
theorem dX9_weight_12 : decode cX9_weight 12 = .ok (.getfield 57, 3) := by decide +kernel
theorem dX9_weight_15 : decode cX9_weight 15 = .ok (.iload_n 1, 1) := by decide +kernel
theorem dX9_weight_16 : decode cX9_weight 16 = .ok (.invokevirtual 341, 3) := by decide +kernel
theorem dX9_weight_19 : decode cX9_weight 19 = .ok (.ifCond .eq 15, 3) := by decide +kernel
theorem dX9_weight_22 : decode cX9_weight 22 = .ok (.aload_n 0, 1) := by decide +kernel
theorem dX9_weight_23 : decode cX9_weight 23 = .ok (.getfield 57, 3) := by decide +kernel
theorem dX9_weight_26 : decode cX9_weight 26 = .ok (.iload_n 1, 1) := by decide +kernel
theorem dX9_weight_27 : decode cX9_weight 27 = .ok (.iload_n 2, 1) := by decide +kernel
theorem dX9_weight_28 : decode cX9_weight 28 = .ok (.invokevirtual 344, 3) := by decide +kernel
theorem dX9_weight_31 : decode cX9_weight 31 = .ok (.goto 5, 3) := by decide +kernel
theorem dX9_weight_34 : decode cX9_weight 34 = .ok (.ldc 79, 2) := by decide +kernel
theorem dX9_weight_36 : decode cX9_weight 36 = .ok (.ireturn, 1) := by decide +kernel
theorem dX9_rounds_0 : decode cX9_rounds 0 = .ok (.aload_n 0, 1) := by decide +kernel
theorem dX9_rounds_1 : decode cX9_rounds 1 = .ok (.getfield 61, 3) := by decide +kernel
theorem dX9_rounds_4 : decode cX9_rounds 4 = .ok (.aload_n 0, 1) := by decide +kernel
theorem dX9_rounds_5 : decode cX9_rounds 5 = .ok (.getfield 10, 3) := by decide +kernel
theorem dX9_rounds_8 : decode cX9_rounds 8 = .ok (.iconst 0, 1) := by decide +kernel
theorem dX9_rounds_9 : decode cX9_rounds 9 = .ok (.invokevirtual 336, 3) := by decide +kernel
theorem dX9_rounds_12 : decode cX9_rounds 12 = .ok (.ifCond .eq 13, 3) := by decide +kernel
theorem dX9_rounds_15 : decode cX9_rounds 15 = .ok (.aload_n 0, 1) := by decide +kernel
theorem dX9_rounds_16 : decode cX9_rounds 16 = .ok (.getfield 61, 3) := by decide +kernel
theorem dX9_rounds_19 : decode cX9_rounds 19 = .ok (.getfield 340, 3) := by decide +kernel
theorem dX9_rounds_22 : decode cX9_rounds 22 = .ok (.goto 5, 3) := by decide +kernel
theorem dX9_rounds_25 : decode cX9_rounds 25 = .ok (.ldc 255, 2) := by decide +kernel
theorem dX9_rounds_27 : decode cX9_rounds 27 = .ok (.ireturn, 1) := by decide +kernel
theorem dX9_round_0 : decode cX9_round 0 = .ok (.aload_n 0, 1) := by decide +kernel
theorem dX9_round_1 : decode cX9_round 1 = .ok (.getfield 10, 3) := by decide +kernel
theorem dX9_round_4 : decode cX9_round 4 = .ok (.iload_n 2, 1) := by decide +kernel
theorem dX9_round_5 : decode cX9_round 5 = .ok (.invokevirtual 149, 3) := by decide +kernel
theorem dX9_round_8 : decode cX9_round 8 = .ok (.ifCond .eq 26, 3) := by decide +kernel
theorem dX9_round_11 : decode cX9_round 11 = .ok (.aload_n 0, 1) := by decide +kernel
theorem dX9_round_12 : decode cX9_round 12 = .ok (.getfield 61, 3) := by decide +kernel
theorem dX9_round_15 : decode cX9_round 15 = .ok (.iload_n 1, 1) := by decide +kernel
theorem dX9_round_16 : decode cX9_round 16 = .ok (.invokevirtual 341, 3) := by decide +kernel
theorem dX9_round_19 : decode cX9_round 19 = .ok (.ifCond .eq 15, 3) := by decide +kernel
theorem dX9_round_22 : decode cX9_round 22 = .ok (.aload_n 0, 1) := by decide +kernel
theorem dX9_round_23 : decode cX9_round 23 = .ok (.getfield 61, 3) := by decide +kernel
theorem dX9_round_26 : decode cX9_round 26 = .ok (.iload_n 1, 1) := by decide +kernel
theorem dX9_round_27 : decode cX9_round 27 = .ok (.iload_n 2, 1) := by decide +kernel
theorem dX9_round_28 : decode cX9_round 28 = .ok (.invokevirtual 344, 3) := by decide +kernel
theorem dX9_round_31 : decode cX9_round 31 = .ok (.goto 5, 3) := by decide +kernel
theorem dX9_round_34 : decode cX9_round 34 = .ok (.ldc 79, 2) := by decide +kernel
theorem dX9_round_36 : decode cX9_round 36 = .ok (.ireturn, 1) := by decide +kernel
theorem dX9_keeps_0 : decode cX9_keeps 0 = .ok (.iconst 0, 1) := by decide +kernel
theorem dX9_keeps_1 : decode cX9_keeps 1 = .ok (.istore_n 1, 1) := by decide +kernel
theorem dX9_keeps_2 : decode cX9_keeps 2 = .ok (.iload_n 1, 1) := by decide +kernel
theorem dX9_keeps_3 : decode cX9_keeps 3 = .ok (.aload_n 0, 1) := by decide +kernel
theorem dX9_keeps_4 : decode cX9_keeps 4 = .ok (.getfield 10, 3) := by decide +kernel
theorem dX9_keeps_7 : decode cX9_keeps 7 = .ok (.getfield 91, 3) := by decide +kernel
theorem dX9_keeps_10 : decode cX9_keeps 10 = .ok (.if_icmp .ge 65, 3) := by decide +kernel
theorem dX9_keeps_13 : decode cX9_keeps 13 = .ok (.lconst 0, 1) := by decide +kernel
theorem dX9_keeps_14 : decode cX9_keeps 14 = .ok (.lstore_n 2, 1) := by decide +kernel
theorem dX9_keeps_15 : decode cX9_keeps 15 = .ok (.iconst 0, 1) := by decide +kernel
theorem dX9_keeps_16 : decode cX9_keeps 16 = .ok (.istore 4, 2) := by decide +kernel
theorem dX9_keeps_18 : decode cX9_keeps 18 = .ok (.iload 4, 2) := by decide +kernel
theorem dX9_keeps_20 : decode cX9_keeps 20 = .ok (.aload_n 0, 1) := by decide +kernel
theorem dX9_keeps_21 : decode cX9_keeps 21 = .ok (.getfield 10, 3) := by decide +kernel
theorem dX9_keeps_24 : decode cX9_keeps 24 = .ok (.getfield 80, 3) := by decide +kernel
theorem dX9_keeps_27 : decode cX9_keeps 27 = .ok (.if_icmp .ge 34, 3) := by decide +kernel
theorem dX9_keeps_30 : decode cX9_keeps 30 = .ok (.lload_n 2, 1) := by decide +kernel
theorem dX9_keeps_31 : decode cX9_keeps 31 = .ok (.aload_n 0, 1) := by decide +kernel
theorem dX9_keeps_32 : decode cX9_keeps 32 = .ok (.getfield 36, 3) := by decide +kernel
theorem dX9_keeps_35 : decode cX9_keeps 35 = .ok (.iload 4, 2) := by decide +kernel
theorem dX9_keeps_37 : decode cX9_keeps 37 = .ok (.invokevirtual 347, 3) := by decide +kernel
theorem dX9_keeps_40 : decode cX9_keeps 40 = .ok (.i2l, 1) := by decide +kernel
theorem dX9_keeps_41 : decode cX9_keeps 41 = .ok (.aload_n 0, 1) := by decide +kernel
theorem dX9_keeps_42 : decode cX9_keeps 42 = .ok (.getfield 10, 3) := by decide +kernel
theorem dX9_keeps_45 : decode cX9_keeps 45 = .ok (.iload_n 1, 1) := by decide +kernel
theorem dX9_keeps_46 : decode cX9_keeps 46 = .ok (.iload 4, 2) := by decide +kernel
theorem dX9_keeps_48 : decode cX9_keeps 48 = .ok (.invokevirtual 350, 3) := by decide +kernel
theorem dX9_keeps_51 : decode cX9_keeps 51 = .ok (.i2l, 1) := by decide +kernel
theorem dX9_keeps_52 : decode cX9_keeps 52 = .ok (.lmul, 1) := by decide +kernel
theorem dX9_keeps_53 : decode cX9_keeps 53 = .ok (.ladd, 1) := by decide +kernel
theorem dX9_keeps_54 : decode cX9_keeps 54 = .ok (.lstore_n 2, 1) := by decide +kernel
theorem dX9_keeps_55 : decode cX9_keeps 55 = .ok (.iinc 4 1, 3) := by decide +kernel
theorem dX9_keeps_58 : decode cX9_keeps 58 = .ok (.goto (-40), 3) := by decide +kernel
theorem dX9_keeps_61 : decode cX9_keeps 61 = .ok (.lload_n 2, 1) := by decide +kernel
theorem dX9_keeps_62 : decode cX9_keeps 62 = .ok (.lconst 0, 1) := by decide +kernel
theorem dX9_keeps_63 : decode cX9_keeps 63 = .ok (.lcmp, 1) := by decide +kernel
theorem dX9_keeps_64 : decode cX9_keeps 64 = .ok (.ifCond .eq 5, 3) := by decide +kernel
theorem dX9_keeps_67 : decode cX9_keeps 67 = .ok (.iconst 0, 1) := by decide +kernel
theorem dX9_keeps_68 : decode cX9_keeps 68 = .ok (.ireturn, 1) := by decide +kernel
theorem dX9_keeps_69 : decode cX9_keeps 69 = .ok (.iinc 1 1, 3) := by decide +kernel
theorem dX9_keeps_72 : decode cX9_keeps 72 = .ok (.goto (-70), 3) := by decide +kernel
theorem dX9_keeps_75 : decode cX9_keeps 75 = .ok (.iconst 1, 1) := by decide +kernel
theorem dX9_keeps_76 : decode cX9_keeps 76 = .ok (.ireturn, 1) := by decide +kernel
theorem dX9_turns_0 : decode cX9_turns 0 = .ok (.iconst 0, 1) := by decide +kernel
theorem dX9_turns_1 : decode cX9_turns 1 = .ok (.istore_n 1, 1) := by decide +kernel
theorem dX9_turns_2 : decode cX9_turns 2 = .ok (.iload_n 1, 1) := by decide +kernel
theorem dX9_turns_3 : decode cX9_turns 3 = .ok (.aload_n 0, 1) := by decide +kernel
theorem dX9_turns_4 : decode cX9_turns 4 = .ok (.getfield 10, 3) := by decide +kernel
theorem dX9_turns_7 : decode cX9_turns 7 = .ok (.getfield 91, 3) := by decide +kernel
theorem dX9_turns_10 : decode cX9_turns 10 = .ok (.if_icmp .ge 22, 3) := by decide +kernel
theorem dX9_turns_13 : decode cX9_turns 13 = .ok (.aload_n 0, 1) := by decide +kernel
theorem dX9_turns_14 : decode cX9_turns 14 = .ok (.getfield 36, 3) := by decide +kernel
theorem dX9_turns_17 : decode cX9_turns 17 = .ok (.iload_n 1, 1) := by decide +kernel
theorem dX9_turns_18 : decode cX9_turns 18 = .ok (.invokevirtual 347, 3) := by decide +kernel
theorem dX9_turns_21 : decode cX9_turns 21 = .ok (.ifCond .ge 5, 3) := by decide +kernel
theorem dX9_turns_24 : decode cX9_turns 24 = .ok (.iconst 0, 1) := by decide +kernel
theorem dX9_turns_25 : decode cX9_turns 25 = .ok (.ireturn, 1) := by decide +kernel
theorem dX9_turns_26 : decode cX9_turns 26 = .ok (.iinc 1 1, 3) := by decide +kernel
theorem dX9_turns_29 : decode cX9_turns 29 = .ok (.goto (-27), 3) := by decide +kernel
theorem dX9_turns_32 : decode cX9_turns 32 = .ok (.iconst 0, 1) := by decide +kernel
theorem dX9_turns_33 : decode cX9_turns 33 = .ok (.istore_n 1, 1) := by decide +kernel
theorem dX9_turns_34 : decode cX9_turns 34 = .ok (.iload_n 1, 1) := by decide +kernel
theorem dX9_turns_35 : decode cX9_turns 35 = .ok (.aload_n 0, 1) := by decide +kernel
theorem dX9_turns_36 : decode cX9_turns 36 = .ok (.getfield 10, 3) := by decide +kernel
theorem dX9_turns_39 : decode cX9_turns 39 = .ok (.getfield 80, 3) := by decide +kernel
theorem dX9_turns_42 : decode cX9_turns 42 = .ok (.if_icmp .ge 65, 3) := by decide +kernel
theorem dX9_turns_45 : decode cX9_turns 45 = .ok (.lconst 0, 1) := by decide +kernel
theorem dX9_turns_46 : decode cX9_turns 46 = .ok (.lstore_n 2, 1) := by decide +kernel
theorem dX9_turns_47 : decode cX9_turns 47 = .ok (.iconst 0, 1) := by decide +kernel
theorem dX9_turns_48 : decode cX9_turns 48 = .ok (.istore 4, 2) := by decide +kernel
theorem dX9_turns_50 : decode cX9_turns 50 = .ok (.iload 4, 2) := by decide +kernel
theorem dX9_turns_52 : decode cX9_turns 52 = .ok (.aload_n 0, 1) := by decide +kernel
theorem dX9_turns_53 : decode cX9_turns 53 = .ok (.getfield 10, 3) := by decide +kernel
theorem dX9_turns_56 : decode cX9_turns 56 = .ok (.getfield 91, 3) := by decide +kernel
theorem dX9_turns_59 : decode cX9_turns 59 = .ok (.if_icmp .ge 34, 3) := by decide +kernel
theorem dX9_turns_62 : decode cX9_turns 62 = .ok (.lload_n 2, 1) := by decide +kernel
theorem dX9_turns_63 : decode cX9_turns 63 = .ok (.aload_n 0, 1) := by decide +kernel
theorem dX9_turns_64 : decode cX9_turns 64 = .ok (.getfield 36, 3) := by decide +kernel
theorem dX9_turns_67 : decode cX9_turns 67 = .ok (.iload 4, 2) := by decide +kernel
theorem dX9_turns_69 : decode cX9_turns 69 = .ok (.invokevirtual 347, 3) := by decide +kernel
theorem dX9_turns_72 : decode cX9_turns 72 = .ok (.i2l, 1) := by decide +kernel
theorem dX9_turns_73 : decode cX9_turns 73 = .ok (.aload_n 0, 1) := by decide +kernel
theorem dX9_turns_74 : decode cX9_turns 74 = .ok (.getfield 10, 3) := by decide +kernel
theorem dX9_turns_77 : decode cX9_turns 77 = .ok (.iload 4, 2) := by decide +kernel
theorem dX9_turns_79 : decode cX9_turns 79 = .ok (.iload_n 1, 1) := by decide +kernel
theorem dX9_turns_80 : decode cX9_turns 80 = .ok (.invokevirtual 350, 3) := by decide +kernel
theorem dX9_turns_83 : decode cX9_turns 83 = .ok (.i2l, 1) := by decide +kernel
theorem dX9_turns_84 : decode cX9_turns 84 = .ok (.lmul, 1) := by decide +kernel
theorem dX9_turns_85 : decode cX9_turns 85 = .ok (.ladd, 1) := by decide +kernel
theorem dX9_turns_86 : decode cX9_turns 86 = .ok (.lstore_n 2, 1) := by decide +kernel
theorem dX9_turns_87 : decode cX9_turns 87 = .ok (.iinc 4 1, 3) := by decide +kernel
theorem dX9_turns_90 : decode cX9_turns 90 = .ok (.goto (-40), 3) := by decide +kernel
theorem dX9_turns_93 : decode cX9_turns 93 = .ok (.lload_n 2, 1) := by decide +kernel
theorem dX9_turns_94 : decode cX9_turns 94 = .ok (.lconst 0, 1) := by decide +kernel
theorem dX9_turns_95 : decode cX9_turns 95 = .ok (.lcmp, 1) := by decide +kernel
theorem dX9_turns_96 : decode cX9_turns 96 = .ok (.ifCond .eq 5, 3) := by decide +kernel
theorem dX9_turns_99 : decode cX9_turns 99 = .ok (.iconst 0, 1) := by decide +kernel
theorem dX9_turns_100 : decode cX9_turns 100 = .ok (.ireturn, 1) := by decide +kernel
theorem dX9_turns_101 : decode cX9_turns 101 = .ok (.iinc 1 1, 3) := by decide +kernel
theorem dX9_turns_104 : decode cX9_turns 104 = .ok (.goto (-70), 3) := by decide +kernel
theorem dX9_turns_107 : decode cX9_turns 107 = .ok (.iconst 1, 1) := by decide +kernel
theorem dX9_turns_108 : decode cX9_turns 108 = .ok (.ireturn, 1) := by decide +kernel
theorem dX9_sets_0 : decode cX9_sets 0 = .ok (.iload_n 1, 1) := by decide +kernel
theorem dX9_sets_1 : decode cX9_sets 1 = .ok (.invokestatic 353, 3) := by decide +kernel
theorem dX9_sets_4 : decode cX9_sets 4 = .ok (.ifCond .eq 15, 3) := by decide +kernel
theorem dX9_sets_7 : decode cX9_sets 7 = .ok (.iload_n 2, 1) := by decide +kernel
theorem dX9_sets_8 : decode cX9_sets 8 = .ok (.iconst 1, 1) := by decide +kernel
theorem dX9_sets_9 : decode cX9_sets 9 = .ok (.if_icmp .lt 10, 3) := by decide +kernel
theorem dX9_sets_12 : decode cX9_sets 12 = .ok (.iload_n 2, 1) := by decide +kernel
theorem dX9_sets_13 : decode cX9_sets 13 = .ok (.sipush 500, 3) := by decide +kernel
theorem dX9_sets_16 : decode cX9_sets 16 = .ok (.if_icmp .le 6, 3) := by decide +kernel
theorem dX9_sets_19 : decode cX9_sets 19 = .ok (.ldc 79, 2) := by decide +kernel
theorem dX9_sets_21 : decode cX9_sets 21 = .ok (.ireturn, 1) := by decide +kernel
theorem dX9_sets_22 : decode cX9_sets 22 = .ok (.aload_n 0, 1) := by decide +kernel
theorem dX9_sets_23 : decode cX9_sets 23 = .ok (.getfield 67, 3) := by decide +kernel
theorem dX9_sets_26 : decode cX9_sets 26 = .ok (.aload_n 0, 1) := by decide +kernel
theorem dX9_sets_27 : decode cX9_sets 27 = .ok (.getfield 10, 3) := by decide +kernel
theorem dX9_sets_30 : decode cX9_sets 30 = .ok (.iload_n 1, 1) := by decide +kernel
theorem dX9_sets_31 : decode cX9_sets 31 = .ok (.iload_n 2, 1) := by decide +kernel
theorem dX9_sets_32 : decode cX9_sets 32 = .ok (.invokevirtual 356, 3) := by decide +kernel
theorem dX9_sets_35 : decode cX9_sets 35 = .ok (.aload_n 0, 1) := by decide +kernel
theorem dX9_sets_36 : decode cX9_sets 36 = .ok (.getfield 67, 3) := by decide +kernel
theorem dX9_sets_39 : decode cX9_sets 39 = .ok (.getfield 360, 3) := by decide +kernel
theorem dX9_sets_42 : decode cX9_sets 42 = .ok (.ireturn, 1) := by decide +kernel
theorem dX9_bits_0 : decode cX9_bits 0 = .ok (.iload_n 1, 1) := by decide +kernel
theorem dX9_bits_1 : decode cX9_bits 1 = .ok (.ifCond .lt 26, 3) := by decide +kernel
theorem dX9_bits_4 : decode cX9_bits 4 = .ok (.iload_n 1, 1) := by decide +kernel
theorem dX9_bits_5 : decode cX9_bits 5 = .ok (.aload_n 0, 1) := by decide +kernel
theorem dX9_bits_6 : decode cX9_bits 6 = .ok (.getfield 67, 3) := by decide +kernel
theorem dX9_bits_9 : decode cX9_bits 9 = .ok (.getfield 360, 3) := by decide +kernel
theorem dX9_bits_12 : decode cX9_bits 12 = .ok (.if_icmp .ge 15, 3) := by decide +kernel
theorem dX9_bits_15 : decode cX9_bits 15 = .ok (.aload_n 0, 1) := by decide +kernel
theorem dX9_bits_16 : decode cX9_bits 16 = .ok (.getfield 67, 3) := by decide +kernel
theorem dX9_bits_19 : decode cX9_bits 19 = .ok (.getfield 361, 3) := by decide +kernel
theorem dX9_bits_22 : decode cX9_bits 22 = .ok (.iload_n 1, 1) := by decide +kernel
theorem dX9_bits_23 : decode cX9_bits 23 = .ok (.iaload, 1) := by decide +kernel
theorem dX9_bits_24 : decode cX9_bits 24 = .ok (.goto 5, 3) := by decide +kernel
theorem dX9_bits_27 : decode cX9_bits 27 = .ok (.ldc 79, 2) := by decide +kernel
theorem dX9_bits_29 : decode cX9_bits 29 = .ok (.ireturn, 1) := by decide +kernel
theorem dX9_isSet_0 : decode cX9_isSet 0 = .ok (.iload_n 2, 1) := by decide +kernel
theorem dX9_isSet_1 : decode cX9_isSet 1 = .ok (.invokestatic 353, 3) := by decide +kernel
theorem dX9_isSet_4 : decode cX9_isSet 4 = .ok (.ifCond .eq 14, 3) := by decide +kernel
theorem dX9_isSet_7 : decode cX9_isSet 7 = .ok (.aload_n 0, 1) := by decide +kernel
theorem dX9_isSet_8 : decode cX9_isSet 8 = .ok (.getfield 10, 3) := by decide +kernel
theorem dX9_isSet_11 : decode cX9_isSet 11 = .ok (.iload_n 1, 1) := by decide +kernel
theorem dX9_isSet_12 : decode cX9_isSet 12 = .ok (.invokevirtual 364, 3) := by decide +kernel
theorem dX9_isSet_15 : decode cX9_isSet 15 = .ok (.ifCond .ne 6, 3) := by decide +kernel
theorem dX9_isSet_18 : decode cX9_isSet 18 = .ok (.ldc 79, 2) := by decide +kernel
theorem dX9_isSet_20 : decode cX9_isSet 20 = .ok (.ireturn, 1) := by decide +kernel
theorem dX9_isSet_21 : decode cX9_isSet 21 = .ok (.iload_n 1, 1) := by decide +kernel
theorem dX9_isSet_22 : decode cX9_isSet 22 = .ok (.ifCond .eq 20, 3) := by decide +kernel
theorem dX9_isSet_25 : decode cX9_isSet 25 = .ok (.aload_n 0, 1) := by decide +kernel
theorem dX9_isSet_26 : decode cX9_isSet 26 = .ok (.getfield 10, 3) := by decide +kernel
theorem dX9_isSet_29 : decode cX9_isSet 29 = .ok (.iload_n 1, 1) := by decide +kernel
theorem dX9_isSet_30 : decode cX9_isSet 30 = .ok (.iload_n 2, 1) := by decide +kernel
theorem dX9_isSet_31 : decode cX9_isSet 31 = .ok (.invokevirtual 367, 3) := by decide +kernel
theorem dX9_isSet_34 : decode cX9_isSet 34 = .ok (.iload_n 1, 1) := by decide +kernel
theorem dX9_isSet_35 : decode cX9_isSet 35 = .ok (.if_icmp .ne 7, 3) := by decide +kernel
theorem dX9_isSet_38 : decode cX9_isSet 38 = .ok (.iconst 1, 1) := by decide +kernel
theorem dX9_isSet_39 : decode cX9_isSet 39 = .ok (.goto 4, 3) := by decide +kernel
theorem dX9_isSet_42 : decode cX9_isSet 42 = .ok (.iconst 0, 1) := by decide +kernel
theorem dX9_isSet_43 : decode cX9_isSet 43 = .ok (.ireturn, 1) := by decide +kernel
theorem dX9_greatest_0 : decode cX9_greatest 0 = .ok (.iload_n 2, 1) := by decide +kernel
theorem dX9_greatest_1 : decode cX9_greatest 1 = .ok (.invokestatic 353, 3) := by decide +kernel
theorem dX9_greatest_4 : decode cX9_greatest 4 = .ok (.ifCond .eq 14, 3) := by decide +kernel
theorem dX9_greatest_7 : decode cX9_greatest 7 = .ok (.aload_n 0, 1) := by decide +kernel
theorem dX9_greatest_8 : decode cX9_greatest 8 = .ok (.getfield 10, 3) := by decide +kernel
theorem dX9_greatest_11 : decode cX9_greatest 11 = .ok (.iload_n 1, 1) := by decide +kernel
theorem dX9_greatest_12 : decode cX9_greatest 12 = .ok (.invokevirtual 364, 3) := by decide +kernel
theorem dX9_greatest_15 : decode cX9_greatest 15 = .ok (.ifCond .ne 6, 3) := by decide +kernel
theorem dX9_greatest_18 : decode cX9_greatest 18 = .ok (.ldc 79, 2) := by decide +kernel
theorem dX9_greatest_20 : decode cX9_greatest 20 = .ok (.ireturn, 1) := by decide +kernel
theorem dX9_greatest_21 : decode cX9_greatest 21 = .ok (.aload_n 0, 1) := by decide +kernel
theorem dX9_greatest_22 : decode cX9_greatest 22 = .ok (.getfield 10, 3) := by decide +kernel
theorem dX9_greatest_25 : decode cX9_greatest 25 = .ok (.iload_n 1, 1) := by decide +kernel
theorem dX9_greatest_26 : decode cX9_greatest 26 = .ok (.iload_n 2, 1) := by decide +kernel
theorem dX9_greatest_27 : decode cX9_greatest 27 = .ok (.invokevirtual 367, 3) := by decide +kernel
theorem dX9_greatest_30 : decode cX9_greatest 30 = .ok (.ireturn, 1) := by decide +kernel
theorem dX9_free_0 : decode cX9_free 0 = .ok (.aload_n 0, 1) := by decide +kernel
theorem dX9_free_1 : decode cX9_free 1 = .ok (.getfield 10, 3) := by decide +kernel
theorem dX9_free_4 : decode cX9_free 4 = .ok (.invokevirtual 370, 3) := by decide +kernel
theorem dX9_free_7 : decode cX9_free 7 = .ok (.ifCond .eq 7, 3) := by decide +kernel
theorem dX9_free_10 : decode cX9_free 10 = .ok (.iconst 1, 1) := by decide +kernel
theorem dX9_free_11 : decode cX9_free 11 = .ok (.goto 4, 3) := by decide +kernel
theorem dX9_free_14 : decode cX9_free 14 = .ok (.iconst 0, 1) := by decide +kernel
theorem dX9_free_15 : decode cX9_free 15 = .ok (.ireturn, 1) := by decide +kernel
theorem dX9_bare_0 : decode cX9_bare 0 = .ok (.iconst 0, 1) := by decide +kernel
theorem dX9_bare_1 : decode cX9_bare 1 = .ok (.istore_n 1, 1) := by decide +kernel
theorem dX9_bare_2 : decode cX9_bare 2 = .ok (.ldc_w 374, 3) := by decide +kernel
theorem dX9_bare_5 : decode cX9_bare 5 = .ok (.istore_n 2, 1) := by decide +kernel
theorem dX9_bare_6 : decode cX9_bare 6 = .ok (.iload_n 2, 1) := by decide +kernel
theorem dX9_bare_7 : decode cX9_bare 7 = .ok (.ifCond .le 52, 3) := by decide +kernel
theorem dX9_bare_10 : decode cX9_bare 10 = .ok (.aload_n 0, 1) := by decide +kernel
theorem dX9_bare_11 : decode cX9_bare 11 = .ok (.getfield 10, 3) := by decide +kernel
theorem dX9_bare_14 : decode cX9_bare 14 = .ok (.iconst 0, 1) := by decide +kernel
theorem dX9_bare_15 : decode cX9_bare 15 = .ok (.iload_n 1, 1) := by decide +kernel
theorem dX9_bare_16 : decode cX9_bare 16 = .ok (.iconst 0, 1) := by decide +kernel
theorem dX9_bare_17 : decode cX9_bare 17 = .ok (.aload_n 0, 1) := by decide +kernel
theorem dX9_bare_18 : decode cX9_bare 18 = .ok (.getfield 10, 3) := by decide +kernel
theorem dX9_bare_21 : decode cX9_bare 21 = .ok (.getfield 80, 3) := by decide +kernel
theorem dX9_bare_24 : decode cX9_bare 24 = .ok (.invokestatic 375, 3) := by decide +kernel
theorem dX9_bare_27 : decode cX9_bare 27 = .ok (.istore_n 1, 1) := by decide +kernel
theorem dX9_bare_28 : decode cX9_bare 28 = .ok (.iload_n 1, 1) := by decide +kernel
theorem dX9_bare_29 : decode cX9_bare 29 = .ok (.ifCond .eq 22, 3) := by decide +kernel
theorem dX9_bare_32 : decode cX9_bare 32 = .ok (.aload_n 0, 1) := by decide +kernel
theorem dX9_bare_33 : decode cX9_bare 33 = .ok (.getfield 19, 3) := by decide +kernel
theorem dX9_bare_36 : decode cX9_bare 36 = .ok (.aload_n 0, 1) := by decide +kernel
theorem dX9_bare_37 : decode cX9_bare 37 = .ok (.getfield 10, 3) := by decide +kernel
theorem dX9_bare_40 : decode cX9_bare 40 = .ok (.iload_n 1, 1) := by decide +kernel
theorem dX9_bare_41 : decode cX9_bare 41 = .ok (.iconst 1, 1) := by decide +kernel
theorem dX9_bare_42 : decode cX9_bare 42 = .ok (.invokevirtual 367, 3) := by decide +kernel
theorem dX9_bare_45 : decode cX9_bare 45 = .ok (.invokevirtual 379, 3) := by decide +kernel
theorem dX9_bare_48 : decode cX9_bare 48 = .ok (.ifCond .ne 5, 3) := by decide +kernel
theorem dX9_bare_51 : decode cX9_bare 51 = .ok (.iload_n 1, 1) := by decide +kernel
theorem dX9_bare_52 : decode cX9_bare 52 = .ok (.ireturn, 1) := by decide +kernel
theorem dX9_bare_53 : decode cX9_bare 53 = .ok (.iinc 2 (-1), 3) := by decide +kernel
theorem dX9_bare_56 : decode cX9_bare 56 = .ok (.goto (-50), 3) := by decide +kernel
theorem dX9_bare_59 : decode cX9_bare 59 = .ok (.iconst 0, 1) := by decide +kernel
theorem dX9_bare_60 : decode cX9_bare 60 = .ok (.ireturn, 1) := by decide +kernel
theorem dX9_count_0 : decode cX9_count 0 = .ok (.iload_n 1, 1) := by decide +kernel
theorem dX9_count_1 : decode cX9_count 1 = .ok (.tableswitch 178 0 10 #[59, 67, 75, 83, 88, 96, 104, 129, 154, 162, 170], 59) := by decide +kernel
theorem dX9_count_60 : decode cX9_count 60 = .ok (.aload_n 0, 1) := by decide +kernel
theorem dX9_count_61 : decode cX9_count 61 = .ok (.getfield 10, 3) := by decide +kernel
theorem dX9_count_64 : decode cX9_count 64 = .ok (.getfield 80, 3) := by decide +kernel
theorem dX9_count_67 : decode cX9_count 67 = .ok (.ireturn, 1) := by decide +kernel
theorem dX9_count_68 : decode cX9_count 68 = .ok (.aload_n 0, 1) := by decide +kernel
theorem dX9_count_69 : decode cX9_count 69 = .ok (.getfield 10, 3) := by decide +kernel
theorem dX9_count_72 : decode cX9_count 72 = .ok (.getfield 91, 3) := by decide +kernel
theorem dX9_count_75 : decode cX9_count 75 = .ok (.ireturn, 1) := by decide +kernel
theorem dX9_count_76 : decode cX9_count 76 = .ok (.aload_n 0, 1) := by decide +kernel
theorem dX9_count_77 : decode cX9_count 77 = .ok (.getfield 29, 3) := by decide +kernel
theorem dX9_count_80 : decode cX9_count 80 = .ok (.getfield 191, 3) := by decide +kernel
theorem dX9_count_83 : decode cX9_count 83 = .ok (.ireturn, 1) := by decide +kernel
theorem dX9_count_84 : decode cX9_count 84 = .ok (.aload_n 0, 1) := by decide +kernel
theorem dX9_count_85 : decode cX9_count 85 = .ok (.getfield 71, 3) := by decide +kernel
theorem dX9_count_88 : decode cX9_count 88 = .ok (.ireturn, 1) := by decide +kernel
theorem dX9_count_89 : decode cX9_count 89 = .ok (.aload_n 0, 1) := by decide +kernel
theorem dX9_count_90 : decode cX9_count 90 = .ok (.getfield 36, 3) := by decide +kernel
theorem dX9_count_93 : decode cX9_count 93 = .ok (.getfield 198, 3) := by decide +kernel
theorem dX9_count_96 : decode cX9_count 96 = .ok (.ireturn, 1) := by decide +kernel
theorem dX9_count_97 : decode cX9_count 97 = .ok (.aload_n 0, 1) := by decide +kernel
theorem dX9_count_98 : decode cX9_count 98 = .ok (.getfield 36, 3) := by decide +kernel
theorem dX9_count_101 : decode cX9_count 101 = .ok (.getfield 224, 3) := by decide +kernel
theorem dX9_count_104 : decode cX9_count 104 = .ok (.ireturn, 1) := by decide +kernel
theorem dX9_count_105 : decode cX9_count 105 = .ok (.aload_n 0, 1) := by decide +kernel
theorem dX9_count_106 : decode cX9_count 106 = .ok (.getfield 43, 3) := by decide +kernel
theorem dX9_count_109 : decode cX9_count 109 = .ok (.getfield 270, 3) := by decide +kernel
theorem dX9_count_112 : decode cX9_count 112 = .ok (.ifCond .eq 16, 3) := by decide +kernel
theorem dX9_count_115 : decode cX9_count 115 = .ok (.aload_n 0, 1) := by decide +kernel
theorem dX9_count_116 : decode cX9_count 116 = .ok (.getfield 43, 3) := by decide +kernel
theorem dX9_count_119 : decode cX9_count 119 = .ok (.getfield 248, 3) := by decide +kernel
theorem dX9_count_122 : decode cX9_count 122 = .ok (.getfield 252, 3) := by decide +kernel
theorem dX9_count_125 : decode cX9_count 125 = .ok (.goto 4, 3) := by decide +kernel
theorem dX9_count_128 : decode cX9_count 128 = .ok (.iconst 0, 1) := by decide +kernel
theorem dX9_count_129 : decode cX9_count 129 = .ok (.ireturn, 1) := by decide +kernel
theorem dX9_count_130 : decode cX9_count 130 = .ok (.aload_n 0, 1) := by decide +kernel
theorem dX9_count_131 : decode cX9_count 131 = .ok (.getfield 50, 3) := by decide +kernel
theorem dX9_count_134 : decode cX9_count 134 = .ok (.getfield 319, 3) := by decide +kernel
theorem dX9_count_137 : decode cX9_count 137 = .ok (.ifCond .eq 16, 3) := by decide +kernel
theorem dX9_count_140 : decode cX9_count 140 = .ok (.aload_n 0, 1) := by decide +kernel
theorem dX9_count_141 : decode cX9_count 141 = .ok (.getfield 50, 3) := by decide +kernel
theorem dX9_count_144 : decode cX9_count 144 = .ok (.getfield 303, 3) := by decide +kernel
theorem dX9_count_147 : decode cX9_count 147 = .ok (.getfield 252, 3) := by decide +kernel
theorem dX9_count_150 : decode cX9_count 150 = .ok (.goto 4, 3) := by decide +kernel
theorem dX9_count_153 : decode cX9_count 153 = .ok (.iconst 0, 1) := by decide +kernel
theorem dX9_count_154 : decode cX9_count 154 = .ok (.ireturn, 1) := by decide +kernel
theorem dX9_count_155 : decode cX9_count 155 = .ok (.aload_n 0, 1) := by decide +kernel
theorem dX9_count_156 : decode cX9_count 156 = .ok (.getfield 57, 3) := by decide +kernel
theorem dX9_count_159 : decode cX9_count 159 = .ok (.getfield 340, 3) := by decide +kernel
theorem dX9_count_162 : decode cX9_count 162 = .ok (.ireturn, 1) := by decide +kernel
theorem dX9_count_163 : decode cX9_count 163 = .ok (.aload_n 0, 1) := by decide +kernel
theorem dX9_count_164 : decode cX9_count 164 = .ok (.getfield 61, 3) := by decide +kernel
theorem dX9_count_167 : decode cX9_count 167 = .ok (.getfield 340, 3) := by decide +kernel
theorem dX9_count_170 : decode cX9_count 170 = .ok (.ireturn, 1) := by decide +kernel
theorem dX9_count_171 : decode cX9_count 171 = .ok (.aload_n 0, 1) := by decide +kernel
theorem dX9_count_172 : decode cX9_count 172 = .ok (.getfield 67, 3) := by decide +kernel
theorem dX9_count_175 : decode cX9_count 175 = .ok (.getfield 360, 3) := by decide +kernel
theorem dX9_count_178 : decode cX9_count 178 = .ok (.ireturn, 1) := by decide +kernel
theorem dX9_count_179 : decode cX9_count 179 = .ok (.ldc 79, 2) := by decide +kernel
theorem dX9_count_181 : decode cX9_count 181 = .ok (.ireturn, 1) := by decide +kernel
theorem dX9_netChanges_0 : decode cX9_netChanges 0 = .ok (.aload_n 0, 1) := by decide +kernel
theorem dX9_netChanges_1 : decode cX9_netChanges 1 = .ok (.getfield 43, 3) := by decide +kernel
theorem dX9_netChanges_4 : decode cX9_netChanges 4 = .ok (.iconst 0, 1) := by decide +kernel
theorem dX9_netChanges_5 : decode cX9_netChanges 5 = .ok (.putfield 270, 3) := by decide +kernel
theorem dX9_netChanges_8 : decode cX9_netChanges 8 = .ok (.aload_n 0, 1) := by decide +kernel
theorem dX9_netChanges_9 : decode cX9_netChanges 9 = .ok (.getfield 50, 3) := by decide +kernel
theorem dX9_netChanges_12 : decode cX9_netChanges 12 = .ok (.iconst 0, 1) := by decide +kernel
theorem dX9_netChanges_13 : decode cX9_netChanges 13 = .ok (.putfield 319, 3) := by decide +kernel
theorem dX9_netChanges_16 : decode cX9_netChanges 16 = .ok (.aload_n 0, 1) := by decide +kernel
theorem dX9_netChanges_17 : decode cX9_netChanges 17 = .ok (.getfield 57, 3) := by decide +kernel
theorem dX9_netChanges_20 : decode cX9_netChanges 20 = .ok (.iconst 0, 1) := by decide +kernel
theorem dX9_netChanges_21 : decode cX9_netChanges 21 = .ok (.putfield 340, 3) := by decide +kernel
theorem dX9_netChanges_24 : decode cX9_netChanges 24 = .ok (.aload_n 0, 1) := by decide +kernel
theorem dX9_netChanges_25 : decode cX9_netChanges 25 = .ok (.getfield 61, 3) := by decide +kernel
theorem dX9_netChanges_28 : decode cX9_netChanges 28 = .ok (.iconst 0, 1) := by decide +kernel
theorem dX9_netChanges_29 : decode cX9_netChanges 29 = .ok (.putfield 340, 3) := by decide +kernel
theorem dX9_netChanges_32 : decode cX9_netChanges 32 = .ok (.aload_n 0, 1) := by decide +kernel
theorem dX9_netChanges_33 : decode cX9_netChanges 33 = .ok (.getfield 67, 3) := by decide +kernel
theorem dX9_netChanges_36 : decode cX9_netChanges 36 = .ok (.iconst 0, 1) := by decide +kernel
theorem dX9_netChanges_37 : decode cX9_netChanges 37 = .ok (.putfield 360, 3) := by decide +kernel
theorem dX9_netChanges_40 : decode cX9_netChanges 40 = .ok (.aload_n 0, 1) := by decide +kernel
theorem dX9_netChanges_41 : decode cX9_netChanges 41 = .ok (.getfield 29, 3) := by decide +kernel
theorem dX9_netChanges_44 : decode cX9_netChanges 44 = .ok (.invokevirtual 159, 3) := by decide +kernel
theorem dX9_netChanges_47 : decode cX9_netChanges 47 = .ok (.return_, 1) := by decide +kernel
theorem dX9_carryOut_0 : decode cX9_carryOut 0 = .ok (.aload_n 0, 1) := by decide +kernel
theorem dX9_carryOut_1 : decode cX9_carryOut 1 = .ok (.getfield 29, 3) := by decide +kernel
theorem dX9_carryOut_4 : decode cX9_carryOut 4 = .ok (.aload_n 0, 1) := by decide +kernel
theorem dX9_carryOut_5 : decode cX9_carryOut 5 = .ok (.getfield 10, 3) := by decide +kernel
theorem dX9_carryOut_8 : decode cX9_carryOut 8 = .ok (.aload_n 0, 1) := by decide +kernel
theorem dX9_carryOut_9 : decode cX9_carryOut 9 = .ok (.getfield 19, 3) := by decide +kernel
theorem dX9_carryOut_12 : decode cX9_carryOut 12 = .ok (.iload_n 1, 1) := by decide +kernel
theorem dX9_carryOut_13 : decode cX9_carryOut 13 = .ok (.invokevirtual 382, 3) := by decide +kernel
theorem dX9_carryOut_16 : decode cX9_carryOut 16 = .ok (.aload_n 0, 1) := by decide +kernel
theorem dX9_carryOut_17 : decode cX9_carryOut 17 = .ok (.getfield 10, 3) := by decide +kernel
theorem dX9_carryOut_20 : decode cX9_carryOut 20 = .ok (.aload_n 0, 1) := by decide +kernel
theorem dX9_carryOut_21 : decode cX9_carryOut 21 = .ok (.getfield 19, 3) := by decide +kernel
theorem dX9_carryOut_24 : decode cX9_carryOut 24 = .ok (.iload_n 1, 1) := by decide +kernel
theorem dX9_carryOut_25 : decode cX9_carryOut 25 = .ok (.invokevirtual 240, 3) := by decide +kernel
theorem dX9_carryOut_28 : decode cX9_carryOut 28 = .ok (.aload_n 0, 1) := by decide +kernel
theorem dX9_carryOut_29 : decode cX9_carryOut 29 = .ok (.dup, 1) := by decide +kernel
theorem dX9_carryOut_30 : decode cX9_carryOut 30 = .ok (.getfield 71, 3) := by decide +kernel
theorem dX9_carryOut_33 : decode cX9_carryOut 33 = .ok (.iconst 1, 1) := by decide +kernel
theorem dX9_carryOut_34 : decode cX9_carryOut 34 = .ok (.iadd, 1) := by decide +kernel
theorem dX9_carryOut_35 : decode cX9_carryOut 35 = .ok (.putfield 71, 3) := by decide +kernel
theorem dX9_carryOut_38 : decode cX9_carryOut 38 = .ok (.return_, 1) := by decide +kernel
theorem dX9_tryTheRow_0 : decode cX9_tryTheRow 0 = .ok (.iconst 0, 1) := by decide +kernel
theorem dX9_tryTheRow_1 : decode cX9_tryTheRow 1 = .ok (.istore_n 1, 1) := by decide +kernel
theorem dX9_tryTheRow_2 : decode cX9_tryTheRow 2 = .ok (.iload_n 1, 1) := by decide +kernel
theorem dX9_tryTheRow_3 : decode cX9_tryTheRow 3 = .ok (.aload_n 0, 1) := by decide +kernel
theorem dX9_tryTheRow_4 : decode cX9_tryTheRow 4 = .ok (.getfield 10, 3) := by decide +kernel
theorem dX9_tryTheRow_7 : decode cX9_tryTheRow 7 = .ok (.getfield 80, 3) := by decide +kernel
theorem dX9_tryTheRow_10 : decode cX9_tryTheRow 10 = .ok (.if_icmp .ge 26, 3) := by decide +kernel
theorem dX9_tryTheRow_13 : decode cX9_tryTheRow 13 = .ok (.aload_n 0, 1) := by decide +kernel
theorem dX9_tryTheRow_14 : decode cX9_tryTheRow 14 = .ok (.getfield 23, 3) := by decide +kernel
theorem dX9_tryTheRow_17 : decode cX9_tryTheRow 17 = .ok (.getfield 156, 3) := by decide +kernel
theorem dX9_tryTheRow_20 : decode cX9_tryTheRow 20 = .ok (.iload_n 1, 1) := by decide +kernel
theorem dX9_tryTheRow_21 : decode cX9_tryTheRow 21 = .ok (.aload_n 0, 1) := by decide +kernel
theorem dX9_tryTheRow_22 : decode cX9_tryTheRow 22 = .ok (.getfield 36, 3) := by decide +kernel
theorem dX9_tryTheRow_25 : decode cX9_tryTheRow 25 = .ok (.iload_n 1, 1) := by decide +kernel
theorem dX9_tryTheRow_26 : decode cX9_tryTheRow 26 = .ok (.invokevirtual 347, 3) := by decide +kernel
theorem dX9_tryTheRow_29 : decode cX9_tryTheRow 29 = .ok (.iastore, 1) := by decide +kernel
theorem dX9_tryTheRow_30 : decode cX9_tryTheRow 30 = .ok (.iinc 1 1, 3) := by decide +kernel
theorem dX9_tryTheRow_33 : decode cX9_tryTheRow 33 = .ok (.goto (-31), 3) := by decide +kernel
theorem dX9_tryTheRow_36 : decode cX9_tryTheRow 36 = .ok (.return_, 1) := by decide +kernel
theorem dX9_isArc_0 : decode cX9_isArc 0 = .ok (.iload_n 0, 1) := by decide +kernel
theorem dX9_isArc_1 : decode cX9_isArc 1 = .ok (.ifCond .lt 13, 3) := by decide +kernel
theorem dX9_isArc_4 : decode cX9_isArc 4 = .ok (.iload_n 0, 1) := by decide +kernel
theorem dX9_isArc_5 : decode cX9_isArc 5 = .ok (.bipush 9, 2) := by decide +kernel
theorem dX9_isArc_7 : decode cX9_isArc 7 = .ok (.if_icmp .gt 7, 3) := by decide +kernel
theorem dX9_isArc_10 : decode cX9_isArc 10 = .ok (.iconst 1, 1) := by decide +kernel
theorem dX9_isArc_11 : decode cX9_isArc 11 = .ok (.goto 4, 3) := by decide +kernel
theorem dX9_isArc_14 : decode cX9_isArc 14 = .ok (.iconst 0, 1) := by decide +kernel
theorem dX9_isArc_15 : decode cX9_isArc 15 = .ok (.ireturn, 1) := by decide +kernel
theorem dX9_isThingKind_0 : decode cX9_isThingKind 0 = .ok (.iload_n 0, 1) := by decide +kernel
theorem dX9_isThingKind_1 : decode cX9_isThingKind 1 = .ok (.ifCond .lt 12, 3) := by decide +kernel
theorem dX9_isThingKind_4 : decode cX9_isThingKind 4 = .ok (.iload_n 0, 1) := by decide +kernel
theorem dX9_isThingKind_5 : decode cX9_isThingKind 5 = .ok (.iconst 3, 1) := by decide +kernel
theorem dX9_isThingKind_6 : decode cX9_isThingKind 6 = .ok (.if_icmp .gt 7, 3) := by decide +kernel
theorem dX9_isThingKind_9 : decode cX9_isThingKind 9 = .ok (.iconst 1, 1) := by decide +kernel
theorem dX9_isThingKind_10 : decode cX9_isThingKind 10 = .ok (.goto 4, 3) := by decide +kernel
theorem dX9_isThingKind_13 : decode cX9_isThingKind 13 = .ok (.iconst 0, 1) := by decide +kernel
theorem dX9_isThingKind_14 : decode cX9_isThingKind 14 = .ok (.ireturn, 1) := by decide +kernel
theorem dX9_isSetKind_0 : decode cX9_isSetKind 0 = .ok (.iload_n 0, 1) := by decide +kernel
theorem dX9_isSetKind_1 : decode cX9_isSetKind 1 = .ok (.ifCond .eq 8, 3) := by decide +kernel
theorem dX9_isSetKind_4 : decode cX9_isSetKind 4 = .ok (.iload_n 0, 1) := by decide +kernel
theorem dX9_isSetKind_5 : decode cX9_isSetKind 5 = .ok (.iconst 1, 1) := by decide +kernel
theorem dX9_isSetKind_6 : decode cX9_isSetKind 6 = .ok (.if_icmp .ne 7, 3) := by decide +kernel
theorem dX9_isSetKind_9 : decode cX9_isSetKind 9 = .ok (.iconst 1, 1) := by decide +kernel
theorem dX9_isSetKind_10 : decode cX9_isSetKind 10 = .ok (.goto 4, 3) := by decide +kernel
theorem dX9_isSetKind_13 : decode cX9_isSetKind 13 = .ok (.iconst 0, 1) := by decide +kernel
theorem dX9_isSetKind_14 : decode cX9_isSetKind 14 = .ok (.ireturn, 1) := by decide +kernel
theorem dX9_asTold_0 : decode cX9_asTold 0 = .ok (.iload_n 0, 1) := by decide +kernel
theorem dX9_asTold_1 : decode cX9_asTold 1 = .ok (.ldc_w 386, 3) := by decide +kernel
theorem dX9_asTold_4 : decode cX9_asTold 4 = .ok (.if_icmp .ne 9, 3) := by decide +kernel
theorem dX9_asTold_7 : decode cX9_asTold 7 = .ok (.ldc_w 387, 3) := by decide +kernel
theorem dX9_asTold_10 : decode cX9_asTold 10 = .ok (.goto 4, 3) := by decide +kernel
theorem dX9_asTold_13 : decode cX9_asTold 13 = .ok (.iload_n 0, 1) := by decide +kernel
theorem dX9_asTold_14 : decode cX9_asTold 14 = .ok (.ireturn, 1) := by decide +kernel
theorem dX9_crossing_0 : decode cX9_crossing 0 = .ok (.iload_n 0, 1) := by decide +kernel
theorem dX9_crossing_1 : decode cX9_crossing 1 = .ok (.bipush 16, 2) := by decide +kernel
theorem dX9_crossing_3 : decode cX9_crossing 3 = .ok (.imul, 1) := by decide +kernel
theorem dX9_crossing_4 : decode cX9_crossing 4 = .ok (.iload_n 1, 1) := by decide +kernel
theorem dX9_crossing_5 : decode cX9_crossing 5 = .ok (.iadd, 1) := by decide +kernel
theorem dX9_crossing_6 : decode cX9_crossing 6 = .ok (.ireturn, 1) := by decide +kernel
theorem dX9_leastBehind_0 : decode cX9_leastBehind 0 = .ok (.iload 4, 2) := by decide +kernel
theorem dX9_leastBehind_2 : decode cX9_leastBehind 2 = .ok (.ifCond .lt 10, 3) := by decide +kernel
theorem dX9_leastBehind_5 : decode cX9_leastBehind 5 = .ok (.iload 4, 2) := by decide +kernel
theorem dX9_leastBehind_7 : decode cX9_leastBehind 7 = .ok (.bipush 16, 2) := by decide +kernel
theorem dX9_leastBehind_9 : decode cX9_leastBehind 9 = .ok (.if_icmp .le 5, 3) := by decide +kernel
theorem dX9_leastBehind_12 : decode cX9_leastBehind 12 = .ok (.iconst 0, 1) := by decide +kernel
theorem dX9_leastBehind_13 : decode cX9_leastBehind 13 = .ok (.ireturn, 1) := by decide +kernel
theorem dX9_leastBehind_14 : decode cX9_leastBehind 14 = .ok (.iload_n 3, 1) := by decide +kernel
theorem dX9_leastBehind_15 : decode cX9_leastBehind 15 = .ok (.iconst 1, 1) := by decide +kernel
theorem dX9_leastBehind_16 : decode cX9_leastBehind 16 = .ok (.iload 4, 2) := by decide +kernel
theorem dX9_leastBehind_18 : decode cX9_leastBehind 18 = .ok (.ishl, 1) := by decide +kernel
theorem dX9_leastBehind_19 : decode cX9_leastBehind 19 = .ok (.iconst 1, 1) := by decide +kernel
theorem dX9_leastBehind_20 : decode cX9_leastBehind 20 = .ok (.isub, 1) := by decide +kernel
theorem dX9_leastBehind_21 : decode cX9_leastBehind 21 = .ok (.ior, 1) := by decide +kernel
theorem dX9_leastBehind_22 : decode cX9_leastBehind 22 = .ok (.istore 5, 2) := by decide +kernel
theorem dX9_leastBehind_24 : decode cX9_leastBehind 24 = .ok (.iload 5, 2) := by decide +kernel
theorem dX9_leastBehind_26 : decode cX9_leastBehind 26 = .ok (.iload_n 2, 1) := by decide +kernel
theorem dX9_leastBehind_27 : decode cX9_leastBehind 27 = .ok (.if_icmp .gt 5, 3) := by decide +kernel
theorem dX9_leastBehind_30 : decode cX9_leastBehind 30 = .ok (.iconst 0, 1) := by decide +kernel
theorem dX9_leastBehind_31 : decode cX9_leastBehind 31 = .ok (.ireturn, 1) := by decide +kernel
theorem dX9_leastBehind_32 : decode cX9_leastBehind 32 = .ok (.aload_n 0, 1) := by decide +kernel
theorem dX9_leastBehind_33 : decode cX9_leastBehind 33 = .ok (.iload 5, 2) := by decide +kernel
theorem dX9_leastBehind_35 : decode cX9_leastBehind 35 = .ok (.iload_n 1, 1) := by decide +kernel
theorem dX9_leastBehind_36 : decode cX9_leastBehind 36 = .ok (.invokevirtual 367, 3) := by decide +kernel
theorem dX9_leastBehind_39 : decode cX9_leastBehind 39 = .ok (.istore 6, 2) := by decide +kernel
theorem dX9_leastBehind_41 : decode cX9_leastBehind 41 = .ok (.iload 6, 2) := by decide +kernel
theorem dX9_leastBehind_43 : decode cX9_leastBehind 43 = .ok (.ifCond .eq 12, 3) := by decide +kernel
theorem dX9_leastBehind_46 : decode cX9_leastBehind 46 = .ok (.iload_n 3, 1) := by decide +kernel
theorem dX9_leastBehind_47 : decode cX9_leastBehind 47 = .ok (.iload 6, 2) := by decide +kernel
theorem dX9_leastBehind_49 : decode cX9_leastBehind 49 = .ok (.iconst (-1), 1) := by decide +kernel
theorem dX9_leastBehind_50 : decode cX9_leastBehind 50 = .ok (.ixor, 1) := by decide +kernel
theorem dX9_leastBehind_51 : decode cX9_leastBehind 51 = .ok (.iand, 1) := by decide +kernel
theorem dX9_leastBehind_52 : decode cX9_leastBehind 52 = .ok (.ifCond .eq 5, 3) := by decide +kernel
theorem dX9_leastBehind_55 : decode cX9_leastBehind 55 = .ok (.iconst 0, 1) := by decide +kernel
theorem dX9_leastBehind_56 : decode cX9_leastBehind 56 = .ok (.ireturn, 1) := by decide +kernel
theorem dX9_leastBehind_57 : decode cX9_leastBehind 57 = .ok (.aload_n 0, 1) := by decide +kernel
theorem dX9_leastBehind_58 : decode cX9_leastBehind 58 = .ok (.iload_n 3, 1) := by decide +kernel
theorem dX9_leastBehind_59 : decode cX9_leastBehind 59 = .ok (.iload_n 1, 1) := by decide +kernel
theorem dX9_leastBehind_60 : decode cX9_leastBehind 60 = .ok (.invokevirtual 367, 3) := by decide +kernel
theorem dX9_leastBehind_63 : decode cX9_leastBehind 63 = .ok (.ifCond .eq 23, 3) := by decide +kernel
theorem dX9_leastBehind_66 : decode cX9_leastBehind 66 = .ok (.iload_n 3, 1) := by decide +kernel
theorem dX9_leastBehind_67 : decode cX9_leastBehind 67 = .ok (.iload_n 2, 1) := by decide +kernel
theorem dX9_leastBehind_68 : decode cX9_leastBehind 68 = .ok (.if_icmp .le 16, 3) := by decide +kernel
theorem dX9_leastBehind_71 : decode cX9_leastBehind 71 = .ok (.aload_n 0, 1) := by decide +kernel
theorem dX9_leastBehind_72 : decode cX9_leastBehind 72 = .ok (.iload_n 3, 1) := by decide +kernel
theorem dX9_leastBehind_73 : decode cX9_leastBehind 73 = .ok (.iload_n 1, 1) := by decide +kernel
theorem dX9_leastBehind_74 : decode cX9_leastBehind 74 = .ok (.invokevirtual 388, 3) := by decide +kernel
theorem dX9_leastBehind_77 : decode cX9_leastBehind 77 = .ok (.ifCond .eq 7, 3) := by decide +kernel
theorem dX9_leastBehind_80 : decode cX9_leastBehind 80 = .ok (.iload_n 3, 1) := by decide +kernel
theorem dX9_leastBehind_81 : decode cX9_leastBehind 81 = .ok (.goto 4, 3) := by decide +kernel
theorem dX9_leastBehind_84 : decode cX9_leastBehind 84 = .ok (.iconst 0, 1) := by decide +kernel
theorem dX9_leastBehind_85 : decode cX9_leastBehind 85 = .ok (.ireturn, 1) := by decide +kernel
theorem dX9_leastBehind_86 : decode cX9_leastBehind 86 = .ok (.aload_n 0, 1) := by decide +kernel
theorem dX9_leastBehind_87 : decode cX9_leastBehind 87 = .ok (.iload_n 1, 1) := by decide +kernel
theorem dX9_leastBehind_88 : decode cX9_leastBehind 88 = .ok (.iload_n 2, 1) := by decide +kernel
theorem dX9_leastBehind_89 : decode cX9_leastBehind 89 = .ok (.iload_n 3, 1) := by decide +kernel
theorem dX9_leastBehind_90 : decode cX9_leastBehind 90 = .ok (.iload 4, 2) := by decide +kernel
theorem dX9_leastBehind_92 : decode cX9_leastBehind 92 = .ok (.iconst 1, 1) := by decide +kernel
theorem dX9_leastBehind_93 : decode cX9_leastBehind 93 = .ok (.isub, 1) := by decide +kernel
theorem dX9_leastBehind_94 : decode cX9_leastBehind 94 = .ok (.invokestatic 375, 3) := by decide +kernel
theorem dX9_leastBehind_97 : decode cX9_leastBehind 97 = .ok (.istore 7, 2) := by decide +kernel
theorem dX9_leastBehind_99 : decode cX9_leastBehind 99 = .ok (.iload 7, 2) := by decide +kernel
theorem dX9_leastBehind_101 : decode cX9_leastBehind 101 = .ok (.ifCond .ne 8, 3) := by decide +kernel
theorem dX9_leastBehind_104 : decode cX9_leastBehind 104 = .ok (.iload 4, 2) := by decide +kernel
theorem dX9_leastBehind_106 : decode cX9_leastBehind 106 = .ok (.ifCond .ne 6, 3) := by decide +kernel
theorem dX9_leastBehind_109 : decode cX9_leastBehind 109 = .ok (.iload 7, 2) := by decide +kernel
theorem dX9_leastBehind_111 : decode cX9_leastBehind 111 = .ok (.ireturn, 1) := by decide +kernel
theorem dX9_leastBehind_112 : decode cX9_leastBehind 112 = .ok (.aload_n 0, 1) := by decide +kernel
theorem dX9_leastBehind_113 : decode cX9_leastBehind 113 = .ok (.iload_n 1, 1) := by decide +kernel
theorem dX9_leastBehind_114 : decode cX9_leastBehind 114 = .ok (.iload_n 2, 1) := by decide +kernel
theorem dX9_leastBehind_115 : decode cX9_leastBehind 115 = .ok (.iload_n 3, 1) := by decide +kernel
theorem dX9_leastBehind_116 : decode cX9_leastBehind 116 = .ok (.iconst 1, 1) := by decide +kernel
theorem dX9_leastBehind_117 : decode cX9_leastBehind 117 = .ok (.iload 4, 2) := by decide +kernel
theorem dX9_leastBehind_119 : decode cX9_leastBehind 119 = .ok (.iconst 1, 1) := by decide +kernel
theorem dX9_leastBehind_120 : decode cX9_leastBehind 120 = .ok (.isub, 1) := by decide +kernel
theorem dX9_leastBehind_121 : decode cX9_leastBehind 121 = .ok (.ishl, 1) := by decide +kernel
theorem dX9_leastBehind_122 : decode cX9_leastBehind 122 = .ok (.ior, 1) := by decide +kernel
theorem dX9_leastBehind_123 : decode cX9_leastBehind 123 = .ok (.iload 4, 2) := by decide +kernel
theorem dX9_leastBehind_125 : decode cX9_leastBehind 125 = .ok (.iconst 1, 1) := by decide +kernel
theorem dX9_leastBehind_126 : decode cX9_leastBehind 126 = .ok (.isub, 1) := by decide +kernel
theorem dX9_leastBehind_127 : decode cX9_leastBehind 127 = .ok (.invokestatic 375, 3) := by decide +kernel
theorem dX9_leastBehind_130 : decode cX9_leastBehind 130 = .ok (.ireturn, 1) := by decide +kernel
theorem dX10_init_0 : decode cX10_init 0 = .ok (.aload_n 0, 1) := by decide +kernel
theorem dX10_init_1 : decode cX10_init 1 = .ok (.invokespecial 1, 3) := by decide +kernel
theorem dX10_init_4 : decode cX10_init 4 = .ok (.aload_n 0, 1) := by decide +kernel
theorem dX10_init_5 : decode cX10_init 5 = .ok (.bipush 16, 2) := by decide +kernel
theorem dX10_init_7 : decode cX10_init 7 = .ok (.newarray .int, 2) := by decide +kernel
theorem dX10_init_9 : decode cX10_init 9 = .ok (.putfield 7, 3) := by decide +kernel
theorem dX10_init_12 : decode cX10_init 12 = .ok (.aload_n 0, 1) := by decide +kernel
theorem dX10_init_13 : decode cX10_init 13 = .ok (.bipush 16, 2) := by decide +kernel
theorem dX10_init_15 : decode cX10_init 15 = .ok (.newarray .int, 2) := by decide +kernel
theorem dX10_init_17 : decode cX10_init 17 = .ok (.putfield 13, 3) := by decide +kernel
theorem dX10_init_20 : decode cX10_init 20 = .ok (.aload_n 0, 1) := by decide +kernel
theorem dX10_init_21 : decode cX10_init 21 = .ok (.sipush 256, 3) := by decide +kernel
theorem dX10_init_24 : decode cX10_init 24 = .ok (.newarray .int, 2) := by decide +kernel
theorem dX10_init_26 : decode cX10_init 26 = .ok (.putfield 16, 3) := by decide +kernel
theorem dX10_init_29 : decode cX10_init 29 = .ok (.aload_n 0, 1) := by decide +kernel
theorem dX10_init_30 : decode cX10_init 30 = .ok (.sipush 256, 3) := by decide +kernel
theorem dX10_init_33 : decode cX10_init 33 = .ok (.newarray .int, 2) := by decide +kernel
theorem dX10_init_35 : decode cX10_init 35 = .ok (.putfield 19, 3) := by decide +kernel
theorem dX10_init_38 : decode cX10_init 38 = .ok (.aload_n 0, 1) := by decide +kernel
theorem dX10_init_39 : decode cX10_init 39 = .ok (.sipush 256, 3) := by decide +kernel
theorem dX10_init_42 : decode cX10_init 42 = .ok (.newarray .int, 2) := by decide +kernel
theorem dX10_init_44 : decode cX10_init 44 = .ok (.putfield 22, 3) := by decide +kernel
theorem dX10_init_47 : decode cX10_init 47 = .ok (.aload_n 0, 1) := by decide +kernel
theorem dX10_init_48 : decode cX10_init 48 = .ok (.sipush 256, 3) := by decide +kernel
theorem dX10_init_51 : decode cX10_init 51 = .ok (.newarray .int, 2) := by decide +kernel
theorem dX10_init_53 : decode cX10_init 53 = .ok (.putfield 25, 3) := by decide +kernel
theorem dX10_init_56 : decode cX10_init 56 = .ok (.aload_n 0, 1) := by decide +kernel
theorem dX10_init_57 : decode cX10_init 57 = .ok (.sipush 256, 3) := by decide +kernel
theorem dX10_init_60 : decode cX10_init 60 = .ok (.newarray .int, 2) := by decide +kernel
theorem dX10_init_62 : decode cX10_init 62 = .ok (.putfield 28, 3) := by decide +kernel
theorem dX10_init_65 : decode cX10_init 65 = .ok (.aload_n 0, 1) := by decide +kernel
theorem dX10_init_66 : decode cX10_init 66 = .ok (.sipush 256, 3) := by decide +kernel
theorem dX10_init_69 : decode cX10_init 69 = .ok (.newarray .int, 2) := by decide +kernel
theorem dX10_init_71 : decode cX10_init 71 = .ok (.putfield 31, 3) := by decide +kernel
theorem dX10_init_74 : decode cX10_init 74 = .ok (.aload_n 0, 1) := by decide +kernel
theorem dX10_init_75 : decode cX10_init 75 = .ok (.bipush 16, 2) := by decide +kernel
theorem dX10_init_77 : decode cX10_init 77 = .ok (.newarray .int, 2) := by decide +kernel
theorem dX10_init_79 : decode cX10_init 79 = .ok (.putfield 34, 3) := by decide +kernel
theorem dX10_init_82 : decode cX10_init 82 = .ok (.aload_n 0, 1) := by decide +kernel
theorem dX10_init_83 : decode cX10_init 83 = .ok (.sipush 320, 3) := by decide +kernel
theorem dX10_init_86 : decode cX10_init 86 = .ok (.newarray .int, 2) := by decide +kernel
theorem dX10_init_88 : decode cX10_init 88 = .ok (.putfield 37, 3) := by decide +kernel
theorem dX10_init_91 : decode cX10_init 91 = .ok (.aload_n 0, 1) := by decide +kernel
theorem dX10_init_92 : decode cX10_init 92 = .ok (.sipush 256, 3) := by decide +kernel
theorem dX10_init_95 : decode cX10_init 95 = .ok (.newarray .int, 2) := by decide +kernel
theorem dX10_init_97 : decode cX10_init 97 = .ok (.putfield 40, 3) := by decide +kernel
theorem dX10_init_100 : decode cX10_init 100 = .ok (.aload_n 0, 1) := by decide +kernel
theorem dX10_init_101 : decode cX10_init 101 = .ok (.sipush 4096, 3) := by decide +kernel
theorem dX10_init_104 : decode cX10_init 104 = .ok (.newarray .int, 2) := by decide +kernel
theorem dX10_init_106 : decode cX10_init 106 = .ok (.putfield 43, 3) := by decide +kernel
theorem dX10_init_109 : decode cX10_init 109 = .ok (.aload_n 0, 1) := by decide +kernel
theorem dX10_init_110 : decode cX10_init 110 = .ok (.ldc 46, 2) := by decide +kernel
theorem dX10_init_112 : decode cX10_init 112 = .ok (.newarray .int, 2) := by decide +kernel
theorem dX10_init_114 : decode cX10_init 114 = .ok (.putfield 47, 3) := by decide +kernel
theorem dX10_init_117 : decode cX10_init 117 = .ok (.aload_n 0, 1) := by decide +kernel
theorem dX10_init_118 : decode cX10_init 118 = .ok (.bipush 16, 2) := by decide +kernel
theorem dX10_init_120 : decode cX10_init 120 = .ok (.newarray .int, 2) := by decide +kernel
theorem dX10_init_122 : decode cX10_init 122 = .ok (.putfield 50, 3) := by decide +kernel
theorem dX10_init_125 : decode cX10_init 125 = .ok (.aload_n 0, 1) := by decide +kernel
theorem dX10_init_126 : decode cX10_init 126 = .ok (.bipush 16, 2) := by decide +kernel
theorem dX10_init_128 : decode cX10_init 128 = .ok (.newarray .int, 2) := by decide +kernel
theorem dX10_init_130 : decode cX10_init 130 = .ok (.putfield 53, 3) := by decide +kernel
theorem dX10_init_133 : decode cX10_init 133 = .ok (.aload_n 0, 1) := by decide +kernel
theorem dX10_init_134 : decode cX10_init 134 = .ok (.sipush 8000, 3) := by decide +kernel
theorem dX10_init_137 : decode cX10_init 137 = .ok (.newarray .int, 2) := by decide +kernel
theorem dX10_init_139 : decode cX10_init 139 = .ok (.putfield 56, 3) := by decide +kernel
theorem dX10_init_142 : decode cX10_init 142 = .ok (.aload_n 0, 1) := by decide +kernel
theorem dX10_init_143 : decode cX10_init 143 = .ok (.bipush 16, 2) := by decide +kernel
theorem dX10_init_145 : decode cX10_init 145 = .ok (.newarray .int, 2) := by decide +kernel
theorem dX10_init_147 : decode cX10_init 147 = .ok (.putfield 59, 3) := by decide +kernel
theorem dX10_init_150 : decode cX10_init 150 = .ok (.aload_n 0, 1) := by decide +kernel
theorem dX10_init_151 : decode cX10_init 151 = .ok (.ldc 62, 2) := by decide +kernel
theorem dX10_init_153 : decode cX10_init 153 = .ok (.newarray .int, 2) := by decide +kernel
theorem dX10_init_155 : decode cX10_init 155 = .ok (.putfield 63, 3) := by decide +kernel
theorem dX10_init_158 : decode cX10_init 158 = .ok (.aload_n 0, 1) := by decide +kernel
theorem dX10_init_159 : decode cX10_init 159 = .ok (.sipush 8000, 3) := by decide +kernel
theorem dX10_init_162 : decode cX10_init 162 = .ok (.newarray .int, 2) := by decide +kernel
theorem dX10_init_164 : decode cX10_init 164 = .ok (.putfield 66, 3) := by decide +kernel
theorem dX10_init_167 : decode cX10_init 167 = .ok (.aload_n 0, 1) := by decide +kernel
theorem dX10_init_168 : decode cX10_init 168 = .ok (.sipush 8000, 3) := by decide +kernel
theorem dX10_init_171 : decode cX10_init 171 = .ok (.newarray .int, 2) := by decide +kernel
theorem dX10_init_173 : decode cX10_init 173 = .ok (.putfield 69, 3) := by decide +kernel
theorem dX10_init_176 : decode cX10_init 176 = .ok (.aload_n 0, 1) := by decide +kernel
theorem dX10_init_177 : decode cX10_init 177 = .ok (.sipush 8000, 3) := by decide +kernel
theorem dX10_init_180 : decode cX10_init 180 = .ok (.newarray .int, 2) := by decide +kernel
theorem dX10_init_182 : decode cX10_init 182 = .ok (.putfield 72, 3) := by decide +kernel
theorem dX10_init_185 : decode cX10_init 185 = .ok (.aload_n 0, 1) := by decide +kernel
theorem dX10_init_186 : decode cX10_init 186 = .ok (.ldc 62, 2) := by decide +kernel
theorem dX10_init_188 : decode cX10_init 188 = .ok (.newarray .int, 2) := by decide +kernel
theorem dX10_init_190 : decode cX10_init 190 = .ok (.putfield 75, 3) := by decide +kernel
theorem dX10_init_193 : decode cX10_init 193 = .ok (.aload_n 0, 1) := by decide +kernel
theorem dX10_init_194 : decode cX10_init 194 = .ok (.bipush 16, 2) := by decide +kernel
theorem dX10_init_196 : decode cX10_init 196 = .ok (.newarray .int, 2) := by decide +kernel
theorem dX10_init_198 : decode cX10_init 198 = .ok (.putfield 78, 3) := by decide +kernel
theorem dX10_init_201 : decode cX10_init 201 = .ok (.aload_n 0, 1) := by decide +kernel
theorem dX10_init_202 : decode cX10_init 202 = .ok (.sipush 8000, 3) := by decide +kernel
theorem dX10_init_205 : decode cX10_init 205 = .ok (.newarray .boolean, 2) := by decide +kernel
theorem dX10_init_207 : decode cX10_init 207 = .ok (.putfield 81, 3) := by decide +kernel
theorem dX10_init_210 : decode cX10_init 210 = .ok (.aload_n 0, 1) := by decide +kernel
theorem dX10_init_211 : decode cX10_init 211 = .ok (.ldc 85, 2) := by decide +kernel
theorem dX10_init_213 : decode cX10_init 213 = .ok (.putfield 86, 3) := by decide +kernel
theorem dX10_init_216 : decode cX10_init 216 = .ok (.aload_n 0, 1) := by decide +kernel
theorem dX10_init_217 : decode cX10_init 217 = .ok (.sipush 32000, 3) := by decide +kernel
theorem dX10_init_220 : decode cX10_init 220 = .ok (.newarray .int, 2) := by decide +kernel
theorem dX10_init_222 : decode cX10_init 222 = .ok (.putfield 90, 3) := by decide +kernel
theorem dX10_init_225 : decode cX10_init 225 = .ok (.aload_n 0, 1) := by decide +kernel
theorem dX10_init_226 : decode cX10_init 226 = .ok (.sipush 2000, 3) := by decide +kernel
theorem dX10_init_229 : decode cX10_init 229 = .ok (.newarray .int, 2) := by decide +kernel
theorem dX10_init_231 : decode cX10_init 231 = .ok (.putfield 93, 3) := by decide +kernel
theorem dX10_init_234 : decode cX10_init 234 = .ok (.aload_n 0, 1) := by decide +kernel
theorem dX10_init_235 : decode cX10_init 235 = .ok (.sipush 2000, 3) := by decide +kernel
theorem dX10_init_238 : decode cX10_init 238 = .ok (.newarray .int, 2) := by decide +kernel
theorem dX10_init_240 : decode cX10_init 240 = .ok (.putfield 96, 3) := by decide +kernel
theorem dX10_init_243 : decode cX10_init 243 = .ok (.aload_n 0, 1) := by decide +kernel
theorem dX10_init_244 : decode cX10_init 244 = .ok (.sipush 2000, 3) := by decide +kernel
theorem dX10_init_247 : decode cX10_init 247 = .ok (.newarray .boolean, 2) := by decide +kernel
theorem dX10_init_249 : decode cX10_init 249 = .ok (.putfield 99, 3) := by decide +kernel
theorem dX10_init_252 : decode cX10_init 252 = .ok (.aload_n 0, 1) := by decide +kernel
theorem dX10_init_253 : decode cX10_init 253 = .ok (.sipush 512, 3) := by decide +kernel
theorem dX10_init_256 : decode cX10_init 256 = .ok (.newarray .long, 2) := by decide +kernel
theorem dX10_init_258 : decode cX10_init 258 = .ok (.putfield 102, 3) := by decide +kernel
theorem dX10_init_261 : decode cX10_init 261 = .ok (.aload_n 0, 1) := by decide +kernel
theorem dX10_init_262 : decode cX10_init 262 = .ok (.bipush 16, 2) := by decide +kernel
theorem dX10_init_264 : decode cX10_init 264 = .ok (.newarray .boolean, 2) := by decide +kernel
theorem dX10_init_266 : decode cX10_init 266 = .ok (.putfield 106, 3) := by decide +kernel
theorem dX10_init_269 : decode cX10_init 269 = .ok (.aload_n 0, 1) := by decide +kernel
theorem dX10_init_270 : decode cX10_init 270 = .ok (.sipush 256, 3) := by decide +kernel
theorem dX10_init_273 : decode cX10_init 273 = .ok (.newarray .int, 2) := by decide +kernel
theorem dX10_init_275 : decode cX10_init 275 = .ok (.putfield 109, 3) := by decide +kernel
theorem dX10_init_278 : decode cX10_init 278 = .ok (.aload_n 0, 1) := by decide +kernel
theorem dX10_init_279 : decode cX10_init 279 = .ok (.sipush 256, 3) := by decide +kernel
theorem dX10_init_282 : decode cX10_init 282 = .ok (.newarray .int, 2) := by decide +kernel
theorem dX10_init_284 : decode cX10_init 284 = .ok (.putfield 112, 3) := by decide +kernel
theorem dX10_init_287 : decode cX10_init 287 = .ok (.aload_n 0, 1) := by decide +kernel
theorem dX10_init_288 : decode cX10_init 288 = .ok (.sipush 500, 3) := by decide +kernel
theorem dX10_init_291 : decode cX10_init 291 = .ok (.newarray .int, 2) := by decide +kernel
theorem dX10_init_293 : decode cX10_init 293 = .ok (.putfield 115, 3) := by decide +kernel
theorem dX10_init_296 : decode cX10_init 296 = .ok (.aload_n 0, 1) := by decide +kernel
theorem dX10_init_297 : decode cX10_init 297 = .ok (.bipush 16, 2) := by decide +kernel
theorem dX10_init_299 : decode cX10_init 299 = .ok (.newarray .int, 2) := by decide +kernel
theorem dX10_init_301 : decode cX10_init 301 = .ok (.putfield 118, 3) := by decide +kernel
theorem dX10_init_304 : decode cX10_init 304 = .ok (.aload_n 0, 1) := by decide +kernel
theorem dX10_init_305 : decode cX10_init 305 = .ok (.bipush 16, 2) := by decide +kernel
theorem dX10_init_307 : decode cX10_init 307 = .ok (.newarray .int, 2) := by decide +kernel
theorem dX10_init_309 : decode cX10_init 309 = .ok (.putfield 121, 3) := by decide +kernel
theorem dX10_init_312 : decode cX10_init 312 = .ok (.aload_n 0, 1) := by decide +kernel
theorem dX10_init_313 : decode cX10_init 313 = .ok (.iconst 0, 1) := by decide +kernel
theorem dX10_init_314 : decode cX10_init 314 = .ok (.putfield 124, 3) := by decide +kernel
theorem dX10_init_317 : decode cX10_init 317 = .ok (.return_, 1) := by decide +kernel
theorem dX10_isPlace_0 : decode cX10_isPlace 0 = .ok (.iload_n 1, 1) := by decide +kernel
theorem dX10_isPlace_1 : decode cX10_isPlace 1 = .ok (.ifCond .lt 15, 3) := by decide +kernel
theorem dX10_isPlace_4 : decode cX10_isPlace 4 = .ok (.iload_n 1, 1) := by decide +kernel
theorem dX10_isPlace_5 : decode cX10_isPlace 5 = .ok (.aload_n 0, 1) := by decide +kernel
theorem dX10_isPlace_6 : decode cX10_isPlace 6 = .ok (.getfield 127, 3) := by decide +kernel
theorem dX10_isPlace_9 : decode cX10_isPlace 9 = .ok (.if_icmp .ge 7, 3) := by decide +kernel
theorem dX10_isPlace_12 : decode cX10_isPlace 12 = .ok (.iconst 1, 1) := by decide +kernel
theorem dX10_isPlace_13 : decode cX10_isPlace 13 = .ok (.goto 4, 3) := by decide +kernel
theorem dX10_isPlace_16 : decode cX10_isPlace 16 = .ok (.iconst 0, 1) := by decide +kernel
theorem dX10_isPlace_17 : decode cX10_isPlace 17 = .ok (.ireturn, 1) := by decide +kernel
theorem dX10_isStep_0 : decode cX10_isStep 0 = .ok (.iload_n 1, 1) := by decide +kernel
theorem dX10_isStep_1 : decode cX10_isStep 1 = .ok (.ifCond .lt 15, 3) := by decide +kernel
theorem dX10_isStep_4 : decode cX10_isStep 4 = .ok (.iload_n 1, 1) := by decide +kernel
theorem dX10_isStep_5 : decode cX10_isStep 5 = .ok (.aload_n 0, 1) := by decide +kernel
theorem dX10_isStep_6 : decode cX10_isStep 6 = .ok (.getfield 130, 3) := by decide +kernel
theorem dX10_isStep_9 : decode cX10_isStep 9 = .ok (.if_icmp .ge 7, 3) := by decide +kernel
theorem dX10_isStep_12 : decode cX10_isStep 12 = .ok (.iconst 1, 1) := by decide +kernel
theorem dX10_isStep_13 : decode cX10_isStep 13 = .ok (.goto 4, 3) := by decide +kernel
theorem dX10_isStep_16 : decode cX10_isStep 16 = .ok (.iconst 0, 1) := by decide +kernel
theorem dX10_isStep_17 : decode cX10_isStep 17 = .ok (.ireturn, 1) := by decide +kernel
theorem dX10_isIn_0 : decode cX10_isIn 0 = .ok (.iload_n 0, 1) := by decide +kernel
theorem dX10_isIn_1 : decode cX10_isIn 1 = .ok (.iload_n 1, 1) := by decide +kernel
theorem dX10_isIn_2 : decode cX10_isIn 2 = .ok (.if_icmp .lt 12, 3) := by decide +kernel
theorem dX10_isIn_5 : decode cX10_isIn 5 = .ok (.iload_n 0, 1) := by decide +kernel
theorem dX10_isIn_6 : decode cX10_isIn 6 = .ok (.iload_n 2, 1) := by decide +kernel
theorem dX10_isIn_7 : decode cX10_isIn 7 = .ok (.if_icmp .gt 7, 3) := by decide +kernel
theorem dX10_isIn_10 : decode cX10_isIn 10 = .ok (.iconst 1, 1) := by decide +kernel
theorem dX10_isIn_11 : decode cX10_isIn 11 = .ok (.goto 4, 3) := by decide +kernel
theorem dX10_isIn_14 : decode cX10_isIn 14 = .ok (.iconst 0, 1) := by decide +kernel
theorem dX10_isIn_15 : decode cX10_isIn 15 = .ok (.ireturn, 1) := by decide +kernel
theorem dX10_changed_0 : decode cX10_changed 0 = .ok (.aload_n 0, 1) := by decide +kernel
theorem dX10_changed_1 : decode cX10_changed 1 = .ok (.iconst 0, 1) := by decide +kernel
theorem dX10_changed_2 : decode cX10_changed 2 = .ok (.putfield 133, 3) := by decide +kernel
theorem dX10_changed_5 : decode cX10_changed 5 = .ok (.aload_n 0, 1) := by decide +kernel
theorem dX10_changed_6 : decode cX10_changed 6 = .ok (.iconst 0, 1) := by decide +kernel
theorem dX10_changed_7 : decode cX10_changed 7 = .ok (.putfield 124, 3) := by decide +kernel
theorem dX10_changed_10 : decode cX10_changed 10 = .ok (.aload_n 0, 1) := by decide +kernel
theorem dX10_changed_11 : decode cX10_changed 11 = .ok (.iconst 0, 1) := by decide +kernel
theorem dX10_changed_12 : decode cX10_changed 12 = .ok (.putfield 137, 3) := by decide +kernel
theorem dX10_changed_15 : decode cX10_changed 15 = .ok (.aload_n 0, 1) := by decide +kernel
theorem dX10_changed_16 : decode cX10_changed 16 = .ok (.iconst 0, 1) := by decide +kernel
theorem dX10_changed_17 : decode cX10_changed 17 = .ok (.putfield 140, 3) := by decide +kernel
theorem dX10_changed_20 : decode cX10_changed 20 = .ok (.aload_n 0, 1) := by decide +kernel
theorem dX10_changed_21 : decode cX10_changed 21 = .ok (.iconst 0, 1) := by decide +kernel
theorem dX10_changed_22 : decode cX10_changed 22 = .ok (.putfield 143, 3) := by decide +kernel
theorem dX10_changed_25 : decode cX10_changed 25 = .ok (.aload_n 0, 1) := by decide +kernel
theorem dX10_changed_26 : decode cX10_changed 26 = .ok (.iconst 0, 1) := by decide +kernel
theorem dX10_changed_27 : decode cX10_changed 27 = .ok (.putfield 146, 3) := by decide +kernel
theorem dX10_changed_30 : decode cX10_changed 30 = .ok (.aload_n 0, 1) := by decide +kernel
theorem dX10_changed_31 : decode cX10_changed 31 = .ok (.iconst 0, 1) := by decide +kernel
theorem dX10_changed_32 : decode cX10_changed 32 = .ok (.putfield 149, 3) := by decide +kernel
theorem dX10_changed_35 : decode cX10_changed 35 = .ok (.aload_n 0, 1) := by decide +kernel
theorem dX10_changed_36 : decode cX10_changed 36 = .ok (.iconst 0, 1) := by decide +kernel
theorem dX10_changed_37 : decode cX10_changed 37 = .ok (.putfield 152, 3) := by decide +kernel
theorem dX10_changed_40 : decode cX10_changed 40 = .ok (.return_, 1) := by decide +kernel
theorem dX10_place_0 : decode cX10_place 0 = .ok (.iload_n 1, 1) := by decide +kernel
theorem dX10_place_1 : decode cX10_place 1 = .ok (.iconst 0, 1) := by decide +kernel
theorem dX10_place_2 : decode cX10_place 2 = .ok (.iconst 1, 1) := by decide +kernel
theorem dX10_place_3 : decode cX10_place 3 = .ok (.invokestatic 155, 3) := by decide +kernel
theorem dX10_place_6 : decode cX10_place 6 = .ok (.ifCond .ne 6, 3) := by decide +kernel
theorem dX10_place_9 : decode cX10_place 9 = .ok (.ldc 159, 2) := by decide +kernel
theorem dX10_place_11 : decode cX10_place 11 = .ok (.ireturn, 1) := by decide +kernel
theorem dX10_place_12 : decode cX10_place 12 = .ok (.aload_n 0, 1) := by decide +kernel
theorem dX10_place_13 : decode cX10_place 13 = .ok (.getfield 127, 3) := by decide +kernel
theorem dX10_place_16 : decode cX10_place 16 = .ok (.bipush 16, 2) := by decide +kernel
theorem dX10_place_18 : decode cX10_place 18 = .ok (.if_icmp .ne 6, 3) := by decide +kernel
theorem dX10_place_21 : decode cX10_place 21 = .ok (.ldc 160, 2) := by decide +kernel
theorem dX10_place_23 : decode cX10_place 23 = .ok (.ireturn, 1) := by decide +kernel
theorem dX10_place_24 : decode cX10_place 24 = .ok (.aload_n 0, 1) := by decide +kernel
theorem dX10_place_25 : decode cX10_place 25 = .ok (.invokevirtual 161, 3) := by decide +kernel
theorem dX10_place_28 : decode cX10_place 28 = .ok (.aload_n 0, 1) := by decide +kernel
theorem dX10_place_29 : decode cX10_place 29 = .ok (.getfield 7, 3) := by decide +kernel
theorem dX10_place_32 : decode cX10_place 32 = .ok (.aload_n 0, 1) := by decide +kernel
theorem dX10_place_33 : decode cX10_place 33 = .ok (.getfield 127, 3) := by decide +kernel
theorem dX10_place_36 : decode cX10_place 36 = .ok (.iload_n 1, 1) := by decide +kernel
theorem dX10_place_37 : decode cX10_place 37 = .ok (.iastore, 1) := by decide +kernel
theorem dX10_place_38 : decode cX10_place 38 = .ok (.aload_n 0, 1) := by decide +kernel
theorem dX10_place_39 : decode cX10_place 39 = .ok (.getfield 34, 3) := by decide +kernel
theorem dX10_place_42 : decode cX10_place 42 = .ok (.aload_n 0, 1) := by decide +kernel
theorem dX10_place_43 : decode cX10_place 43 = .ok (.getfield 127, 3) := by decide +kernel
theorem dX10_place_46 : decode cX10_place 46 = .ok (.iconst 0, 1) := by decide +kernel
theorem dX10_place_47 : decode cX10_place 47 = .ok (.iastore, 1) := by decide +kernel
theorem dX10_place_48 : decode cX10_place 48 = .ok (.aload_n 0, 1) := by decide +kernel
theorem dX10_place_49 : decode cX10_place 49 = .ok (.dup, 1) := by decide +kernel
theorem dX10_place_50 : decode cX10_place 50 = .ok (.getfield 127, 3) := by decide +kernel
theorem dX10_place_53 : decode cX10_place 53 = .ok (.iconst 1, 1) := by decide +kernel
theorem dX10_place_54 : decode cX10_place 54 = .ok (.iadd, 1) := by decide +kernel
theorem dX10_place_55 : decode cX10_place 55 = .ok (.putfield 127, 3) := by decide +kernel
theorem dX10_place_58 : decode cX10_place 58 = .ok (.aload_n 0, 1) := by decide +kernel
theorem dX10_place_59 : decode cX10_place 59 = .ok (.getfield 127, 3) := by decide +kernel
theorem dX10_place_62 : decode cX10_place 62 = .ok (.iconst 1, 1) := by decide +kernel
theorem dX10_place_63 : decode cX10_place 63 = .ok (.isub, 1) := by decide +kernel
theorem dX10_place_64 : decode cX10_place 64 = .ok (.ireturn, 1) := by decide +kernel
theorem dX10_step_0 : decode cX10_step 0 = .ok (.iload_n 1, 1) := by decide +kernel
theorem dX10_step_1 : decode cX10_step 1 = .ok (.iconst 0, 1) := by decide +kernel
theorem dX10_step_2 : decode cX10_step 2 = .ok (.iconst 3, 1) := by decide +kernel
theorem dX10_step_3 : decode cX10_step 3 = .ok (.invokestatic 155, 3) := by decide +kernel
theorem dX10_step_6 : decode cX10_step 6 = .ok (.ifCond .ne 6, 3) := by decide +kernel
theorem dX10_step_9 : decode cX10_step 9 = .ok (.ldc 159, 2) := by decide +kernel
theorem dX10_step_11 : decode cX10_step 11 = .ok (.ireturn, 1) := by decide +kernel
theorem dX10_step_12 : decode cX10_step 12 = .ok (.aload_n 0, 1) := by decide +kernel
theorem dX10_step_13 : decode cX10_step 13 = .ok (.getfield 130, 3) := by decide +kernel
theorem dX10_step_16 : decode cX10_step 16 = .ok (.bipush 16, 2) := by decide +kernel
theorem dX10_step_18 : decode cX10_step 18 = .ok (.if_icmp .ne 6, 3) := by decide +kernel
theorem dX10_step_21 : decode cX10_step 21 = .ok (.ldc 160, 2) := by decide +kernel
theorem dX10_step_23 : decode cX10_step 23 = .ok (.ireturn, 1) := by decide +kernel
theorem dX10_step_24 : decode cX10_step 24 = .ok (.aload_n 0, 1) := by decide +kernel
theorem dX10_step_25 : decode cX10_step 25 = .ok (.invokevirtual 161, 3) := by decide +kernel
theorem dX10_step_28 : decode cX10_step 28 = .ok (.aload_n 0, 1) := by decide +kernel
theorem dX10_step_29 : decode cX10_step 29 = .ok (.getfield 13, 3) := by decide +kernel
theorem dX10_step_32 : decode cX10_step 32 = .ok (.aload_n 0, 1) := by decide +kernel
theorem dX10_step_33 : decode cX10_step 33 = .ok (.getfield 130, 3) := by decide +kernel
theorem dX10_step_36 : decode cX10_step 36 = .ok (.iload_n 1, 1) := by decide +kernel
theorem dX10_step_37 : decode cX10_step 37 = .ok (.iastore, 1) := by decide +kernel
theorem dX10_step_38 : decode cX10_step 38 = .ok (.aload_n 0, 1) := by decide +kernel
theorem dX10_step_39 : decode cX10_step 39 = .ok (.dup, 1) := by decide +kernel
theorem dX10_step_40 : decode cX10_step 40 = .ok (.getfield 130, 3) := by decide +kernel
theorem dX10_step_43 : decode cX10_step 43 = .ok (.iconst 1, 1) := by decide +kernel
theorem dX10_step_44 : decode cX10_step 44 = .ok (.iadd, 1) := by decide +kernel
theorem dX10_step_45 : decode cX10_step 45 = .ok (.putfield 130, 3) := by decide +kernel
theorem dX10_step_48 : decode cX10_step 48 = .ok (.aload_n 0, 1) := by decide +kernel
theorem dX10_step_49 : decode cX10_step 49 = .ok (.getfield 130, 3) := by decide +kernel
theorem dX10_step_52 : decode cX10_step 52 = .ok (.iconst 1, 1) := by decide +kernel
theorem dX10_step_53 : decode cX10_step 53 = .ok (.isub, 1) := by decide +kernel
theorem dX10_step_54 : decode cX10_step 54 = .ok (.ireturn, 1) := by decide +kernel
theorem dX10_arc_0 : decode cX10_arc 0 = .ok (.aload_n 0, 1) := by decide +kernel
theorem dX10_arc_1 : decode cX10_arc 1 = .ok (.iload_n 1, 1) := by decide +kernel
theorem dX10_arc_2 : decode cX10_arc 2 = .ok (.invokevirtual 164, 3) := by decide +kernel
theorem dX10_arc_5 : decode cX10_arc 5 = .ok (.ifCond .eq 32, 3) := by decide +kernel
theorem dX10_arc_8 : decode cX10_arc 8 = .ok (.aload_n 0, 1) := by decide +kernel
theorem dX10_arc_9 : decode cX10_arc 9 = .ok (.iload_n 2, 1) := by decide +kernel
theorem dX10_arc_10 : decode cX10_arc 10 = .ok (.invokevirtual 168, 3) := by decide +kernel
theorem dX10_arc_13 : decode cX10_arc 13 = .ok (.ifCond .eq 24, 3) := by decide +kernel
theorem dX10_arc_16 : decode cX10_arc 16 = .ok (.iload_n 3, 1) := by decide +kernel
theorem dX10_arc_17 : decode cX10_arc 17 = .ok (.iconst 0, 1) := by decide +kernel
theorem dX10_arc_18 : decode cX10_arc 18 = .ok (.bipush 9, 2) := by decide +kernel
theorem dX10_arc_20 : decode cX10_arc 20 = .ok (.invokestatic 155, 3) := by decide +kernel
theorem dX10_arc_23 : decode cX10_arc 23 = .ok (.ifCond .eq 14, 3) := by decide +kernel
theorem dX10_arc_26 : decode cX10_arc 26 = .ok (.iload 4, 2) := by decide +kernel
theorem dX10_arc_28 : decode cX10_arc 28 = .ok (.iconst 0, 1) := by decide +kernel
theorem dX10_arc_29 : decode cX10_arc 29 = .ok (.bipush 9, 2) := by decide +kernel
theorem dX10_arc_31 : decode cX10_arc 31 = .ok (.invokestatic 155, 3) := by decide +kernel
theorem dX10_arc_34 : decode cX10_arc 34 = .ok (.ifCond .ne 6, 3) := by decide +kernel
theorem dX10_arc_37 : decode cX10_arc 37 = .ok (.ldc 159, 2) := by decide +kernel
theorem dX10_arc_39 : decode cX10_arc 39 = .ok (.ireturn, 1) := by decide +kernel
theorem dX10_arc_40 : decode cX10_arc 40 = .ok (.aload_n 0, 1) := by decide +kernel
theorem dX10_arc_41 : decode cX10_arc 41 = .ok (.invokevirtual 161, 3) := by decide +kernel
theorem dX10_arc_44 : decode cX10_arc 44 = .ok (.aload_n 0, 1) := by decide +kernel
theorem dX10_arc_45 : decode cX10_arc 45 = .ok (.getfield 16, 3) := by decide +kernel
theorem dX10_arc_48 : decode cX10_arc 48 = .ok (.bipush 16, 2) := by decide +kernel
theorem dX10_arc_50 : decode cX10_arc 50 = .ok (.iload_n 1, 1) := by decide +kernel
theorem dX10_arc_51 : decode cX10_arc 51 = .ok (.imul, 1) := by decide +kernel
theorem dX10_arc_52 : decode cX10_arc 52 = .ok (.iload_n 2, 1) := by decide +kernel
theorem dX10_arc_53 : decode cX10_arc 53 = .ok (.iadd, 1) := by decide +kernel
theorem dX10_arc_54 : decode cX10_arc 54 = .ok (.iload_n 3, 1) := by decide +kernel
theorem dX10_arc_55 : decode cX10_arc 55 = .ok (.iastore, 1) := by decide +kernel
theorem dX10_arc_56 : decode cX10_arc 56 = .ok (.aload_n 0, 1) := by decide +kernel
theorem dX10_arc_57 : decode cX10_arc 57 = .ok (.getfield 19, 3) := by decide +kernel
theorem dX10_arc_60 : decode cX10_arc 60 = .ok (.bipush 16, 2) := by decide +kernel
theorem dX10_arc_62 : decode cX10_arc 62 = .ok (.iload_n 1, 1) := by decide +kernel
theorem dX10_arc_63 : decode cX10_arc 63 = .ok (.imul, 1) := by decide +kernel
theorem dX10_arc_64 : decode cX10_arc 64 = .ok (.iload_n 2, 1) := by decide +kernel
theorem dX10_arc_65 : decode cX10_arc 65 = .ok (.iadd, 1) := by decide +kernel
theorem dX10_arc_66 : decode cX10_arc 66 = .ok (.iload 4, 2) := by decide +kernel
theorem dX10_arc_68 : decode cX10_arc 68 = .ok (.iastore, 1) := by decide +kernel
theorem dX10_arc_69 : decode cX10_arc 69 = .ok (.iconst 0, 1) := by decide +kernel
theorem dX10_arc_70 : decode cX10_arc 70 = .ok (.ireturn, 1) := by decide +kernel
theorem dX10_need_0 : decode cX10_need 0 = .ok (.aload_n 0, 1) := by decide +kernel
