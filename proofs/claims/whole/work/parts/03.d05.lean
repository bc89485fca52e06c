theorem dX10_lift_5 : decode cX10_lift 5 = .ok (.aload_n 0, 1) := by decide +kernel
theorem dX10_lift_6 : decode cX10_lift 6 = .ok (.iconst 0, 1) := by decide +kernel
theorem dX10_lift_7 : decode cX10_lift 7 = .ok (.putfield 225, 3) := by decide +kernel
theorem dX10_lift_10 : decode cX10_lift 10 = .ok (.iload_n 1, 1) := by decide +kernel
theorem dX10_lift_11 : decode cX10_lift 11 = .ok (.ireturn, 1) := by decide +kernel
theorem dX10_walk_0 : decode cX10_walk 0 = .ok (.iload_n 1, 1) := by decide +kernel
theorem dX10_walk_1 : decode cX10_walk 1 = .ok (.iconst 0, 1) := by decide +kernel
theorem dX10_walk_2 : decode cX10_walk 2 = .ok (.aload_n 0, 1) := by decide +kernel
theorem dX10_walk_3 : decode cX10_walk 3 = .ok (.getfield 225, 3) := by decide +kernel
theorem dX10_walk_6 : decode cX10_walk 6 = .ok (.iconst 1, 1) := by decide +kernel
theorem dX10_walk_7 : decode cX10_walk 7 = .ok (.isub, 1) := by decide +kernel
theorem dX10_walk_8 : decode cX10_walk 8 = .ok (.invokestatic 155, 3) := by decide +kernel
theorem dX10_walk_11 : decode cX10_walk 11 = .ok (.ifCond .eq 12, 3) := by decide +kernel
theorem dX10_walk_14 : decode cX10_walk 14 = .ok (.aload_n 0, 1) := by decide +kernel
theorem dX10_walk_15 : decode cX10_walk 15 = .ok (.getfield 56, 3) := by decide +kernel
theorem dX10_walk_18 : decode cX10_walk 18 = .ok (.iload_n 1, 1) := by decide +kernel
theorem dX10_walk_19 : decode cX10_walk 19 = .ok (.iaload, 1) := by decide +kernel
theorem dX10_walk_20 : decode cX10_walk 20 = .ok (.goto 5, 3) := by decide +kernel
theorem dX10_walk_23 : decode cX10_walk 23 = .ok (.ldc 159, 2) := by decide +kernel
theorem dX10_walk_25 : decode cX10_walk 25 = .ok (.ireturn, 1) := by decide +kernel
theorem dX10_hasColour_0 : decode cX10_hasColour 0 = .ok (.iconst 0, 1) := by decide +kernel
theorem dX10_hasColour_1 : decode cX10_hasColour 1 = .ok (.istore_n 1, 1) := by decide +kernel
theorem dX10_hasColour_2 : decode cX10_hasColour 2 = .ok (.iconst 0, 1) := by decide +kernel
theorem dX10_hasColour_3 : decode cX10_hasColour 3 = .ok (.istore_n 2, 1) := by decide +kernel
theorem dX10_hasColour_4 : decode cX10_hasColour 4 = .ok (.iload_n 2, 1) := by decide +kernel
theorem dX10_hasColour_5 : decode cX10_hasColour 5 = .ok (.aload_n 0, 1) := by decide +kernel
theorem dX10_hasColour_6 : decode cX10_hasColour 6 = .ok (.getfield 127, 3) := by decide +kernel
theorem dX10_hasColour_9 : decode cX10_hasColour 9 = .ok (.if_icmp .ge 29, 3) := by decide +kernel
theorem dX10_hasColour_12 : decode cX10_hasColour 12 = .ok (.iload_n 1, 1) := by decide +kernel
theorem dX10_hasColour_13 : decode cX10_hasColour 13 = .ok (.ifCond .ne 13, 3) := by decide +kernel
theorem dX10_hasColour_16 : decode cX10_hasColour 16 = .ok (.aload_n 0, 1) := by decide +kernel
theorem dX10_hasColour_17 : decode cX10_hasColour 17 = .ok (.getfield 7, 3) := by decide +kernel
theorem dX10_hasColour_20 : decode cX10_hasColour 20 = .ok (.iload_n 2, 1) := by decide +kernel
theorem dX10_hasColour_21 : decode cX10_hasColour 21 = .ok (.iaload, 1) := by decide +kernel
theorem dX10_hasColour_22 : decode cX10_hasColour 22 = .ok (.iconst 1, 1) := by decide +kernel
theorem dX10_hasColour_23 : decode cX10_hasColour 23 = .ok (.if_icmp .ne 7, 3) := by decide +kernel
theorem dX10_hasColour_26 : decode cX10_hasColour 26 = .ok (.iconst 1, 1) := by decide +kernel
theorem dX10_hasColour_27 : decode cX10_hasColour 27 = .ok (.goto 4, 3) := by decide +kernel
theorem dX10_hasColour_30 : decode cX10_hasColour 30 = .ok (.iconst 0, 1) := by decide +kernel
theorem dX10_hasColour_31 : decode cX10_hasColour 31 = .ok (.istore_n 1, 1) := by decide +kernel
theorem dX10_hasColour_32 : decode cX10_hasColour 32 = .ok (.iinc 2 1, 3) := by decide +kernel
theorem dX10_hasColour_35 : decode cX10_hasColour 35 = .ok (.goto (-31), 3) := by decide +kernel
theorem dX10_hasColour_38 : decode cX10_hasColour 38 = .ok (.iload_n 1, 1) := by decide +kernel
theorem dX10_hasColour_39 : decode cX10_hasColour 39 = .ok (.ireturn, 1) := by decide +kernel
theorem dX10_goes_0 : decode cX10_goes 0 = .ok (.aload_n 0, 1) := by decide +kernel
theorem dX10_goes_1 : decode cX10_goes 1 = .ok (.iload_n 1, 1) := by decide +kernel
theorem dX10_goes_2 : decode cX10_goes 2 = .ok (.aload_n 2, 1) := by decide +kernel
theorem dX10_goes_3 : decode cX10_goes 3 = .ok (.iload_n 3, 1) := by decide +kernel
theorem dX10_goes_4 : decode cX10_goes 4 = .ok (.invokevirtual 183, 3) := by decide +kernel
theorem dX10_goes_7 : decode cX10_goes 7 = .ok (.ifCond .ne 5, 3) := by decide +kernel
theorem dX10_goes_10 : decode cX10_goes 10 = .ok (.iconst 0, 1) := by decide +kernel
theorem dX10_goes_11 : decode cX10_goes 11 = .ok (.ireturn, 1) := by decide +kernel
theorem dX10_goes_12 : decode cX10_goes 12 = .ok (.iconst 0, 1) := by decide +kernel
theorem dX10_goes_13 : decode cX10_goes 13 = .ok (.istore 4, 2) := by decide +kernel
theorem dX10_goes_15 : decode cX10_goes 15 = .ok (.iconst 0, 1) := by decide +kernel
theorem dX10_goes_16 : decode cX10_goes 16 = .ok (.istore 5, 2) := by decide +kernel
theorem dX10_goes_18 : decode cX10_goes 18 = .ok (.iload 5, 2) := by decide +kernel
theorem dX10_goes_20 : decode cX10_goes 20 = .ok (.aload_n 0, 1) := by decide +kernel
theorem dX10_goes_21 : decode cX10_goes 21 = .ok (.getfield 130, 3) := by decide +kernel
theorem dX10_goes_24 : decode cX10_goes 24 = .ok (.if_icmp .ge 43, 3) := by decide +kernel
theorem dX10_goes_27 : decode cX10_goes 27 = .ok (.iload 4, 2) := by decide +kernel
theorem dX10_goes_29 : decode cX10_goes 29 = .ok (.ifCond .ne 25, 3) := by decide +kernel
theorem dX10_goes_32 : decode cX10_goes 32 = .ok (.aload_n 0, 1) := by decide +kernel
theorem dX10_goes_33 : decode cX10_goes 33 = .ok (.getfield 13, 3) := by decide +kernel
theorem dX10_goes_36 : decode cX10_goes 36 = .ok (.iload 5, 2) := by decide +kernel
theorem dX10_goes_38 : decode cX10_goes 38 = .ok (.iaload, 1) := by decide +kernel
theorem dX10_goes_39 : decode cX10_goes 39 = .ok (.iconst 3, 1) := by decide +kernel
theorem dX10_goes_40 : decode cX10_goes 40 = .ok (.if_icmp .ne 18, 3) := by decide +kernel
theorem dX10_goes_43 : decode cX10_goes 43 = .ok (.aload_n 0, 1) := by decide +kernel
theorem dX10_goes_44 : decode cX10_goes 44 = .ok (.iload 5, 2) := by decide +kernel
theorem dX10_goes_46 : decode cX10_goes 46 = .ok (.aload_n 2, 1) := by decide +kernel
theorem dX10_goes_47 : decode cX10_goes 47 = .ok (.iload_n 3, 1) := by decide +kernel
theorem dX10_goes_48 : decode cX10_goes 48 = .ok (.invokevirtual 183, 3) := by decide +kernel
theorem dX10_goes_51 : decode cX10_goes 51 = .ok (.ifCond .eq 7, 3) := by decide +kernel
theorem dX10_goes_54 : decode cX10_goes 54 = .ok (.iconst 1, 1) := by decide +kernel
theorem dX10_goes_55 : decode cX10_goes 55 = .ok (.goto 4, 3) := by decide +kernel
theorem dX10_goes_58 : decode cX10_goes 58 = .ok (.iconst 0, 1) := by decide +kernel
theorem dX10_goes_59 : decode cX10_goes 59 = .ok (.istore 4, 2) := by decide +kernel
theorem dX10_goes_61 : decode cX10_goes 61 = .ok (.iinc 5 1, 3) := by decide +kernel
theorem dX10_goes_64 : decode cX10_goes 64 = .ok (.goto (-46), 3) := by decide +kernel
theorem dX10_goes_67 : decode cX10_goes 67 = .ok (.aload_n 0, 1) := by decide +kernel
theorem dX10_goes_68 : decode cX10_goes 68 = .ok (.getfield 13, 3) := by decide +kernel
theorem dX10_goes_71 : decode cX10_goes 71 = .ok (.iload_n 1, 1) := by decide +kernel
theorem dX10_goes_72 : decode cX10_goes 72 = .ok (.iaload, 1) := by decide +kernel
theorem dX10_goes_73 : decode cX10_goes 73 = .ok (.iconst 3, 1) := by decide +kernel
theorem dX10_goes_74 : decode cX10_goes 74 = .ok (.if_icmp .eq 8, 3) := by decide +kernel
theorem dX10_goes_77 : decode cX10_goes 77 = .ok (.iload 4, 2) := by decide +kernel
theorem dX10_goes_79 : decode cX10_goes 79 = .ok (.ifCond .ne 7, 3) := by decide +kernel
theorem dX10_goes_82 : decode cX10_goes 82 = .ok (.iconst 1, 1) := by decide +kernel
theorem dX10_goes_83 : decode cX10_goes 83 = .ok (.goto 4, 3) := by decide +kernel
theorem dX10_goes_86 : decode cX10_goes 86 = .ok (.iconst 0, 1) := by decide +kernel
theorem dX10_goes_87 : decode cX10_goes 87 = .ok (.ireturn, 1) := by decide +kernel
theorem dX10_check_0 : decode cX10_check 0 = .ok (.aload_n 0, 1) := by decide +kernel
theorem dX10_check_1 : decode cX10_check 1 = .ok (.invokevirtual 228, 3) := by decide +kernel
theorem dX10_check_4 : decode cX10_check 4 = .ok (.ifCond .eq 6, 3) := by decide +kernel
theorem dX10_check_7 : decode cX10_check 7 = .ok (.ldc 171, 2) := by decide +kernel
theorem dX10_check_9 : decode cX10_check 9 = .ok (.ireturn, 1) := by decide +kernel
theorem dX10_check_10 : decode cX10_check 10 = .ok (.iconst 0, 1) := by decide +kernel
theorem dX10_check_11 : decode cX10_check 11 = .ok (.istore_n 1, 1) := by decide +kernel
theorem dX10_check_12 : decode cX10_check 12 = .ok (.iload_n 1, 1) := by decide +kernel
theorem dX10_check_13 : decode cX10_check 13 = .ok (.aload_n 0, 1) := by decide +kernel
theorem dX10_check_14 : decode cX10_check 14 = .ok (.getfield 127, 3) := by decide +kernel
theorem dX10_check_17 : decode cX10_check 17 = .ok (.if_icmp .ge 21, 3) := by decide +kernel
theorem dX10_check_20 : decode cX10_check 20 = .ok (.aload_n 0, 1) := by decide +kernel
theorem dX10_check_21 : decode cX10_check 21 = .ok (.getfield 59, 3) := by decide +kernel
theorem dX10_check_24 : decode cX10_check 24 = .ok (.iload_n 1, 1) := by decide +kernel
theorem dX10_check_25 : decode cX10_check 25 = .ok (.aload_n 0, 1) := by decide +kernel
theorem dX10_check_26 : decode cX10_check 26 = .ok (.getfield 34, 3) := by decide +kernel
theorem dX10_check_29 : decode cX10_check 29 = .ok (.iload_n 1, 1) := by decide +kernel
theorem dX10_check_30 : decode cX10_check 30 = .ok (.iaload, 1) := by decide +kernel
theorem dX10_check_31 : decode cX10_check 31 = .ok (.iastore, 1) := by decide +kernel
theorem dX10_check_32 : decode cX10_check 32 = .ok (.iinc 1 1, 3) := by decide +kernel
theorem dX10_check_35 : decode cX10_check 35 = .ok (.goto (-23), 3) := by decide +kernel
theorem dX10_check_38 : decode cX10_check 38 = .ok (.iconst 0, 1) := by decide +kernel
theorem dX10_check_39 : decode cX10_check 39 = .ok (.istore_n 1, 1) := by decide +kernel
theorem dX10_check_40 : decode cX10_check 40 = .ok (.iload_n 1, 1) := by decide +kernel
theorem dX10_check_41 : decode cX10_check 41 = .ok (.aload_n 0, 1) := by decide +kernel
theorem dX10_check_42 : decode cX10_check 42 = .ok (.getfield 225, 3) := by decide +kernel
theorem dX10_check_45 : decode cX10_check 45 = .ok (.if_icmp .ge 85, 3) := by decide +kernel
theorem dX10_check_48 : decode cX10_check 48 = .ok (.aload_n 0, 1) := by decide +kernel
theorem dX10_check_49 : decode cX10_check 49 = .ok (.aload_n 0, 1) := by decide +kernel
theorem dX10_check_50 : decode cX10_check 50 = .ok (.getfield 56, 3) := by decide +kernel
theorem dX10_check_53 : decode cX10_check 53 = .ok (.iload_n 1, 1) := by decide +kernel
theorem dX10_check_54 : decode cX10_check 54 = .ok (.iaload, 1) := by decide +kernel
theorem dX10_check_55 : decode cX10_check 55 = .ok (.aload_n 0, 1) := by decide +kernel
theorem dX10_check_56 : decode cX10_check 56 = .ok (.getfield 59, 3) := by decide +kernel
theorem dX10_check_59 : decode cX10_check 59 = .ok (.iconst 0, 1) := by decide +kernel
theorem dX10_check_60 : decode cX10_check 60 = .ok (.invokevirtual 231, 3) := by decide +kernel
theorem dX10_check_63 : decode cX10_check 63 = .ok (.ifCond .eq 67, 3) := by decide +kernel
theorem dX10_check_66 : decode cX10_check 66 = .ok (.iconst 0, 1) := by decide +kernel
theorem dX10_check_67 : decode cX10_check 67 = .ok (.istore_n 2, 1) := by decide +kernel
theorem dX10_check_68 : decode cX10_check 68 = .ok (.iload_n 2, 1) := by decide +kernel
theorem dX10_check_69 : decode cX10_check 69 = .ok (.aload_n 0, 1) := by decide +kernel
theorem dX10_check_70 : decode cX10_check 70 = .ok (.getfield 127, 3) := by decide +kernel
theorem dX10_check_73 : decode cX10_check 73 = .ok (.if_icmp .ge 51, 3) := by decide +kernel
theorem dX10_check_76 : decode cX10_check 76 = .ok (.aload_n 0, 1) := by decide +kernel
theorem dX10_check_77 : decode cX10_check 77 = .ok (.getfield 59, 3) := by decide +kernel
theorem dX10_check_80 : decode cX10_check 80 = .ok (.iload_n 2, 1) := by decide +kernel
theorem dX10_check_81 : decode cX10_check 81 = .ok (.dup2, 1) := by decide +kernel
theorem dX10_check_82 : decode cX10_check 82 = .ok (.iaload, 1) := by decide +kernel
theorem dX10_check_83 : decode cX10_check 83 = .ok (.aload_n 0, 1) := by decide +kernel
theorem dX10_check_84 : decode cX10_check 84 = .ok (.getfield 19, 3) := by decide +kernel
theorem dX10_check_87 : decode cX10_check 87 = .ok (.bipush 16, 2) := by decide +kernel
theorem dX10_check_89 : decode cX10_check 89 = .ok (.aload_n 0, 1) := by decide +kernel
theorem dX10_check_90 : decode cX10_check 90 = .ok (.getfield 56, 3) := by decide +kernel
theorem dX10_check_93 : decode cX10_check 93 = .ok (.iload_n 1, 1) := by decide +kernel
theorem dX10_check_94 : decode cX10_check 94 = .ok (.iaload, 1) := by decide +kernel
theorem dX10_check_95 : decode cX10_check 95 = .ok (.imul, 1) := by decide +kernel
theorem dX10_check_96 : decode cX10_check 96 = .ok (.iload_n 2, 1) := by decide +kernel
theorem dX10_check_97 : decode cX10_check 97 = .ok (.iadd, 1) := by decide +kernel
theorem dX10_check_98 : decode cX10_check 98 = .ok (.iaload, 1) := by decide +kernel
theorem dX10_check_99 : decode cX10_check 99 = .ok (.aload_n 0, 1) := by decide +kernel
theorem dX10_check_100 : decode cX10_check 100 = .ok (.getfield 16, 3) := by decide +kernel
theorem dX10_check_103 : decode cX10_check 103 = .ok (.bipush 16, 2) := by decide +kernel
theorem dX10_check_105 : decode cX10_check 105 = .ok (.aload_n 0, 1) := by decide +kernel
theorem dX10_check_106 : decode cX10_check 106 = .ok (.getfield 56, 3) := by decide +kernel
theorem dX10_check_109 : decode cX10_check 109 = .ok (.iload_n 1, 1) := by decide +kernel
theorem dX10_check_110 : decode cX10_check 110 = .ok (.iaload, 1) := by decide +kernel
theorem dX10_check_111 : decode cX10_check 111 = .ok (.imul, 1) := by decide +kernel
theorem dX10_check_112 : decode cX10_check 112 = .ok (.iload_n 2, 1) := by decide +kernel
theorem dX10_check_113 : decode cX10_check 113 = .ok (.iadd, 1) := by decide +kernel
theorem dX10_check_114 : decode cX10_check 114 = .ok (.iaload, 1) := by decide +kernel
theorem dX10_check_115 : decode cX10_check 115 = .ok (.isub, 1) := by decide +kernel
theorem dX10_check_116 : decode cX10_check 116 = .ok (.iadd, 1) := by decide +kernel
theorem dX10_check_117 : decode cX10_check 117 = .ok (.iastore, 1) := by decide +kernel
theorem dX10_check_118 : decode cX10_check 118 = .ok (.iinc 2 1, 3) := by decide +kernel
theorem dX10_check_121 : decode cX10_check 121 = .ok (.goto (-53), 3) := by decide +kernel
theorem dX10_check_124 : decode cX10_check 124 = .ok (.iinc 1 1, 3) := by decide +kernel
theorem dX10_check_127 : decode cX10_check 127 = .ok (.goto (-87), 3) := by decide +kernel
theorem dX10_check_130 : decode cX10_check 130 = .ok (.iload_n 1, 1) := by decide +kernel
theorem dX10_check_131 : decode cX10_check 131 = .ok (.ireturn, 1) := by decide +kernel
theorem dX10_compared_0 : decode cX10_compared 0 = .ok (.iconst 0, 1) := by decide +kernel
theorem dX10_compared_1 : decode cX10_compared 1 = .ok (.istore_n 2, 1) := by decide +kernel
theorem dX10_compared_2 : decode cX10_compared 2 = .ok (.iload_n 2, 1) := by decide +kernel
theorem dX10_compared_3 : decode cX10_compared 3 = .ok (.aload_n 0, 1) := by decide +kernel
theorem dX10_compared_4 : decode cX10_compared 4 = .ok (.getfield 127, 3) := by decide +kernel
theorem dX10_compared_7 : decode cX10_compared 7 = .ok (.if_icmp .ge 55, 3) := by decide +kernel
theorem dX10_compared_10 : decode cX10_compared 10 = .ok (.aload_n 0, 1) := by decide +kernel
theorem dX10_compared_11 : decode cX10_compared 11 = .ok (.getfield 63, 3) := by decide +kernel
theorem dX10_compared_14 : decode cX10_compared 14 = .ok (.bipush 16, 2) := by decide +kernel
theorem dX10_compared_16 : decode cX10_compared 16 = .ok (.iload_n 1, 1) := by decide +kernel
theorem dX10_compared_17 : decode cX10_compared 17 = .ok (.imul, 1) := by decide +kernel
theorem dX10_compared_18 : decode cX10_compared 18 = .ok (.iload_n 2, 1) := by decide +kernel
theorem dX10_compared_19 : decode cX10_compared 19 = .ok (.iadd, 1) := by decide +kernel
theorem dX10_compared_20 : decode cX10_compared 20 = .ok (.iaload, 1) := by decide +kernel
theorem dX10_compared_21 : decode cX10_compared 21 = .ok (.aload_n 0, 1) := by decide +kernel
theorem dX10_compared_22 : decode cX10_compared 22 = .ok (.getfield 78, 3) := by decide +kernel
theorem dX10_compared_25 : decode cX10_compared 25 = .ok (.iload_n 2, 1) := by decide +kernel
theorem dX10_compared_26 : decode cX10_compared 26 = .ok (.iaload, 1) := by decide +kernel
theorem dX10_compared_27 : decode cX10_compared 27 = .ok (.if_icmp .eq 29, 3) := by decide +kernel
theorem dX10_compared_30 : decode cX10_compared 30 = .ok (.aload_n 0, 1) := by decide +kernel
theorem dX10_compared_31 : decode cX10_compared 31 = .ok (.getfield 63, 3) := by decide +kernel
theorem dX10_compared_34 : decode cX10_compared 34 = .ok (.bipush 16, 2) := by decide +kernel
theorem dX10_compared_36 : decode cX10_compared 36 = .ok (.iload_n 1, 1) := by decide +kernel
theorem dX10_compared_37 : decode cX10_compared 37 = .ok (.imul, 1) := by decide +kernel
theorem dX10_compared_38 : decode cX10_compared 38 = .ok (.iload_n 2, 1) := by decide +kernel
theorem dX10_compared_39 : decode cX10_compared 39 = .ok (.iadd, 1) := by decide +kernel
theorem dX10_compared_40 : decode cX10_compared 40 = .ok (.iaload, 1) := by decide +kernel
theorem dX10_compared_41 : decode cX10_compared 41 = .ok (.aload_n 0, 1) := by decide +kernel
theorem dX10_compared_42 : decode cX10_compared 42 = .ok (.getfield 78, 3) := by decide +kernel
theorem dX10_compared_45 : decode cX10_compared 45 = .ok (.iload_n 2, 1) := by decide +kernel
theorem dX10_compared_46 : decode cX10_compared 46 = .ok (.iaload, 1) := by decide +kernel
theorem dX10_compared_47 : decode cX10_compared 47 = .ok (.if_icmp .ge 7, 3) := by decide +kernel
theorem dX10_compared_50 : decode cX10_compared 50 = .ok (.iconst (-1), 1) := by decide +kernel
theorem dX10_compared_51 : decode cX10_compared 51 = .ok (.goto 4, 3) := by decide +kernel
theorem dX10_compared_54 : decode cX10_compared 54 = .ok (.iconst 1, 1) := by decide +kernel
theorem dX10_compared_55 : decode cX10_compared 55 = .ok (.ireturn, 1) := by decide +kernel
theorem dX10_compared_56 : decode cX10_compared 56 = .ok (.iinc 2 1, 3) := by decide +kernel
theorem dX10_compared_59 : decode cX10_compared 59 = .ok (.goto (-57), 3) := by decide +kernel
theorem dX10_compared_62 : decode cX10_compared 62 = .ok (.iconst 0, 1) := by decide +kernel
theorem dX10_compared_63 : decode cX10_compared 63 = .ok (.ireturn, 1) := by decide +kernel
theorem dX10_sought_0 : decode cX10_sought 0 = .ok (.iconst 0, 1) := by decide +kernel
theorem dX10_sought_1 : decode cX10_sought 1 = .ok (.istore_n 1, 1) := by decide +kernel
theorem dX10_sought_2 : decode cX10_sought 2 = .ok (.aload_n 0, 1) := by decide +kernel
theorem dX10_sought_3 : decode cX10_sought 3 = .ok (.getfield 124, 3) := by decide +kernel
theorem dX10_sought_6 : decode cX10_sought 6 = .ok (.istore_n 2, 1) := by decide +kernel
theorem dX10_sought_7 : decode cX10_sought 7 = .ok (.iload_n 1, 1) := by decide +kernel
theorem dX10_sought_8 : decode cX10_sought 8 = .ok (.iload_n 2, 1) := by decide +kernel
theorem dX10_sought_9 : decode cX10_sought 9 = .ok (.if_icmp .ge 34, 3) := by decide +kernel
theorem dX10_sought_12 : decode cX10_sought 12 = .ok (.iload_n 1, 1) := by decide +kernel
theorem dX10_sought_13 : decode cX10_sought 13 = .ok (.iload_n 2, 1) := by decide +kernel
theorem dX10_sought_14 : decode cX10_sought 14 = .ok (.iadd, 1) := by decide +kernel
theorem dX10_sought_15 : decode cX10_sought 15 = .ok (.iconst 2, 1) := by decide +kernel
theorem dX10_sought_16 : decode cX10_sought 16 = .ok (.idiv, 1) := by decide +kernel
theorem dX10_sought_17 : decode cX10_sought 17 = .ok (.istore_n 3, 1) := by decide +kernel
theorem dX10_sought_18 : decode cX10_sought 18 = .ok (.aload_n 0, 1) := by decide +kernel
theorem dX10_sought_19 : decode cX10_sought 19 = .ok (.aload_n 0, 1) := by decide +kernel
theorem dX10_sought_20 : decode cX10_sought 20 = .ok (.getfield 66, 3) := by decide +kernel
theorem dX10_sought_23 : decode cX10_sought 23 = .ok (.iload_n 3, 1) := by decide +kernel
theorem dX10_sought_24 : decode cX10_sought 24 = .ok (.iaload, 1) := by decide +kernel
theorem dX10_sought_25 : decode cX10_sought 25 = .ok (.invokevirtual 234, 3) := by decide +kernel
theorem dX10_sought_28 : decode cX10_sought 28 = .ok (.ifCond .ge 10, 3) := by decide +kernel
theorem dX10_sought_31 : decode cX10_sought 31 = .ok (.iload_n 3, 1) := by decide +kernel
theorem dX10_sought_32 : decode cX10_sought 32 = .ok (.iconst 1, 1) := by decide +kernel
theorem dX10_sought_33 : decode cX10_sought 33 = .ok (.iadd, 1) := by decide +kernel
theorem dX10_sought_34 : decode cX10_sought 34 = .ok (.istore_n 1, 1) := by decide +kernel
theorem dX10_sought_35 : decode cX10_sought 35 = .ok (.goto 5, 3) := by decide +kernel
theorem dX10_sought_38 : decode cX10_sought 38 = .ok (.iload_n 3, 1) := by decide +kernel
theorem dX10_sought_39 : decode cX10_sought 39 = .ok (.istore_n 2, 1) := by decide +kernel
theorem dX10_sought_40 : decode cX10_sought 40 = .ok (.goto (-33), 3) := by decide +kernel
theorem dX10_sought_43 : decode cX10_sought 43 = .ok (.iload_n 1, 1) := by decide +kernel
theorem dX10_sought_44 : decode cX10_sought 44 = .ok (.ireturn, 1) := by decide +kernel
theorem dX10_numberOf_0 : decode cX10_numberOf 0 = .ok (.aload_n 0, 1) := by decide +kernel
theorem dX10_numberOf_1 : decode cX10_numberOf 1 = .ok (.invokevirtual 238, 3) := by decide +kernel
theorem dX10_numberOf_4 : decode cX10_numberOf 4 = .ok (.istore_n 1, 1) := by decide +kernel
theorem dX10_numberOf_5 : decode cX10_numberOf 5 = .ok (.iload_n 1, 1) := by decide +kernel
theorem dX10_numberOf_6 : decode cX10_numberOf 6 = .ok (.aload_n 0, 1) := by decide +kernel
theorem dX10_numberOf_7 : decode cX10_numberOf 7 = .ok (.getfield 124, 3) := by decide +kernel
theorem dX10_numberOf_10 : decode cX10_numberOf 10 = .ok (.if_icmp .ge 25, 3) := by decide +kernel
theorem dX10_numberOf_13 : decode cX10_numberOf 13 = .ok (.aload_n 0, 1) := by decide +kernel
theorem dX10_numberOf_14 : decode cX10_numberOf 14 = .ok (.aload_n 0, 1) := by decide +kernel
theorem dX10_numberOf_15 : decode cX10_numberOf 15 = .ok (.getfield 66, 3) := by decide +kernel
theorem dX10_numberOf_18 : decode cX10_numberOf 18 = .ok (.iload_n 1, 1) := by decide +kernel
theorem dX10_numberOf_19 : decode cX10_numberOf 19 = .ok (.iaload, 1) := by decide +kernel
theorem dX10_numberOf_20 : decode cX10_numberOf 20 = .ok (.invokevirtual 234, 3) := by decide +kernel
theorem dX10_numberOf_23 : decode cX10_numberOf 23 = .ok (.ifCond .ne 12, 3) := by decide +kernel
theorem dX10_numberOf_26 : decode cX10_numberOf 26 = .ok (.aload_n 0, 1) := by decide +kernel
theorem dX10_numberOf_27 : decode cX10_numberOf 27 = .ok (.getfield 66, 3) := by decide +kernel
theorem dX10_numberOf_30 : decode cX10_numberOf 30 = .ok (.iload_n 1, 1) := by decide +kernel
theorem dX10_numberOf_31 : decode cX10_numberOf 31 = .ok (.iaload, 1) := by decide +kernel
theorem dX10_numberOf_32 : decode cX10_numberOf 32 = .ok (.goto 5, 3) := by decide +kernel
theorem dX10_numberOf_35 : decode cX10_numberOf 35 = .ok (.ldc 85, 2) := by decide +kernel
theorem dX10_numberOf_37 : decode cX10_numberOf 37 = .ok (.ireturn, 1) := by decide +kernel
theorem dX10_addMarking_0 : decode cX10_addMarking 0 = .ok (.aload_n 0, 1) := by decide +kernel
theorem dX10_addMarking_1 : decode cX10_addMarking 1 = .ok (.invokevirtual 238, 3) := by decide +kernel
theorem dX10_addMarking_4 : decode cX10_addMarking 4 = .ok (.istore_n 3, 1) := by decide +kernel
theorem dX10_addMarking_5 : decode cX10_addMarking 5 = .ok (.aload_n 0, 1) := by decide +kernel
theorem dX10_addMarking_6 : decode cX10_addMarking 6 = .ok (.getfield 124, 3) := by decide +kernel
theorem dX10_addMarking_9 : decode cX10_addMarking 9 = .ok (.istore 4, 2) := by decide +kernel
theorem dX10_addMarking_11 : decode cX10_addMarking 11 = .ok (.iload 4, 2) := by decide +kernel
theorem dX10_addMarking_13 : decode cX10_addMarking 13 = .ok (.iload_n 3, 1) := by decide +kernel
theorem dX10_addMarking_14 : decode cX10_addMarking 14 = .ok (.if_icmp .le 25, 3) := by decide +kernel
theorem dX10_addMarking_17 : decode cX10_addMarking 17 = .ok (.aload_n 0, 1) := by decide +kernel
theorem dX10_addMarking_18 : decode cX10_addMarking 18 = .ok (.getfield 66, 3) := by decide +kernel
theorem dX10_addMarking_21 : decode cX10_addMarking 21 = .ok (.iload 4, 2) := by decide +kernel
theorem dX10_addMarking_23 : decode cX10_addMarking 23 = .ok (.aload_n 0, 1) := by decide +kernel
theorem dX10_addMarking_24 : decode cX10_addMarking 24 = .ok (.getfield 66, 3) := by decide +kernel
theorem dX10_addMarking_27 : decode cX10_addMarking 27 = .ok (.iload 4, 2) := by decide +kernel
theorem dX10_addMarking_29 : decode cX10_addMarking 29 = .ok (.iconst 1, 1) := by decide +kernel
theorem dX10_addMarking_30 : decode cX10_addMarking 30 = .ok (.isub, 1) := by decide +kernel
theorem dX10_addMarking_31 : decode cX10_addMarking 31 = .ok (.iaload, 1) := by decide +kernel
theorem dX10_addMarking_32 : decode cX10_addMarking 32 = .ok (.iastore, 1) := by decide +kernel
theorem dX10_addMarking_33 : decode cX10_addMarking 33 = .ok (.iinc 4 (-1), 3) := by decide +kernel
theorem dX10_addMarking_36 : decode cX10_addMarking 36 = .ok (.goto (-25), 3) := by decide +kernel
theorem dX10_addMarking_39 : decode cX10_addMarking 39 = .ok (.aload_n 0, 1) := by decide +kernel
theorem dX10_addMarking_40 : decode cX10_addMarking 40 = .ok (.getfield 66, 3) := by decide +kernel
theorem dX10_addMarking_43 : decode cX10_addMarking 43 = .ok (.iload_n 3, 1) := by decide +kernel
theorem dX10_addMarking_44 : decode cX10_addMarking 44 = .ok (.aload_n 0, 1) := by decide +kernel
theorem dX10_addMarking_45 : decode cX10_addMarking 45 = .ok (.getfield 124, 3) := by decide +kernel
theorem dX10_addMarking_48 : decode cX10_addMarking 48 = .ok (.iastore, 1) := by decide +kernel
theorem dX10_addMarking_49 : decode cX10_addMarking 49 = .ok (.iconst 0, 1) := by decide +kernel
theorem dX10_addMarking_50 : decode cX10_addMarking 50 = .ok (.istore 4, 2) := by decide +kernel
theorem dX10_addMarking_52 : decode cX10_addMarking 52 = .ok (.iload 4, 2) := by decide +kernel
theorem dX10_addMarking_54 : decode cX10_addMarking 54 = .ok (.aload_n 0, 1) := by decide +kernel
theorem dX10_addMarking_55 : decode cX10_addMarking 55 = .ok (.getfield 127, 3) := by decide +kernel
theorem dX10_addMarking_58 : decode cX10_addMarking 58 = .ok (.if_icmp .ge 31, 3) := by decide +kernel
theorem dX10_addMarking_61 : decode cX10_addMarking 61 = .ok (.aload_n 0, 1) := by decide +kernel
theorem dX10_addMarking_62 : decode cX10_addMarking 62 = .ok (.getfield 63, 3) := by decide +kernel
theorem dX10_addMarking_65 : decode cX10_addMarking 65 = .ok (.bipush 16, 2) := by decide +kernel
theorem dX10_addMarking_67 : decode cX10_addMarking 67 = .ok (.aload_n 0, 1) := by decide +kernel
theorem dX10_addMarking_68 : decode cX10_addMarking 68 = .ok (.getfield 124, 3) := by decide +kernel
theorem dX10_addMarking_71 : decode cX10_addMarking 71 = .ok (.imul, 1) := by decide +kernel
theorem dX10_addMarking_72 : decode cX10_addMarking 72 = .ok (.iload 4, 2) := by decide +kernel
theorem dX10_addMarking_74 : decode cX10_addMarking 74 = .ok (.iadd, 1) := by decide +kernel
theorem dX10_addMarking_75 : decode cX10_addMarking 75 = .ok (.aload_n 0, 1) := by decide +kernel
theorem dX10_addMarking_76 : decode cX10_addMarking 76 = .ok (.getfield 78, 3) := by decide +kernel
theorem dX10_addMarking_79 : decode cX10_addMarking 79 = .ok (.iload 4, 2) := by decide +kernel
theorem dX10_addMarking_81 : decode cX10_addMarking 81 = .ok (.iaload, 1) := by decide +kernel
theorem dX10_addMarking_82 : decode cX10_addMarking 82 = .ok (.iastore, 1) := by decide +kernel
theorem dX10_addMarking_83 : decode cX10_addMarking 83 = .ok (.iinc 4 1, 3) := by decide +kernel
theorem dX10_addMarking_86 : decode cX10_addMarking 86 = .ok (.goto (-34), 3) := by decide +kernel
theorem dX10_addMarking_89 : decode cX10_addMarking 89 = .ok (.aload_n 0, 1) := by decide +kernel
theorem dX10_addMarking_90 : decode cX10_addMarking 90 = .ok (.getfield 69, 3) := by decide +kernel
theorem dX10_addMarking_93 : decode cX10_addMarking 93 = .ok (.aload_n 0, 1) := by decide +kernel
theorem dX10_addMarking_94 : decode cX10_addMarking 94 = .ok (.getfield 124, 3) := by decide +kernel
theorem dX10_addMarking_97 : decode cX10_addMarking 97 = .ok (.iload_n 1, 1) := by decide +kernel
theorem dX10_addMarking_98 : decode cX10_addMarking 98 = .ok (.iastore, 1) := by decide +kernel
theorem dX10_addMarking_99 : decode cX10_addMarking 99 = .ok (.aload_n 0, 1) := by decide +kernel
theorem dX10_addMarking_100 : decode cX10_addMarking 100 = .ok (.getfield 72, 3) := by decide +kernel
theorem dX10_addMarking_103 : decode cX10_addMarking 103 = .ok (.aload_n 0, 1) := by decide +kernel
theorem dX10_addMarking_104 : decode cX10_addMarking 104 = .ok (.getfield 124, 3) := by decide +kernel
theorem dX10_addMarking_107 : decode cX10_addMarking 107 = .ok (.iload_n 2, 1) := by decide +kernel
theorem dX10_addMarking_108 : decode cX10_addMarking 108 = .ok (.iastore, 1) := by decide +kernel
theorem dX10_addMarking_109 : decode cX10_addMarking 109 = .ok (.aload_n 0, 1) := by decide +kernel
theorem dX10_addMarking_110 : decode cX10_addMarking 110 = .ok (.dup, 1) := by decide +kernel
theorem dX10_addMarking_111 : decode cX10_addMarking 111 = .ok (.getfield 124, 3) := by decide +kernel
theorem dX10_addMarking_114 : decode cX10_addMarking 114 = .ok (.iconst 1, 1) := by decide +kernel
theorem dX10_addMarking_115 : decode cX10_addMarking 115 = .ok (.iadd, 1) := by decide +kernel
theorem dX10_addMarking_116 : decode cX10_addMarking 116 = .ok (.putfield 124, 3) := by decide +kernel
theorem dX10_addMarking_119 : decode cX10_addMarking 119 = .ok (.return_, 1) := by decide +kernel
theorem dX10_expand_0 : decode cX10_expand 0 = .ok (.iconst 0, 1) := by decide +kernel
theorem dX10_expand_1 : decode cX10_expand 1 = .ok (.istore_n 3, 1) := by decide +kernel
theorem dX10_expand_2 : decode cX10_expand 2 = .ok (.iload_n 3, 1) := by decide +kernel
theorem dX10_expand_3 : decode cX10_expand 3 = .ok (.aload_n 0, 1) := by decide +kernel
theorem dX10_expand_4 : decode cX10_expand 4 = .ok (.getfield 130, 3) := by decide +kernel
theorem dX10_expand_7 : decode cX10_expand 7 = .ok (.if_icmp .ge 141, 3) := by decide +kernel
theorem dX10_expand_10 : decode cX10_expand 10 = .ok (.aload_n 0, 1) := by decide +kernel
theorem dX10_expand_11 : decode cX10_expand 11 = .ok (.getfield 75, 3) := by decide +kernel
theorem dX10_expand_14 : decode cX10_expand 14 = .ok (.bipush 16, 2) := by decide +kernel
theorem dX10_expand_16 : decode cX10_expand 16 = .ok (.iload_n 1, 1) := by decide +kernel
theorem dX10_expand_17 : decode cX10_expand 17 = .ok (.imul, 1) := by decide +kernel
theorem dX10_expand_18 : decode cX10_expand 18 = .ok (.iload_n 3, 1) := by decide +kernel
theorem dX10_expand_19 : decode cX10_expand 19 = .ok (.iadd, 1) := by decide +kernel
theorem dX10_expand_20 : decode cX10_expand 20 = .ok (.ldc 85, 2) := by decide +kernel
theorem dX10_expand_22 : decode cX10_expand 22 = .ok (.iastore, 1) := by decide +kernel
theorem dX10_expand_23 : decode cX10_expand 23 = .ok (.aload_n 0, 1) := by decide +kernel
theorem dX10_expand_24 : decode cX10_expand 24 = .ok (.iload_n 3, 1) := by decide +kernel
theorem dX10_expand_25 : decode cX10_expand 25 = .ok (.aload_n 0, 1) := by decide +kernel
theorem dX10_expand_26 : decode cX10_expand 26 = .ok (.getfield 63, 3) := by decide +kernel
theorem dX10_expand_29 : decode cX10_expand 29 = .ok (.bipush 16, 2) := by decide +kernel
theorem dX10_expand_31 : decode cX10_expand 31 = .ok (.iload_n 1, 1) := by decide +kernel
theorem dX10_expand_32 : decode cX10_expand 32 = .ok (.imul, 1) := by decide +kernel
theorem dX10_expand_33 : decode cX10_expand 33 = .ok (.invokevirtual 231, 3) := by decide +kernel
theorem dX10_expand_36 : decode cX10_expand 36 = .ok (.ifCond .eq 106, 3) := by decide +kernel
theorem dX10_expand_39 : decode cX10_expand 39 = .ok (.iconst 0, 1) := by decide +kernel
theorem dX10_expand_40 : decode cX10_expand 40 = .ok (.istore 4, 2) := by decide +kernel
theorem dX10_expand_42 : decode cX10_expand 42 = .ok (.iload 4, 2) := by decide +kernel
theorem dX10_expand_44 : decode cX10_expand 44 = .ok (.aload_n 0, 1) := by decide +kernel
theorem dX10_expand_45 : decode cX10_expand 45 = .ok (.getfield 127, 3) := by decide +kernel
theorem dX10_expand_48 : decode cX10_expand 48 = .ok (.if_icmp .ge 54, 3) := by decide +kernel
theorem dX10_expand_51 : decode cX10_expand 51 = .ok (.aload_n 0, 1) := by decide +kernel
theorem dX10_expand_52 : decode cX10_expand 52 = .ok (.getfield 78, 3) := by decide +kernel
theorem dX10_expand_55 : decode cX10_expand 55 = .ok (.iload 4, 2) := by decide +kernel
theorem dX10_expand_57 : decode cX10_expand 57 = .ok (.aload_n 0, 1) := by decide +kernel
theorem dX10_expand_58 : decode cX10_expand 58 = .ok (.getfield 63, 3) := by decide +kernel
theorem dX10_expand_61 : decode cX10_expand 61 = .ok (.bipush 16, 2) := by decide +kernel
theorem dX10_expand_63 : decode cX10_expand 63 = .ok (.iload_n 1, 1) := by decide +kernel
theorem dX10_expand_64 : decode cX10_expand 64 = .ok (.imul, 1) := by decide +kernel
theorem dX10_expand_65 : decode cX10_expand 65 = .ok (.iload 4, 2) := by decide +kernel
theorem dX10_expand_67 : decode cX10_expand 67 = .ok (.iadd, 1) := by decide +kernel
theorem dX10_expand_68 : decode cX10_expand 68 = .ok (.iaload, 1) := by decide +kernel
theorem dX10_expand_69 : decode cX10_expand 69 = .ok (.aload_n 0, 1) := by decide +kernel
theorem dX10_expand_70 : decode cX10_expand 70 = .ok (.getfield 19, 3) := by decide +kernel
theorem dX10_expand_73 : decode cX10_expand 73 = .ok (.bipush 16, 2) := by decide +kernel
theorem dX10_expand_75 : decode cX10_expand 75 = .ok (.iload_n 3, 1) := by decide +kernel
theorem dX10_expand_76 : decode cX10_expand 76 = .ok (.imul, 1) := by decide +kernel
theorem dX10_expand_77 : decode cX10_expand 77 = .ok (.iload 4, 2) := by decide +kernel
theorem dX10_expand_79 : decode cX10_expand 79 = .ok (.iadd, 1) := by decide +kernel
theorem dX10_expand_80 : decode cX10_expand 80 = .ok (.iaload, 1) := by decide +kernel
theorem dX10_expand_81 : decode cX10_expand 81 = .ok (.iadd, 1) := by decide +kernel
theorem dX10_expand_82 : decode cX10_expand 82 = .ok (.aload_n 0, 1) := by decide +kernel
theorem dX10_expand_83 : decode cX10_expand 83 = .ok (.getfield 16, 3) := by decide +kernel
theorem dX10_expand_86 : decode cX10_expand 86 = .ok (.bipush 16, 2) := by decide +kernel
theorem dX10_expand_88 : decode cX10_expand 88 = .ok (.iload_n 3, 1) := by decide +kernel
theorem dX10_expand_89 : decode cX10_expand 89 = .ok (.imul, 1) := by decide +kernel
theorem dX10_expand_90 : decode cX10_expand 90 = .ok (.iload 4, 2) := by decide +kernel
theorem dX10_expand_92 : decode cX10_expand 92 = .ok (.iadd, 1) := by decide +kernel
theorem dX10_expand_93 : decode cX10_expand 93 = .ok (.iaload, 1) := by decide +kernel
theorem dX10_expand_94 : decode cX10_expand 94 = .ok (.isub, 1) := by decide +kernel
theorem dX10_expand_95 : decode cX10_expand 95 = .ok (.iastore, 1) := by decide +kernel
theorem dX10_expand_96 : decode cX10_expand 96 = .ok (.iinc 4 1, 3) := by decide +kernel
theorem dX10_expand_99 : decode cX10_expand 99 = .ok (.goto (-57), 3) := by decide +kernel
theorem dX10_expand_102 : decode cX10_expand 102 = .ok (.aload_n 0, 1) := by decide +kernel
theorem dX10_expand_103 : decode cX10_expand 103 = .ok (.invokevirtual 242, 3) := by decide +kernel
theorem dX10_expand_106 : decode cX10_expand 106 = .ok (.ldc 85, 2) := by decide +kernel
theorem dX10_expand_108 : decode cX10_expand 108 = .ok (.if_icmp .ne 19, 3) := by decide +kernel
theorem dX10_expand_111 : decode cX10_expand 111 = .ok (.aload_n 0, 1) := by decide +kernel
theorem dX10_expand_112 : decode cX10_expand 112 = .ok (.getfield 124, 3) := by decide +kernel
theorem dX10_expand_115 : decode cX10_expand 115 = .ok (.iload_n 2, 1) := by decide +kernel
theorem dX10_expand_116 : decode cX10_expand 116 = .ok (.if_icmp .ne 5, 3) := by decide +kernel
theorem dX10_expand_119 : decode cX10_expand 119 = .ok (.iconst 0, 1) := by decide +kernel
theorem dX10_expand_120 : decode cX10_expand 120 = .ok (.ireturn, 1) := by decide +kernel
theorem dX10_expand_121 : decode cX10_expand 121 = .ok (.aload_n 0, 1) := by decide +kernel
theorem dX10_expand_122 : decode cX10_expand 122 = .ok (.iload_n 1, 1) := by decide +kernel
theorem dX10_expand_123 : decode cX10_expand 123 = .ok (.iload_n 3, 1) := by decide +kernel
theorem dX10_expand_124 : decode cX10_expand 124 = .ok (.invokevirtual 245, 3) := by decide +kernel
theorem dX10_expand_127 : decode cX10_expand 127 = .ok (.aload_n 0, 1) := by decide +kernel
theorem dX10_expand_128 : decode cX10_expand 128 = .ok (.getfield 75, 3) := by decide +kernel
theorem dX10_expand_131 : decode cX10_expand 131 = .ok (.bipush 16, 2) := by decide +kernel
theorem dX10_expand_133 : decode cX10_expand 133 = .ok (.iload_n 1, 1) := by decide +kernel
theorem dX10_expand_134 : decode cX10_expand 134 = .ok (.imul, 1) := by decide +kernel
theorem dX10_expand_135 : decode cX10_expand 135 = .ok (.iload_n 3, 1) := by decide +kernel
theorem dX10_expand_136 : decode cX10_expand 136 = .ok (.iadd, 1) := by decide +kernel
theorem dX10_expand_137 : decode cX10_expand 137 = .ok (.aload_n 0, 1) := by decide +kernel
theorem dX10_expand_138 : decode cX10_expand 138 = .ok (.invokevirtual 242, 3) := by decide +kernel
theorem dX10_expand_141 : decode cX10_expand 141 = .ok (.iastore, 1) := by decide +kernel
theorem dX10_expand_142 : decode cX10_expand 142 = .ok (.iinc 3 1, 3) := by decide +kernel
theorem dX10_expand_145 : decode cX10_expand 145 = .ok (.goto (-143), 3) := by decide +kernel
theorem dX10_expand_148 : decode cX10_expand 148 = .ok (.iconst 1, 1) := by decide +kernel
theorem dX10_expand_149 : decode cX10_expand 149 = .ok (.ireturn, 1) := by decide +kernel
theorem dX10_makeField_0 : decode cX10_makeField 0 = .ok (.aload_n 0, 1) := by decide +kernel
theorem dX10_makeField_1 : decode cX10_makeField 1 = .ok (.iconst 0, 1) := by decide +kernel
theorem dX10_makeField_2 : decode cX10_makeField 2 = .ok (.putfield 124, 3) := by decide +kernel
theorem dX10_makeField_5 : decode cX10_makeField 5 = .ok (.aload_n 0, 1) := by decide +kernel
theorem dX10_makeField_6 : decode cX10_makeField 6 = .ok (.ldc 85, 2) := by decide +kernel
theorem dX10_makeField_8 : decode cX10_makeField 8 = .ok (.ldc 85, 2) := by decide +kernel
theorem dX10_makeField_10 : decode cX10_makeField 10 = .ok (.invokevirtual 245, 3) := by decide +kernel
theorem dX10_makeField_13 : decode cX10_makeField 13 = .ok (.aload_n 0, 1) := by decide +kernel
theorem dX10_makeField_14 : decode cX10_makeField 14 = .ok (.iconst 1, 1) := by decide +kernel
theorem dX10_makeField_15 : decode cX10_makeField 15 = .ok (.putfield 133, 3) := by decide +kernel
theorem dX10_makeField_18 : decode cX10_makeField 18 = .ok (.iconst 0, 1) := by decide +kernel
theorem dX10_makeField_19 : decode cX10_makeField 19 = .ok (.istore_n 2, 1) := by decide +kernel
theorem dX10_makeField_20 : decode cX10_makeField 20 = .ok (.iload_n 2, 1) := by decide +kernel
theorem dX10_makeField_21 : decode cX10_makeField 21 = .ok (.aload_n 0, 1) := by decide +kernel
theorem dX10_makeField_22 : decode cX10_makeField 22 = .ok (.getfield 124, 3) := by decide +kernel
theorem dX10_makeField_25 : decode cX10_makeField 25 = .ok (.if_icmp .ge 31, 3) := by decide +kernel
theorem dX10_makeField_28 : decode cX10_makeField 28 = .ok (.aload_n 0, 1) := by decide +kernel
theorem dX10_makeField_29 : decode cX10_makeField 29 = .ok (.iload_n 2, 1) := by decide +kernel
theorem dX10_makeField_30 : decode cX10_makeField 30 = .ok (.iload_n 1, 1) := by decide +kernel
theorem dX10_makeField_31 : decode cX10_makeField 31 = .ok (.invokevirtual 248, 3) := by decide +kernel
theorem dX10_makeField_34 : decode cX10_makeField 34 = .ok (.ifCond .ne 16, 3) := by decide +kernel
theorem dX10_makeField_37 : decode cX10_makeField 37 = .ok (.aload_n 0, 1) := by decide +kernel
theorem dX10_makeField_38 : decode cX10_makeField 38 = .ok (.iconst 0, 1) := by decide +kernel
theorem dX10_makeField_39 : decode cX10_makeField 39 = .ok (.putfield 133, 3) := by decide +kernel
theorem dX10_makeField_42 : decode cX10_makeField 42 = .ok (.aload_n 0, 1) := by decide +kernel
theorem dX10_makeField_43 : decode cX10_makeField 43 = .ok (.iconst 0, 1) := by decide +kernel
theorem dX10_makeField_44 : decode cX10_makeField 44 = .ok (.putfield 124, 3) := by decide +kernel
theorem dX10_makeField_47 : decode cX10_makeField 47 = .ok (.ldc 251, 2) := by decide +kernel
theorem dX10_makeField_49 : decode cX10_makeField 49 = .ok (.ireturn, 1) := by decide +kernel
theorem dX10_makeField_50 : decode cX10_makeField 50 = .ok (.iinc 2 1, 3) := by decide +kernel
theorem dX10_makeField_53 : decode cX10_makeField 53 = .ok (.goto (-33), 3) := by decide +kernel
theorem dX10_makeField_56 : decode cX10_makeField 56 = .ok (.aload_n 0, 1) := by decide +kernel
theorem dX10_makeField_57 : decode cX10_makeField 57 = .ok (.getfield 124, 3) := by decide +kernel
theorem dX10_makeField_60 : decode cX10_makeField 60 = .ok (.ireturn, 1) := by decide +kernel
theorem dX10_field_0 : decode cX10_field 0 = .ok (.iload_n 1, 1) := by decide +kernel
theorem dX10_field_1 : decode cX10_field 1 = .ok (.iconst 1, 1) := by decide +kernel
theorem dX10_field_2 : decode cX10_field 2 = .ok (.sipush 8000, 3) := by decide +kernel
theorem dX10_field_5 : decode cX10_field 5 = .ok (.invokestatic 155, 3) := by decide +kernel
theorem dX10_field_8 : decode cX10_field 8 = .ok (.ifCond .ne 6, 3) := by decide +kernel
theorem dX10_field_11 : decode cX10_field 11 = .ok (.ldc 159, 2) := by decide +kernel
theorem dX10_field_13 : decode cX10_field 13 = .ok (.ireturn, 1) := by decide +kernel
theorem dX10_field_14 : decode cX10_field 14 = .ok (.aload_n 0, 1) := by decide +kernel
theorem dX10_field_15 : decode cX10_field 15 = .ok (.invokevirtual 228, 3) := by decide +kernel
theorem dX10_field_18 : decode cX10_field 18 = .ok (.ifCond .eq 6, 3) := by decide +kernel
theorem dX10_field_21 : decode cX10_field 21 = .ok (.ldc 171, 2) := by decide +kernel
theorem dX10_field_23 : decode cX10_field 23 = .ok (.ireturn, 1) := by decide +kernel
theorem dX10_field_24 : decode cX10_field 24 = .ok (.iconst 0, 1) := by decide +kernel
theorem dX10_field_25 : decode cX10_field 25 = .ok (.istore_n 2, 1) := by decide +kernel
theorem dX10_field_26 : decode cX10_field 26 = .ok (.iload_n 2, 1) := by decide +kernel
theorem dX10_field_27 : decode cX10_field 27 = .ok (.aload_n 0, 1) := by decide +kernel
theorem dX10_field_28 : decode cX10_field 28 = .ok (.getfield 127, 3) := by decide +kernel
theorem dX10_field_31 : decode cX10_field 31 = .ok (.if_icmp .ge 21, 3) := by decide +kernel
theorem dX10_field_34 : decode cX10_field 34 = .ok (.aload_n 0, 1) := by decide +kernel
theorem dX10_field_35 : decode cX10_field 35 = .ok (.getfield 78, 3) := by decide +kernel
theorem dX10_field_38 : decode cX10_field 38 = .ok (.iload_n 2, 1) := by decide +kernel
theorem dX10_field_39 : decode cX10_field 39 = .ok (.aload_n 0, 1) := by decide +kernel
theorem dX10_field_40 : decode cX10_field 40 = .ok (.getfield 34, 3) := by decide +kernel
theorem dX10_field_43 : decode cX10_field 43 = .ok (.iload_n 2, 1) := by decide +kernel
theorem dX10_field_44 : decode cX10_field 44 = .ok (.iaload, 1) := by decide +kernel
theorem dX10_field_45 : decode cX10_field 45 = .ok (.iastore, 1) := by decide +kernel
theorem dX10_field_46 : decode cX10_field 46 = .ok (.iinc 2 1, 3) := by decide +kernel
theorem dX10_field_49 : decode cX10_field 49 = .ok (.goto (-23), 3) := by decide +kernel
theorem dX10_field_52 : decode cX10_field 52 = .ok (.aload_n 0, 1) := by decide +kernel
theorem dX10_field_53 : decode cX10_field 53 = .ok (.iload_n 1, 1) := by decide +kernel
theorem dX10_field_54 : decode cX10_field 54 = .ok (.invokevirtual 252, 3) := by decide +kernel
theorem dX10_field_57 : decode cX10_field 57 = .ok (.ireturn, 1) := by decide +kernel
theorem dX10_askField_0 : decode cX10_askField 0 = .ok (.aload_n 0, 1) := by decide +kernel
theorem dX10_askField_1 : decode cX10_askField 1 = .ok (.getfield 133, 3) := by decide +kernel
theorem dX10_askField_4 : decode cX10_askField 4 = .ok (.ifCond .ne 8, 3) := by decide +kernel
theorem dX10_askField_7 : decode cX10_askField 7 = .ok (.ldc 171, 2) := by decide +kernel
theorem dX10_askField_9 : decode cX10_askField 9 = .ok (.goto 23, 3) := by decide +kernel
theorem dX10_askField_12 : decode cX10_askField 12 = .ok (.iload_n 1, 1) := by decide +kernel
theorem dX10_askField_13 : decode cX10_askField 13 = .ok (.iconst 0, 1) := by decide +kernel
theorem dX10_askField_14 : decode cX10_askField 14 = .ok (.aload_n 0, 1) := by decide +kernel
theorem dX10_askField_15 : decode cX10_askField 15 = .ok (.getfield 124, 3) := by decide +kernel
theorem dX10_askField_18 : decode cX10_askField 18 = .ok (.iconst 1, 1) := by decide +kernel
theorem dX10_askField_19 : decode cX10_askField 19 = .ok (.isub, 1) := by decide +kernel
theorem dX10_askField_20 : decode cX10_askField 20 = .ok (.invokestatic 155, 3) := by decide +kernel
theorem dX10_askField_23 : decode cX10_askField 23 = .ok (.ifCond .eq 7, 3) := by decide +kernel
theorem dX10_askField_26 : decode cX10_askField 26 = .ok (.iconst 0, 1) := by decide +kernel
theorem dX10_askField_27 : decode cX10_askField 27 = .ok (.goto 5, 3) := by decide +kernel
theorem dX10_askField_30 : decode cX10_askField 30 = .ok (.ldc 159, 2) := by decide +kernel
theorem dX10_askField_32 : decode cX10_askField 32 = .ok (.ireturn, 1) := by decide +kernel
theorem dX10_marking_0 : decode cX10_marking 0 = .ok (.aload_n 0, 1) := by decide +kernel
theorem dX10_marking_1 : decode cX10_marking 1 = .ok (.iload_n 2, 1) := by decide +kernel
theorem dX10_marking_2 : decode cX10_marking 2 = .ok (.invokevirtual 168, 3) := by decide +kernel
theorem dX10_marking_5 : decode cX10_marking 5 = .ok (.ifCond .ne 6, 3) := by decide +kernel
theorem dX10_marking_8 : decode cX10_marking 8 = .ok (.ldc 159, 2) := by decide +kernel
theorem dX10_marking_10 : decode cX10_marking 10 = .ok (.ireturn, 1) := by decide +kernel
theorem dX10_marking_11 : decode cX10_marking 11 = .ok (.aload_n 0, 1) := by decide +kernel
theorem dX10_marking_12 : decode cX10_marking 12 = .ok (.iload_n 1, 1) := by decide +kernel
theorem dX10_marking_13 : decode cX10_marking 13 = .ok (.invokevirtual 255, 3) := by decide +kernel
theorem dX10_marking_16 : decode cX10_marking 16 = .ok (.istore_n 3, 1) := by decide +kernel
theorem dX10_marking_17 : decode cX10_marking 17 = .ok (.iload_n 3, 1) := by decide +kernel
theorem dX10_marking_18 : decode cX10_marking 18 = .ok (.ifCond .ge 7, 3) := by decide +kernel
theorem dX10_marking_21 : decode cX10_marking 21 = .ok (.iload_n 3, 1) := by decide +kernel
theorem dX10_marking_22 : decode cX10_marking 22 = .ok (.goto 14, 3) := by decide +kernel
theorem dX10_marking_25 : decode cX10_marking 25 = .ok (.aload_n 0, 1) := by decide +kernel
theorem dX10_marking_26 : decode cX10_marking 26 = .ok (.getfield 63, 3) := by decide +kernel
theorem dX10_marking_29 : decode cX10_marking 29 = .ok (.bipush 16, 2) := by decide +kernel
theorem dX10_marking_31 : decode cX10_marking 31 = .ok (.iload_n 1, 1) := by decide +kernel
theorem dX10_marking_32 : decode cX10_marking 32 = .ok (.imul, 1) := by decide +kernel
theorem dX10_marking_33 : decode cX10_marking 33 = .ok (.iload_n 2, 1) := by decide +kernel
theorem dX10_marking_34 : decode cX10_marking 34 = .ok (.iadd, 1) := by decide +kernel
theorem dX10_marking_35 : decode cX10_marking 35 = .ok (.iaload, 1) := by decide +kernel
theorem dX10_marking_36 : decode cX10_marking 36 = .ok (.ireturn, 1) := by decide +kernel
theorem dX10_next_0 : decode cX10_next 0 = .ok (.aload_n 0, 1) := by decide +kernel
theorem dX10_next_1 : decode cX10_next 1 = .ok (.iload_n 2, 1) := by decide +kernel
theorem dX10_next_2 : decode cX10_next 2 = .ok (.invokevirtual 164, 3) := by decide +kernel
theorem dX10_next_5 : decode cX10_next 5 = .ok (.ifCond .ne 6, 3) := by decide +kernel
theorem dX10_next_8 : decode cX10_next 8 = .ok (.ldc 159, 2) := by decide +kernel
theorem dX10_next_10 : decode cX10_next 10 = .ok (.ireturn, 1) := by decide +kernel
theorem dX10_next_11 : decode cX10_next 11 = .ok (.aload_n 0, 1) := by decide +kernel
theorem dX10_next_12 : decode cX10_next 12 = .ok (.iload_n 1, 1) := by decide +kernel
theorem dX10_next_13 : decode cX10_next 13 = .ok (.invokevirtual 255, 3) := by decide +kernel
theorem dX10_next_16 : decode cX10_next 16 = .ok (.istore_n 3, 1) := by decide +kernel
theorem dX10_next_17 : decode cX10_next 17 = .ok (.iload_n 3, 1) := by decide +kernel
theorem dX10_next_18 : decode cX10_next 18 = .ok (.ifCond .ge 7, 3) := by decide +kernel
theorem dX10_next_21 : decode cX10_next 21 = .ok (.iload_n 3, 1) := by decide +kernel
theorem dX10_next_22 : decode cX10_next 22 = .ok (.goto 14, 3) := by decide +kernel
theorem dX10_next_25 : decode cX10_next 25 = .ok (.aload_n 0, 1) := by decide +kernel
theorem dX10_next_26 : decode cX10_next 26 = .ok (.getfield 75, 3) := by decide +kernel
theorem dX10_next_29 : decode cX10_next 29 = .ok (.bipush 16, 2) := by decide +kernel
theorem dX10_next_31 : decode cX10_next 31 = .ok (.iload_n 1, 1) := by decide +kernel
theorem dX10_next_32 : decode cX10_next 32 = .ok (.imul, 1) := by decide +kernel
theorem dX10_next_33 : decode cX10_next 33 = .ok (.iload_n 2, 1) := by decide +kernel
theorem dX10_next_34 : decode cX10_next 34 = .ok (.iadd, 1) := by decide +kernel
theorem dX10_next_35 : decode cX10_next 35 = .ok (.iaload, 1) := by decide +kernel
theorem dX10_next_36 : decode cX10_next 36 = .ok (.ireturn, 1) := by decide +kernel
theorem dX10_way_0 : decode cX10_way 0 = .ok (.aload_n 0, 1) := by decide +kernel
theorem dX10_way_1 : decode cX10_way 1 = .ok (.iload_n 1, 1) := by decide +kernel
theorem dX10_way_2 : decode cX10_way 2 = .ok (.invokevirtual 255, 3) := by decide +kernel
theorem dX10_way_5 : decode cX10_way 5 = .ok (.istore_n 2, 1) := by decide +kernel
theorem dX10_way_6 : decode cX10_way 6 = .ok (.iload_n 2, 1) := by decide +kernel
theorem dX10_way_7 : decode cX10_way 7 = .ok (.ifCond .ge 5, 3) := by decide +kernel
theorem dX10_way_10 : decode cX10_way 10 = .ok (.iload_n 2, 1) := by decide +kernel
theorem dX10_way_11 : decode cX10_way 11 = .ok (.ireturn, 1) := by decide +kernel
theorem dX10_way_12 : decode cX10_way 12 = .ok (.iconst 0, 1) := by decide +kernel
theorem dX10_way_13 : decode cX10_way 13 = .ok (.istore_n 3, 1) := by decide +kernel
theorem dX10_way_14 : decode cX10_way 14 = .ok (.iload_n 1, 1) := by decide +kernel
theorem dX10_way_15 : decode cX10_way 15 = .ok (.istore 4, 2) := by decide +kernel
theorem dX10_way_17 : decode cX10_way 17 = .ok (.iload 4, 2) := by decide +kernel
theorem dX10_way_19 : decode cX10_way 19 = .ok (.ifCond .eq 18, 3) := by decide +kernel
theorem dX10_way_22 : decode cX10_way 22 = .ok (.iinc 3 1, 3) := by decide +kernel
theorem dX10_way_25 : decode cX10_way 25 = .ok (.aload_n 0, 1) := by decide +kernel
theorem dX10_way_26 : decode cX10_way 26 = .ok (.getfield 69, 3) := by decide +kernel
theorem dX10_way_29 : decode cX10_way 29 = .ok (.iload 4, 2) := by decide +kernel
theorem dX10_way_31 : decode cX10_way 31 = .ok (.iaload, 1) := by decide +kernel
theorem dX10_way_32 : decode cX10_way 32 = .ok (.istore 4, 2) := by decide +kernel
theorem dX10_way_34 : decode cX10_way 34 = .ok (.goto (-17), 3) := by decide +kernel
theorem dX10_way_37 : decode cX10_way 37 = .ok (.aload_n 0, 1) := by decide +kernel
theorem dX10_way_38 : decode cX10_way 38 = .ok (.iload_n 3, 1) := by decide +kernel
theorem dX10_way_39 : decode cX10_way 39 = .ok (.putfield 225, 3) := by decide +kernel
theorem dX10_way_42 : decode cX10_way 42 = .ok (.iload_n 1, 1) := by decide +kernel
theorem dX10_way_43 : decode cX10_way 43 = .ok (.istore 4, 2) := by decide +kernel
theorem dX10_way_45 : decode cX10_way 45 = .ok (.iload 4, 2) := by decide +kernel
theorem dX10_way_47 : decode cX10_way 47 = .ok (.ifCond .eq 31, 3) := by decide +kernel
theorem dX10_way_50 : decode cX10_way 50 = .ok (.iinc 3 (-1), 3) := by decide +kernel
theorem dX10_way_53 : decode cX10_way 53 = .ok (.aload_n 0, 1) := by decide +kernel
theorem dX10_way_54 : decode cX10_way 54 = .ok (.getfield 56, 3) := by decide +kernel
theorem dX10_way_57 : decode cX10_way 57 = .ok (.iload_n 3, 1) := by decide +kernel
theorem dX10_way_58 : decode cX10_way 58 = .ok (.aload_n 0, 1) := by decide +kernel
theorem dX10_way_59 : decode cX10_way 59 = .ok (.getfield 72, 3) := by decide +kernel
theorem dX10_way_62 : decode cX10_way 62 = .ok (.iload 4, 2) := by decide +kernel
theorem dX10_way_64 : decode cX10_way 64 = .ok (.iaload, 1) := by decide +kernel
theorem dX10_way_65 : decode cX10_way 65 = .ok (.iastore, 1) := by decide +kernel
theorem dX10_way_66 : decode cX10_way 66 = .ok (.aload_n 0, 1) := by decide +kernel
theorem dX10_way_67 : decode cX10_way 67 = .ok (.getfield 69, 3) := by decide +kernel
theorem dX10_way_70 : decode cX10_way 70 = .ok (.iload 4, 2) := by decide +kernel
theorem dX10_way_72 : decode cX10_way 72 = .ok (.iaload, 1) := by decide +kernel
theorem dX10_way_73 : decode cX10_way 73 = .ok (.istore 4, 2) := by decide +kernel
theorem dX10_way_75 : decode cX10_way 75 = .ok (.goto (-30), 3) := by decide +kernel
theorem dX10_way_78 : decode cX10_way 78 = .ok (.aload_n 0, 1) := by decide +kernel
theorem dX10_way_79 : decode cX10_way 79 = .ok (.getfield 225, 3) := by decide +kernel
theorem dX10_way_82 : decode cX10_way 82 = .ok (.ireturn, 1) := by decide +kernel
theorem dX10_find_0 : decode cX10_find 0 = .ok (.aload_n 0, 1) := by decide +kernel
theorem dX10_find_1 : decode cX10_find 1 = .ok (.getfield 133, 3) := by decide +kernel
theorem dX10_find_4 : decode cX10_find 4 = .ok (.ifCond .ne 6, 3) := by decide +kernel
theorem dX10_find_7 : decode cX10_find 7 = .ok (.ldc 171, 2) := by decide +kernel
theorem dX10_find_9 : decode cX10_find 9 = .ok (.ireturn, 1) := by decide +kernel
theorem dX10_find_10 : decode cX10_find 10 = .ok (.iconst 0, 1) := by decide +kernel
theorem dX10_find_11 : decode cX10_find 11 = .ok (.istore_n 1, 1) := by decide +kernel
theorem dX10_find_12 : decode cX10_find 12 = .ok (.iload_n 1, 1) := by decide +kernel
theorem dX10_find_13 : decode cX10_find 13 = .ok (.aload_n 0, 1) := by decide +kernel
theorem dX10_find_14 : decode cX10_find 14 = .ok (.getfield 127, 3) := by decide +kernel
theorem dX10_find_17 : decode cX10_find 17 = .ok (.if_icmp .ge 20, 3) := by decide +kernel
theorem dX10_find_20 : decode cX10_find 20 = .ok (.aload_n 0, 1) := by decide +kernel
theorem dX10_find_21 : decode cX10_find 21 = .ok (.getfield 78, 3) := by decide +kernel
theorem dX10_find_24 : decode cX10_find 24 = .ok (.iload_n 1, 1) := by decide +kernel
theorem dX10_find_25 : decode cX10_find 25 = .ok (.aload_n 0, 1) := by decide +kernel
theorem dX10_find_26 : decode cX10_find 26 = .ok (.iload_n 1, 1) := by decide +kernel
theorem dX10_find_27 : decode cX10_find 27 = .ok (.invokevirtual 258, 3) := by decide +kernel
theorem dX10_find_30 : decode cX10_find 30 = .ok (.iastore, 1) := by decide +kernel
theorem dX10_find_31 : decode cX10_find 31 = .ok (.iinc 1 1, 3) := by decide +kernel
theorem dX10_find_34 : decode cX10_find 34 = .ok (.goto (-22), 3) := by decide +kernel
theorem dX10_find_37 : decode cX10_find 37 = .ok (.aload_n 0, 1) := by decide +kernel
theorem dX10_find_38 : decode cX10_find 38 = .ok (.invokevirtual 242, 3) := by decide +kernel
theorem dX10_find_41 : decode cX10_find 41 = .ok (.ireturn, 1) := by decide +kernel
theorem dX10_isDead_0 : decode cX10_isDead 0 = .ok (.iconst 1, 1) := by decide +kernel
theorem dX10_isDead_1 : decode cX10_isDead 1 = .ok (.istore_n 2, 1) := by decide +kernel
theorem dX10_isDead_2 : decode cX10_isDead 2 = .ok (.iconst 0, 1) := by decide +kernel
theorem dX10_isDead_3 : decode cX10_isDead 3 = .ok (.istore_n 3, 1) := by decide +kernel
theorem dX10_isDead_4 : decode cX10_isDead 4 = .ok (.iload_n 3, 1) := by decide +kernel
theorem dX10_isDead_5 : decode cX10_isDead 5 = .ok (.aload_n 0, 1) := by decide +kernel
theorem dX10_isDead_6 : decode cX10_isDead 6 = .ok (.getfield 130, 3) := by decide +kernel
theorem dX10_isDead_9 : decode cX10_isDead 9 = .ok (.if_icmp .ge 35, 3) := by decide +kernel
theorem dX10_isDead_12 : decode cX10_isDead 12 = .ok (.iload_n 2, 1) := by decide +kernel
theorem dX10_isDead_13 : decode cX10_isDead 13 = .ok (.ifCond .eq 23, 3) := by decide +kernel
theorem dX10_isDead_16 : decode cX10_isDead 16 = .ok (.aload_n 0, 1) := by decide +kernel
theorem dX10_isDead_17 : decode cX10_isDead 17 = .ok (.getfield 75, 3) := by decide +kernel
theorem dX10_isDead_20 : decode cX10_isDead 20 = .ok (.bipush 16, 2) := by decide +kernel
theorem dX10_isDead_22 : decode cX10_isDead 22 = .ok (.iload_n 1, 1) := by decide +kernel
theorem dX10_isDead_23 : decode cX10_isDead 23 = .ok (.imul, 1) := by decide +kernel
theorem dX10_isDead_24 : decode cX10_isDead 24 = .ok (.iload_n 3, 1) := by decide +kernel
theorem dX10_isDead_25 : decode cX10_isDead 25 = .ok (.iadd, 1) := by decide +kernel
theorem dX10_isDead_26 : decode cX10_isDead 26 = .ok (.iaload, 1) := by decide +kernel
theorem dX10_isDead_27 : decode cX10_isDead 27 = .ok (.ldc 85, 2) := by decide +kernel
theorem dX10_isDead_29 : decode cX10_isDead 29 = .ok (.if_icmp .ne 7, 3) := by decide +kernel
theorem dX10_isDead_32 : decode cX10_isDead 32 = .ok (.iconst 1, 1) := by decide +kernel
theorem dX10_isDead_33 : decode cX10_isDead 33 = .ok (.goto 4, 3) := by decide +kernel
theorem dX10_isDead_36 : decode cX10_isDead 36 = .ok (.iconst 0, 1) := by decide +kernel
theorem dX10_isDead_37 : decode cX10_isDead 37 = .ok (.istore_n 2, 1) := by decide +kernel
theorem dX10_isDead_38 : decode cX10_isDead 38 = .ok (.iinc 3 1, 3) := by decide +kernel
theorem dX10_isDead_41 : decode cX10_isDead 41 = .ok (.goto (-37), 3) := by decide +kernel
theorem dX10_isDead_44 : decode cX10_isDead 44 = .ok (.iload_n 2, 1) := by decide +kernel
theorem dX10_isDead_45 : decode cX10_isDead 45 = .ok (.ireturn, 1) := by decide +kernel
theorem dX10_dead_0 : decode cX10_dead 0 = .ok (.iload_n 1, 1) := by decide +kernel
theorem dX10_dead_1 : decode cX10_dead 1 = .ok (.ifCond .ge 6, 3) := by decide +kernel
theorem dX10_dead_4 : decode cX10_dead 4 = .ok (.ldc 159, 2) := by decide +kernel
theorem dX10_dead_6 : decode cX10_dead 6 = .ok (.ireturn, 1) := by decide +kernel
theorem dX10_dead_7 : decode cX10_dead 7 = .ok (.aload_n 0, 1) := by decide +kernel
theorem dX10_dead_8 : decode cX10_dead 8 = .ok (.getfield 133, 3) := by decide +kernel
theorem dX10_dead_11 : decode cX10_dead 11 = .ok (.ifCond .ne 6, 3) := by decide +kernel
theorem dX10_dead_14 : decode cX10_dead 14 = .ok (.ldc 171, 2) := by decide +kernel
theorem dX10_dead_16 : decode cX10_dead 16 = .ok (.ireturn, 1) := by decide +kernel
theorem dX10_dead_17 : decode cX10_dead 17 = .ok (.iconst 0, 1) := by decide +kernel
theorem dX10_dead_18 : decode cX10_dead 18 = .ok (.istore_n 2, 1) := by decide +kernel
theorem dX10_dead_19 : decode cX10_dead 19 = .ok (.iconst 0, 1) := by decide +kernel
theorem dX10_dead_20 : decode cX10_dead 20 = .ok (.istore_n 3, 1) := by decide +kernel
theorem dX10_dead_21 : decode cX10_dead 21 = .ok (.iload_n 3, 1) := by decide +kernel
theorem dX10_dead_22 : decode cX10_dead 22 = .ok (.aload_n 0, 1) := by decide +kernel
theorem dX10_dead_23 : decode cX10_dead 23 = .ok (.getfield 124, 3) := by decide +kernel
theorem dX10_dead_26 : decode cX10_dead 26 = .ok (.if_icmp .ge 27, 3) := by decide +kernel
theorem dX10_dead_29 : decode cX10_dead 29 = .ok (.aload_n 0, 1) := by decide +kernel
theorem dX10_dead_30 : decode cX10_dead 30 = .ok (.iload_n 3, 1) := by decide +kernel
theorem dX10_dead_31 : decode cX10_dead 31 = .ok (.invokevirtual 261, 3) := by decide +kernel
theorem dX10_dead_34 : decode cX10_dead 34 = .ok (.ifCond .eq 13, 3) := by decide +kernel
theorem dX10_dead_37 : decode cX10_dead 37 = .ok (.iload_n 2, 1) := by decide +kernel
theorem dX10_dead_38 : decode cX10_dead 38 = .ok (.iload_n 1, 1) := by decide +kernel
theorem dX10_dead_39 : decode cX10_dead 39 = .ok (.if_icmp .ne 5, 3) := by decide +kernel
theorem dX10_dead_42 : decode cX10_dead 42 = .ok (.iload_n 3, 1) := by decide +kernel
theorem dX10_dead_43 : decode cX10_dead 43 = .ok (.ireturn, 1) := by decide +kernel
theorem dX10_dead_44 : decode cX10_dead 44 = .ok (.iinc 2 1, 3) := by decide +kernel
theorem dX10_dead_47 : decode cX10_dead 47 = .ok (.iinc 3 1, 3) := by decide +kernel
theorem dX10_dead_50 : decode cX10_dead 50 = .ok (.goto (-29), 3) := by decide +kernel
theorem dX10_dead_53 : decode cX10_dead 53 = .ok (.ldc 85, 2) := by decide +kernel
theorem dX10_dead_55 : decode cX10_dead 55 = .ok (.ireturn, 1) := by decide +kernel
theorem dX10_spread_0 : decode cX10_spread 0 = .ok (.iconst 1, 1) := by decide +kernel
theorem dX10_spread_1 : decode cX10_spread 1 = .ok (.istore_n 1, 1) := by decide +kernel
theorem dX10_spread_2 : decode cX10_spread 2 = .ok (.iload_n 1, 1) := by decide +kernel
theorem dX10_spread_3 : decode cX10_spread 3 = .ok (.ifCond .eq 89, 3) := by decide +kernel
theorem dX10_spread_6 : decode cX10_spread 6 = .ok (.iconst 0, 1) := by decide +kernel
theorem dX10_spread_7 : decode cX10_spread 7 = .ok (.istore_n 1, 1) := by decide +kernel
theorem dX10_spread_8 : decode cX10_spread 8 = .ok (.aload_n 0, 1) := by decide +kernel
theorem dX10_spread_9 : decode cX10_spread 9 = .ok (.getfield 124, 3) := by decide +kernel
theorem dX10_spread_12 : decode cX10_spread 12 = .ok (.iconst 1, 1) := by decide +kernel
theorem dX10_spread_13 : decode cX10_spread 13 = .ok (.isub, 1) := by decide +kernel
theorem dX10_spread_14 : decode cX10_spread 14 = .ok (.istore_n 2, 1) := by decide +kernel
theorem dX10_spread_15 : decode cX10_spread 15 = .ok (.iload_n 2, 1) := by decide +kernel
theorem dX10_spread_16 : decode cX10_spread 16 = .ok (.ifCond .lt 73, 3) := by decide +kernel
theorem dX10_spread_19 : decode cX10_spread 19 = .ok (.iconst 0, 1) := by decide +kernel
theorem dX10_spread_20 : decode cX10_spread 20 = .ok (.istore_n 3, 1) := by decide +kernel
theorem dX10_spread_21 : decode cX10_spread 21 = .ok (.iload_n 3, 1) := by decide +kernel
theorem dX10_spread_22 : decode cX10_spread 22 = .ok (.aload_n 0, 1) := by decide +kernel
theorem dX10_spread_23 : decode cX10_spread 23 = .ok (.getfield 130, 3) := by decide +kernel
theorem dX10_spread_26 : decode cX10_spread 26 = .ok (.if_icmp .ge 57, 3) := by decide +kernel
theorem dX10_spread_29 : decode cX10_spread 29 = .ok (.aload_n 0, 1) := by decide +kernel
theorem dX10_spread_30 : decode cX10_spread 30 = .ok (.getfield 81, 3) := by decide +kernel
theorem dX10_spread_33 : decode cX10_spread 33 = .ok (.iload_n 2, 1) := by decide +kernel
theorem dX10_spread_34 : decode cX10_spread 34 = .ok (.baload, 1) := by decide +kernel
theorem dX10_spread_35 : decode cX10_spread 35 = .ok (.ifCond .ne 48, 3) := by decide +kernel
theorem dX10_spread_38 : decode cX10_spread 38 = .ok (.aload_n 0, 1) := by decide +kernel
theorem dX10_spread_39 : decode cX10_spread 39 = .ok (.getfield 75, 3) := by decide +kernel
theorem dX10_spread_42 : decode cX10_spread 42 = .ok (.bipush 16, 2) := by decide +kernel
theorem dX10_spread_44 : decode cX10_spread 44 = .ok (.iload_n 2, 1) := by decide +kernel
theorem dX10_spread_45 : decode cX10_spread 45 = .ok (.imul, 1) := by decide +kernel
theorem dX10_spread_46 : decode cX10_spread 46 = .ok (.iload_n 3, 1) := by decide +kernel
theorem dX10_spread_47 : decode cX10_spread 47 = .ok (.iadd, 1) := by decide +kernel
theorem dX10_spread_48 : decode cX10_spread 48 = .ok (.iaload, 1) := by decide +kernel
theorem dX10_spread_49 : decode cX10_spread 49 = .ok (.istore 4, 2) := by decide +kernel
theorem dX10_spread_51 : decode cX10_spread 51 = .ok (.iload 4, 2) := by decide +kernel
theorem dX10_spread_53 : decode cX10_spread 53 = .ok (.ldc 85, 2) := by decide +kernel
theorem dX10_spread_55 : decode cX10_spread 55 = .ok (.if_icmp .eq 22, 3) := by decide +kernel
theorem dX10_spread_58 : decode cX10_spread 58 = .ok (.aload_n 0, 1) := by decide +kernel
theorem dX10_spread_59 : decode cX10_spread 59 = .ok (.getfield 81, 3) := by decide +kernel
theorem dX10_spread_62 : decode cX10_spread 62 = .ok (.iload 4, 2) := by decide +kernel
theorem dX10_spread_64 : decode cX10_spread 64 = .ok (.baload, 1) := by decide +kernel
theorem dX10_spread_65 : decode cX10_spread 65 = .ok (.ifCond .eq 12, 3) := by decide +kernel
theorem dX10_spread_68 : decode cX10_spread 68 = .ok (.aload_n 0, 1) := by decide +kernel
theorem dX10_spread_69 : decode cX10_spread 69 = .ok (.getfield 81, 3) := by decide +kernel
theorem dX10_spread_72 : decode cX10_spread 72 = .ok (.iload_n 2, 1) := by decide +kernel
theorem dX10_spread_73 : decode cX10_spread 73 = .ok (.iconst 1, 1) := by decide +kernel
theorem dX10_spread_74 : decode cX10_spread 74 = .ok (.bastore, 1) := by decide +kernel
theorem dX10_spread_75 : decode cX10_spread 75 = .ok (.iconst 1, 1) := by decide +kernel
theorem dX10_spread_76 : decode cX10_spread 76 = .ok (.istore_n 1, 1) := by decide +kernel
theorem dX10_spread_77 : decode cX10_spread 77 = .ok (.iinc 3 1, 3) := by decide +kernel
theorem dX10_spread_80 : decode cX10_spread 80 = .ok (.goto (-59), 3) := by decide +kernel
theorem dX10_spread_83 : decode cX10_spread 83 = .ok (.iinc 2 (-1), 3) := by decide +kernel
theorem dX10_spread_86 : decode cX10_spread 86 = .ok (.goto (-71), 3) := by decide +kernel
theorem dX10_spread_89 : decode cX10_spread 89 = .ok (.goto (-87), 3) := by decide +kernel
theorem dX10_spread_92 : decode cX10_spread 92 = .ok (.return_, 1) := by decide +kernel
theorem dX10_leastOut_0 : decode cX10_leastOut 0 = .ok (.iconst 0, 1) := by decide +kernel
theorem dX10_leastOut_1 : decode cX10_leastOut 1 = .ok (.istore_n 1, 1) := by decide +kernel
theorem dX10_leastOut_2 : decode cX10_leastOut 2 = .ok (.iload_n 1, 1) := by decide +kernel
theorem dX10_leastOut_3 : decode cX10_leastOut 3 = .ok (.aload_n 0, 1) := by decide +kernel
theorem dX10_leastOut_4 : decode cX10_leastOut 4 = .ok (.getfield 124, 3) := by decide +kernel
theorem dX10_leastOut_7 : decode cX10_leastOut 7 = .ok (.if_icmp .ge 20, 3) := by decide +kernel
theorem dX10_leastOut_10 : decode cX10_leastOut 10 = .ok (.aload_n 0, 1) := by decide +kernel
theorem dX10_leastOut_11 : decode cX10_leastOut 11 = .ok (.getfield 81, 3) := by decide +kernel
theorem dX10_leastOut_14 : decode cX10_leastOut 14 = .ok (.iload_n 1, 1) := by decide +kernel
theorem dX10_leastOut_15 : decode cX10_leastOut 15 = .ok (.baload, 1) := by decide +kernel
theorem dX10_leastOut_16 : decode cX10_leastOut 16 = .ok (.ifCond .ne 5, 3) := by decide +kernel
theorem dX10_leastOut_19 : decode cX10_leastOut 19 = .ok (.iload_n 1, 1) := by decide +kernel
theorem dX10_leastOut_20 : decode cX10_leastOut 20 = .ok (.ireturn, 1) := by decide +kernel
theorem dX10_leastOut_21 : decode cX10_leastOut 21 = .ok (.iinc 1 1, 3) := by decide +kernel
theorem dX10_leastOut_24 : decode cX10_leastOut 24 = .ok (.goto (-22), 3) := by decide +kernel
theorem dX10_leastOut_27 : decode cX10_leastOut 27 = .ok (.ldc 85, 2) := by decide +kernel
theorem dX10_leastOut_29 : decode cX10_leastOut 29 = .ok (.ireturn, 1) := by decide +kernel
theorem dX10_stuck_0 : decode cX10_stuck 0 = .ok (.aload_n 0, 1) := by decide +kernel
theorem dX10_stuck_1 : decode cX10_stuck 1 = .ok (.iload_n 1, 1) := by decide +kernel
theorem dX10_stuck_2 : decode cX10_stuck 2 = .ok (.invokevirtual 164, 3) := by decide +kernel
theorem dX10_stuck_5 : decode cX10_stuck 5 = .ok (.ifCond .ne 6, 3) := by decide +kernel
theorem dX10_stuck_8 : decode cX10_stuck 8 = .ok (.ldc 159, 2) := by decide +kernel
theorem dX10_stuck_10 : decode cX10_stuck 10 = .ok (.ireturn, 1) := by decide +kernel
theorem dX10_stuck_11 : decode cX10_stuck 11 = .ok (.aload_n 0, 1) := by decide +kernel
theorem dX10_stuck_12 : decode cX10_stuck 12 = .ok (.getfield 133, 3) := by decide +kernel
theorem dX10_stuck_15 : decode cX10_stuck 15 = .ok (.ifCond .ne 6, 3) := by decide +kernel
theorem dX10_stuck_18 : decode cX10_stuck 18 = .ok (.ldc 171, 2) := by decide +kernel
theorem dX10_stuck_20 : decode cX10_stuck 20 = .ok (.ireturn, 1) := by decide +kernel
theorem dX10_stuck_21 : decode cX10_stuck 21 = .ok (.iconst 0, 1) := by decide +kernel
theorem dX10_stuck_22 : decode cX10_stuck 22 = .ok (.istore_n 2, 1) := by decide +kernel
theorem dX10_stuck_23 : decode cX10_stuck 23 = .ok (.iload_n 2, 1) := by decide +kernel
theorem dX10_stuck_24 : decode cX10_stuck 24 = .ok (.aload_n 0, 1) := by decide +kernel
theorem dX10_stuck_25 : decode cX10_stuck 25 = .ok (.getfield 124, 3) := by decide +kernel
theorem dX10_stuck_28 : decode cX10_stuck 28 = .ok (.if_icmp .ge 36, 3) := by decide +kernel
theorem dX10_stuck_31 : decode cX10_stuck 31 = .ok (.aload_n 0, 1) := by decide +kernel
theorem dX10_stuck_32 : decode cX10_stuck 32 = .ok (.getfield 81, 3) := by decide +kernel
theorem dX10_stuck_35 : decode cX10_stuck 35 = .ok (.iload_n 2, 1) := by decide +kernel
theorem dX10_stuck_36 : decode cX10_stuck 36 = .ok (.aload_n 0, 1) := by decide +kernel
theorem dX10_stuck_37 : decode cX10_stuck 37 = .ok (.getfield 75, 3) := by decide +kernel
theorem dX10_stuck_40 : decode cX10_stuck 40 = .ok (.bipush 16, 2) := by decide +kernel
theorem dX10_stuck_42 : decode cX10_stuck 42 = .ok (.iload_n 2, 1) := by decide +kernel
theorem dX10_stuck_43 : decode cX10_stuck 43 = .ok (.imul, 1) := by decide +kernel
theorem dX10_stuck_44 : decode cX10_stuck 44 = .ok (.iload_n 1, 1) := by decide +kernel
theorem dX10_stuck_45 : decode cX10_stuck 45 = .ok (.iadd, 1) := by decide +kernel
theorem dX10_stuck_46 : decode cX10_stuck 46 = .ok (.iaload, 1) := by decide +kernel
theorem dX10_stuck_47 : decode cX10_stuck 47 = .ok (.ldc 85, 2) := by decide +kernel
theorem dX10_stuck_49 : decode cX10_stuck 49 = .ok (.if_icmp .eq 7, 3) := by decide +kernel
theorem dX10_stuck_52 : decode cX10_stuck 52 = .ok (.iconst 1, 1) := by decide +kernel
theorem dX10_stuck_53 : decode cX10_stuck 53 = .ok (.goto 4, 3) := by decide +kernel
theorem dX10_stuck_56 : decode cX10_stuck 56 = .ok (.iconst 0, 1) := by decide +kernel
theorem dX10_stuck_57 : decode cX10_stuck 57 = .ok (.bastore, 1) := by decide +kernel
theorem dX10_stuck_58 : decode cX10_stuck 58 = .ok (.iinc 2 1, 3) := by decide +kernel
theorem dX10_stuck_61 : decode cX10_stuck 61 = .ok (.goto (-38), 3) := by decide +kernel
theorem dX10_stuck_64 : decode cX10_stuck 64 = .ok (.aload_n 0, 1) := by decide +kernel
theorem dX10_stuck_65 : decode cX10_stuck 65 = .ok (.invokevirtual 264, 3) := by decide +kernel
theorem dX10_stuck_68 : decode cX10_stuck 68 = .ok (.aload_n 0, 1) := by decide +kernel
theorem dX10_stuck_69 : decode cX10_stuck 69 = .ok (.invokevirtual 267, 3) := by decide +kernel
theorem dX10_stuck_72 : decode cX10_stuck 72 = .ok (.ireturn, 1) := by decide +kernel
theorem dX10_leastNotTo_0 : decode cX10_leastNotTo 0 = .ok (.iconst 0, 1) := by decide +kernel
theorem dX10_leastNotTo_1 : decode cX10_leastNotTo 1 = .ok (.istore_n 2, 1) := by decide +kernel
theorem dX10_leastNotTo_2 : decode cX10_leastNotTo 2 = .ok (.iload_n 2, 1) := by decide +kernel
theorem dX10_leastNotTo_3 : decode cX10_leastNotTo 3 = .ok (.aload_n 0, 1) := by decide +kernel
theorem dX10_leastNotTo_4 : decode cX10_leastNotTo 4 = .ok (.getfield 124, 3) := by decide +kernel
theorem dX10_leastNotTo_7 : decode cX10_leastNotTo 7 = .ok (.if_icmp .ge 25, 3) := by decide +kernel
theorem dX10_leastNotTo_10 : decode cX10_leastNotTo 10 = .ok (.aload_n 0, 1) := by decide +kernel
theorem dX10_leastNotTo_11 : decode cX10_leastNotTo 11 = .ok (.getfield 81, 3) := by decide +kernel
theorem dX10_leastNotTo_14 : decode cX10_leastNotTo 14 = .ok (.iload_n 2, 1) := by decide +kernel
theorem dX10_leastNotTo_15 : decode cX10_leastNotTo 15 = .ok (.iload_n 2, 1) := by decide +kernel
theorem dX10_leastNotTo_16 : decode cX10_leastNotTo 16 = .ok (.iload_n 1, 1) := by decide +kernel
theorem dX10_leastNotTo_17 : decode cX10_leastNotTo 17 = .ok (.if_icmp .ne 7, 3) := by decide +kernel
theorem dX10_leastNotTo_20 : decode cX10_leastNotTo 20 = .ok (.iconst 1, 1) := by decide +kernel
theorem dX10_leastNotTo_21 : decode cX10_leastNotTo 21 = .ok (.goto 4, 3) := by decide +kernel
theorem dX10_leastNotTo_24 : decode cX10_leastNotTo 24 = .ok (.iconst 0, 1) := by decide +kernel
theorem dX10_leastNotTo_25 : decode cX10_leastNotTo 25 = .ok (.bastore, 1) := by decide +kernel
theorem dX10_leastNotTo_26 : decode cX10_leastNotTo 26 = .ok (.iinc 2 1, 3) := by decide +kernel
theorem dX10_leastNotTo_29 : decode cX10_leastNotTo 29 = .ok (.goto (-27), 3) := by decide +kernel
theorem dX10_leastNotTo_32 : decode cX10_leastNotTo 32 = .ok (.aload_n 0, 1) := by decide +kernel
theorem dX10_leastNotTo_33 : decode cX10_leastNotTo 33 = .ok (.invokevirtual 264, 3) := by decide +kernel
theorem dX10_leastNotTo_36 : decode cX10_leastNotTo 36 = .ok (.aload_n 0, 1) := by decide +kernel
theorem dX10_leastNotTo_37 : decode cX10_leastNotTo 37 = .ok (.invokevirtual 267, 3) := by decide +kernel
theorem dX10_leastNotTo_40 : decode cX10_leastNotTo 40 = .ok (.ireturn, 1) := by decide +kernel
theorem dX10_home_0 : decode cX10_home 0 = .ok (.aload_n 0, 1) := by decide +kernel
theorem dX10_home_1 : decode cX10_home 1 = .ok (.iload_n 1, 1) := by decide +kernel
theorem dX10_home_2 : decode cX10_home 2 = .ok (.invokevirtual 255, 3) := by decide +kernel
theorem dX10_home_5 : decode cX10_home 5 = .ok (.istore_n 2, 1) := by decide +kernel
theorem dX10_home_6 : decode cX10_home 6 = .ok (.iload_n 2, 1) := by decide +kernel
theorem dX10_home_7 : decode cX10_home 7 = .ok (.ifCond .ge 7, 3) := by decide +kernel
theorem dX10_home_10 : decode cX10_home 10 = .ok (.iload_n 2, 1) := by decide +kernel
theorem dX10_home_11 : decode cX10_home 11 = .ok (.goto 18, 3) := by decide +kernel
theorem dX10_home_14 : decode cX10_home 14 = .ok (.aload_n 0, 1) := by decide +kernel
theorem dX10_home_15 : decode cX10_home 15 = .ok (.iload_n 1, 1) := by decide +kernel
theorem dX10_home_16 : decode cX10_home 16 = .ok (.invokevirtual 270, 3) := by decide +kernel
theorem dX10_home_19 : decode cX10_home 19 = .ok (.ldc 85, 2) := by decide +kernel
theorem dX10_home_21 : decode cX10_home 21 = .ok (.if_icmp .ne 7, 3) := by decide +kernel
theorem dX10_home_24 : decode cX10_home 24 = .ok (.iconst 1, 1) := by decide +kernel
theorem dX10_home_25 : decode cX10_home 25 = .ok (.goto 4, 3) := by decide +kernel
theorem dX10_home_28 : decode cX10_home 28 = .ok (.iconst 0, 1) := by decide +kernel
theorem dX10_home_29 : decode cX10_home 29 = .ok (.ireturn, 1) := by decide +kernel
theorem dX10_leastOther_0 : decode cX10_leastOther 0 = .ok (.iconst 0, 1) := by decide +kernel
theorem dX10_leastOther_1 : decode cX10_leastOther 1 = .ok (.istore_n 3, 1) := by decide +kernel
theorem dX10_leastOther_2 : decode cX10_leastOther 2 = .ok (.iload_n 3, 1) := by decide +kernel
theorem dX10_leastOther_3 : decode cX10_leastOther 3 = .ok (.aload_n 0, 1) := by decide +kernel
theorem dX10_leastOther_4 : decode cX10_leastOther 4 = .ok (.getfield 124, 3) := by decide +kernel
theorem dX10_leastOther_7 : decode cX10_leastOther 7 = .ok (.if_icmp .ge 30, 3) := by decide +kernel
theorem dX10_leastOther_10 : decode cX10_leastOther 10 = .ok (.iload_n 3, 1) := by decide +kernel
theorem dX10_leastOther_11 : decode cX10_leastOther 11 = .ok (.iload_n 2, 1) := by decide +kernel
theorem dX10_leastOther_12 : decode cX10_leastOther 12 = .ok (.if_icmp .eq 19, 3) := by decide +kernel
theorem dX10_leastOther_15 : decode cX10_leastOther 15 = .ok (.aload_n 0, 1) := by decide +kernel
theorem dX10_leastOther_16 : decode cX10_leastOther 16 = .ok (.getfield 63, 3) := by decide +kernel
theorem dX10_leastOther_19 : decode cX10_leastOther 19 = .ok (.bipush 16, 2) := by decide +kernel
theorem dX10_leastOther_21 : decode cX10_leastOther 21 = .ok (.iload_n 3, 1) := by decide +kernel
theorem dX10_leastOther_22 : decode cX10_leastOther 22 = .ok (.imul, 1) := by decide +kernel
theorem dX10_leastOther_23 : decode cX10_leastOther 23 = .ok (.iload_n 1, 1) := by decide +kernel
theorem dX10_leastOther_24 : decode cX10_leastOther 24 = .ok (.iadd, 1) := by decide +kernel
theorem dX10_leastOther_25 : decode cX10_leastOther 25 = .ok (.iaload, 1) := by decide +kernel
theorem dX10_leastOther_26 : decode cX10_leastOther 26 = .ok (.ifCond .le 5, 3) := by decide +kernel
theorem dX10_leastOther_29 : decode cX10_leastOther 29 = .ok (.iload_n 3, 1) := by decide +kernel
theorem dX10_leastOther_30 : decode cX10_leastOther 30 = .ok (.ireturn, 1) := by decide +kernel
theorem dX10_leastOther_31 : decode cX10_leastOther 31 = .ok (.iinc 3 1, 3) := by decide +kernel
theorem dX10_leastOther_34 : decode cX10_leastOther 34 = .ok (.goto (-32), 3) := by decide +kernel
theorem dX10_leastOther_37 : decode cX10_leastOther 37 = .ok (.ldc 85, 2) := by decide +kernel
theorem dX10_leastOther_39 : decode cX10_leastOther 39 = .ok (.ireturn, 1) := by decide +kernel
theorem dX10_leastIdle_0 : decode cX10_leastIdle 0 = .ok (.iconst 0, 1) := by decide +kernel
theorem dX10_leastIdle_1 : decode cX10_leastIdle 1 = .ok (.istore_n 1, 1) := by decide +kernel
theorem dX10_leastIdle_2 : decode cX10_leastIdle 2 = .ok (.iload_n 1, 1) := by decide +kernel
theorem dX10_leastIdle_3 : decode cX10_leastIdle 3 = .ok (.aload_n 0, 1) := by decide +kernel
theorem dX10_leastIdle_4 : decode cX10_leastIdle 4 = .ok (.getfield 130, 3) := by decide +kernel
theorem dX10_leastIdle_7 : decode cX10_leastIdle 7 = .ok (.if_icmp .ge 59, 3) := by decide +kernel
theorem dX10_leastIdle_10 : decode cX10_leastIdle 10 = .ok (.iconst 0, 1) := by decide +kernel
theorem dX10_leastIdle_11 : decode cX10_leastIdle 11 = .ok (.istore_n 2, 1) := by decide +kernel
theorem dX10_leastIdle_12 : decode cX10_leastIdle 12 = .ok (.iconst 0, 1) := by decide +kernel
theorem dX10_leastIdle_13 : decode cX10_leastIdle 13 = .ok (.istore_n 3, 1) := by decide +kernel
theorem dX10_leastIdle_14 : decode cX10_leastIdle 14 = .ok (.iload_n 3, 1) := by decide +kernel
theorem dX10_leastIdle_15 : decode cX10_leastIdle 15 = .ok (.aload_n 0, 1) := by decide +kernel
theorem dX10_leastIdle_16 : decode cX10_leastIdle 16 = .ok (.getfield 124, 3) := by decide +kernel
theorem dX10_leastIdle_19 : decode cX10_leastIdle 19 = .ok (.if_icmp .ge 35, 3) := by decide +kernel
theorem dX10_leastIdle_22 : decode cX10_leastIdle 22 = .ok (.iload_n 2, 1) := by decide +kernel
theorem dX10_leastIdle_23 : decode cX10_leastIdle 23 = .ok (.ifCond .ne 19, 3) := by decide +kernel
theorem dX10_leastIdle_26 : decode cX10_leastIdle 26 = .ok (.aload_n 0, 1) := by decide +kernel
theorem dX10_leastIdle_27 : decode cX10_leastIdle 27 = .ok (.getfield 75, 3) := by decide +kernel
theorem dX10_leastIdle_30 : decode cX10_leastIdle 30 = .ok (.bipush 16, 2) := by decide +kernel
theorem dX10_leastIdle_32 : decode cX10_leastIdle 32 = .ok (.iload_n 3, 1) := by decide +kernel
theorem dX10_leastIdle_33 : decode cX10_leastIdle 33 = .ok (.imul, 1) := by decide +kernel
theorem dX10_leastIdle_34 : decode cX10_leastIdle 34 = .ok (.iload_n 1, 1) := by decide +kernel
theorem dX10_leastIdle_35 : decode cX10_leastIdle 35 = .ok (.iadd, 1) := by decide +kernel
theorem dX10_leastIdle_36 : decode cX10_leastIdle 36 = .ok (.iaload, 1) := by decide +kernel
theorem dX10_leastIdle_37 : decode cX10_leastIdle 37 = .ok (.ldc 85, 2) := by decide +kernel
theorem dX10_leastIdle_39 : decode cX10_leastIdle 39 = .ok (.if_icmp .eq 7, 3) := by decide +kernel
theorem dX10_leastIdle_42 : decode cX10_leastIdle 42 = .ok (.iconst 1, 1) := by decide +kernel
theorem dX10_leastIdle_43 : decode cX10_leastIdle 43 = .ok (.goto 4, 3) := by decide +kernel
theorem dX10_leastIdle_46 : decode cX10_leastIdle 46 = .ok (.iconst 0, 1) := by decide +kernel
theorem dX10_leastIdle_47 : decode cX10_leastIdle 47 = .ok (.istore_n 2, 1) := by decide +kernel
theorem dX10_leastIdle_48 : decode cX10_leastIdle 48 = .ok (.iinc 3 1, 3) := by decide +kernel
theorem dX10_leastIdle_51 : decode cX10_leastIdle 51 = .ok (.goto (-37), 3) := by decide +kernel
theorem dX10_leastIdle_54 : decode cX10_leastIdle 54 = .ok (.iload_n 2, 1) := by decide +kernel
theorem dX10_leastIdle_55 : decode cX10_leastIdle 55 = .ok (.ifCond .ne 5, 3) := by decide +kernel
theorem dX10_leastIdle_58 : decode cX10_leastIdle 58 = .ok (.iload_n 1, 1) := by decide +kernel
theorem dX10_leastIdle_59 : decode cX10_leastIdle 59 = .ok (.ireturn, 1) := by decide +kernel
theorem dX10_leastIdle_60 : decode cX10_leastIdle 60 = .ok (.iinc 1 1, 3) := by decide +kernel
theorem dX10_leastIdle_63 : decode cX10_leastIdle 63 = .ok (.goto (-61), 3) := by decide +kernel
theorem dX10_leastIdle_66 : decode cX10_leastIdle 66 = .ok (.ldc 85, 2) := by decide +kernel
theorem dX10_leastIdle_68 : decode cX10_leastIdle 68 = .ok (.ireturn, 1) := by decide +kernel
theorem dX10_works_0 : decode cX10_works 0 = .ok (.aload_n 0, 1) := by decide +kernel
theorem dX10_works_1 : decode cX10_works 1 = .ok (.iload_n 1, 1) := by decide +kernel
theorem dX10_works_2 : decode cX10_works 2 = .ok (.invokevirtual 168, 3) := by decide +kernel
theorem dX10_works_5 : decode cX10_works 5 = .ok (.ifCond .eq 22, 3) := by decide +kernel
theorem dX10_works_8 : decode cX10_works 8 = .ok (.aload_n 0, 1) := by decide +kernel
theorem dX10_works_9 : decode cX10_works 9 = .ok (.iload_n 2, 1) := by decide +kernel
theorem dX10_works_10 : decode cX10_works 10 = .ok (.invokevirtual 168, 3) := by decide +kernel
theorem dX10_works_13 : decode cX10_works 13 = .ok (.ifCond .eq 14, 3) := by decide +kernel
theorem dX10_works_16 : decode cX10_works 16 = .ok (.iload_n 3, 1) := by decide +kernel
theorem dX10_works_17 : decode cX10_works 17 = .ok (.iconst 1, 1) := by decide +kernel
theorem dX10_works_18 : decode cX10_works 18 = .ok (.sipush 8000, 3) := by decide +kernel
theorem dX10_works_21 : decode cX10_works 21 = .ok (.invokestatic 155, 3) := by decide +kernel
theorem dX10_works_24 : decode cX10_works 24 = .ok (.ifCond .ne 6, 3) := by decide +kernel
theorem dX10_works_27 : decode cX10_works 27 = .ok (.ldc 159, 2) := by decide +kernel
theorem dX10_works_29 : decode cX10_works 29 = .ok (.ireturn, 1) := by decide +kernel
theorem dX10_works_30 : decode cX10_works 30 = .ok (.aload_n 0, 1) := by decide +kernel
theorem dX10_works_31 : decode cX10_works 31 = .ok (.invokevirtual 228, 3) := by decide +kernel
theorem dX10_works_34 : decode cX10_works 34 = .ok (.ifCond .eq 6, 3) := by decide +kernel
theorem dX10_works_37 : decode cX10_works 37 = .ok (.ldc 171, 2) := by decide +kernel
theorem dX10_works_39 : decode cX10_works 39 = .ok (.ireturn, 1) := by decide +kernel
theorem dX10_works_40 : decode cX10_works 40 = .ok (.iconst 0, 1) := by decide +kernel
theorem dX10_works_41 : decode cX10_works 41 = .ok (.istore 4, 2) := by decide +kernel
theorem dX10_works_43 : decode cX10_works 43 = .ok (.iload 4, 2) := by decide +kernel
theorem dX10_works_45 : decode cX10_works 45 = .ok (.aload_n 0, 1) := by decide +kernel
theorem dX10_works_46 : decode cX10_works 46 = .ok (.getfield 127, 3) := by decide +kernel
theorem dX10_works_49 : decode cX10_works 49 = .ok (.if_icmp .ge 27, 3) := by decide +kernel
theorem dX10_works_52 : decode cX10_works 52 = .ok (.aload_n 0, 1) := by decide +kernel
theorem dX10_works_53 : decode cX10_works 53 = .ok (.getfield 78, 3) := by decide +kernel
theorem dX10_works_56 : decode cX10_works 56 = .ok (.iload 4, 2) := by decide +kernel
theorem dX10_works_58 : decode cX10_works 58 = .ok (.iload 4, 2) := by decide +kernel
theorem dX10_works_60 : decode cX10_works 60 = .ok (.iload_n 1, 1) := by decide +kernel
theorem dX10_works_61 : decode cX10_works 61 = .ok (.if_icmp .ne 7, 3) := by decide +kernel
theorem dX10_works_64 : decode cX10_works 64 = .ok (.iconst 1, 1) := by decide +kernel
theorem dX10_works_65 : decode cX10_works 65 = .ok (.goto 4, 3) := by decide +kernel
theorem dX10_works_68 : decode cX10_works 68 = .ok (.iconst 0, 1) := by decide +kernel
theorem dX10_works_69 : decode cX10_works 69 = .ok (.iastore, 1) := by decide +kernel
theorem dX10_works_70 : decode cX10_works 70 = .ok (.iinc 4 1, 3) := by decide +kernel
theorem dX10_works_73 : decode cX10_works 73 = .ok (.goto (-30), 3) := by decide +kernel
theorem dX10_works_76 : decode cX10_works 76 = .ok (.aload_n 0, 1) := by decide +kernel
theorem dX10_works_77 : decode cX10_works 77 = .ok (.iload_n 3, 1) := by decide +kernel
theorem dX10_works_78 : decode cX10_works 78 = .ok (.invokevirtual 252, 3) := by decide +kernel
theorem dX10_works_81 : decode cX10_works 81 = .ok (.istore 4, 2) := by decide +kernel
theorem dX10_works_83 : decode cX10_works 83 = .ok (.iload 4, 2) := by decide +kernel
theorem dX10_works_85 : decode cX10_works 85 = .ok (.ldc 251, 2) := by decide +kernel
theorem dX10_works_87 : decode cX10_works 87 = .ok (.if_icmp .ne 6, 3) := by decide +kernel
theorem dX10_works_90 : decode cX10_works 90 = .ok (.ldc 251, 2) := by decide +kernel
theorem dX10_works_92 : decode cX10_works 92 = .ok (.ireturn, 1) := by decide +kernel
theorem dX10_works_93 : decode cX10_works 93 = .ok (.iconst 0, 1) := by decide +kernel
theorem dX10_works_94 : decode cX10_works 94 = .ok (.istore 5, 2) := by decide +kernel
theorem dX10_works_96 : decode cX10_works 96 = .ok (.iload 5, 2) := by decide +kernel
theorem dX10_works_98 : decode cX10_works 98 = .ok (.aload_n 0, 1) := by decide +kernel
theorem dX10_works_99 : decode cX10_works 99 = .ok (.getfield 127, 3) := by decide +kernel
theorem dX10_works_102 : decode cX10_works 102 = .ok (.if_icmp .ge 27, 3) := by decide +kernel
theorem dX10_works_105 : decode cX10_works 105 = .ok (.aload_n 0, 1) := by decide +kernel
theorem dX10_works_106 : decode cX10_works 106 = .ok (.getfield 78, 3) := by decide +kernel
theorem dX10_works_109 : decode cX10_works 109 = .ok (.iload 5, 2) := by decide +kernel
theorem dX10_works_111 : decode cX10_works 111 = .ok (.iload 5, 2) := by decide +kernel
theorem dX10_works_113 : decode cX10_works 113 = .ok (.iload_n 2, 1) := by decide +kernel
theorem dX10_works_114 : decode cX10_works 114 = .ok (.if_icmp .ne 7, 3) := by decide +kernel
theorem dX10_works_117 : decode cX10_works 117 = .ok (.iconst 1, 1) := by decide +kernel
theorem dX10_works_118 : decode cX10_works 118 = .ok (.goto 4, 3) := by decide +kernel
theorem dX10_works_121 : decode cX10_works 121 = .ok (.iconst 0, 1) := by decide +kernel
theorem dX10_works_122 : decode cX10_works 122 = .ok (.iastore, 1) := by decide +kernel
theorem dX10_works_123 : decode cX10_works 123 = .ok (.iinc 5 1, 3) := by decide +kernel
theorem dX10_works_126 : decode cX10_works 126 = .ok (.goto (-30), 3) := by decide +kernel
theorem dX10_works_129 : decode cX10_works 129 = .ok (.aload_n 0, 1) := by decide +kernel
theorem dX10_works_130 : decode cX10_works 130 = .ok (.invokevirtual 242, 3) := by decide +kernel
theorem dX10_works_133 : decode cX10_works 133 = .ok (.istore 5, 2) := by decide +kernel
theorem dX10_works_135 : decode cX10_works 135 = .ok (.aload_n 0, 1) := by decide +kernel
theorem dX10_works_136 : decode cX10_works 136 = .ok (.aload_n 0, 1) := by decide +kernel
theorem dX10_works_137 : decode cX10_works 137 = .ok (.iload 5, 2) := by decide +kernel
theorem dX10_works_139 : decode cX10_works 139 = .ok (.invokevirtual 270, 3) := by decide +kernel
theorem dX10_works_142 : decode cX10_works 142 = .ok (.putfield 86, 3) := by decide +kernel
theorem dX10_works_145 : decode cX10_works 145 = .ok (.aload_n 0, 1) := by decide +kernel
theorem dX10_works_146 : decode cX10_works 146 = .ok (.getfield 86, 3) := by decide +kernel
theorem dX10_works_149 : decode cX10_works 149 = .ok (.ldc 85, 2) := by decide +kernel
theorem dX10_works_151 : decode cX10_works 151 = .ok (.if_icmp .eq 5, 3) := by decide +kernel
theorem dX10_works_154 : decode cX10_works 154 = .ok (.iconst 1, 1) := by decide +kernel
theorem dX10_works_155 : decode cX10_works 155 = .ok (.ireturn, 1) := by decide +kernel
theorem dX10_works_156 : decode cX10_works 156 = .ok (.aload_n 0, 1) := by decide +kernel
theorem dX10_works_157 : decode cX10_works 157 = .ok (.aload_n 0, 1) := by decide +kernel
theorem dX10_works_158 : decode cX10_works 158 = .ok (.iload_n 2, 1) := by decide +kernel
theorem dX10_works_159 : decode cX10_works 159 = .ok (.iload 5, 2) := by decide +kernel
theorem dX10_works_161 : decode cX10_works 161 = .ok (.invokevirtual 273, 3) := by decide +kernel
theorem dX10_works_164 : decode cX10_works 164 = .ok (.putfield 86, 3) := by decide +kernel
theorem dX10_works_167 : decode cX10_works 167 = .ok (.aload_n 0, 1) := by decide +kernel
theorem dX10_works_168 : decode cX10_works 168 = .ok (.getfield 86, 3) := by decide +kernel
theorem dX10_works_171 : decode cX10_works 171 = .ok (.ldc 85, 2) := by decide +kernel
theorem dX10_works_173 : decode cX10_works 173 = .ok (.if_icmp .eq 5, 3) := by decide +kernel
theorem dX10_works_176 : decode cX10_works 176 = .ok (.iconst 2, 1) := by decide +kernel
theorem dX10_works_177 : decode cX10_works 177 = .ok (.ireturn, 1) := by decide +kernel
theorem dX10_works_178 : decode cX10_works 178 = .ok (.aload_n 0, 1) := by decide +kernel
theorem dX10_works_179 : decode cX10_works 179 = .ok (.aload_n 0, 1) := by decide +kernel
theorem dX10_works_180 : decode cX10_works 180 = .ok (.invokevirtual 277, 3) := by decide +kernel
theorem dX10_works_183 : decode cX10_works 183 = .ok (.putfield 86, 3) := by decide +kernel
theorem dX10_works_186 : decode cX10_works 186 = .ok (.aload_n 0, 1) := by decide +kernel
theorem dX10_works_187 : decode cX10_works 187 = .ok (.getfield 86, 3) := by decide +kernel
theorem dX10_works_190 : decode cX10_works 190 = .ok (.ldc 85, 2) := by decide +kernel
theorem dX10_works_192 : decode cX10_works 192 = .ok (.if_icmp .eq 7, 3) := by decide +kernel
theorem dX10_works_195 : decode cX10_works 195 = .ok (.iconst 3, 1) := by decide +kernel
theorem dX10_works_196 : decode cX10_works 196 = .ok (.goto 4, 3) := by decide +kernel
theorem dX10_works_199 : decode cX10_works 199 = .ok (.iconst 0, 1) := by decide +kernel
theorem dX10_works_200 : decode cX10_works 200 = .ok (.ireturn, 1) := by decide +kernel
theorem dX10_fault_0 : decode cX10_fault 0 = .ok (.aload_n 0, 1) := by decide +kernel
theorem dX10_fault_1 : decode cX10_fault 1 = .ok (.getfield 86, 3) := by decide +kernel
theorem dX10_fault_4 : decode cX10_fault 4 = .ok (.ireturn, 1) := by decide +kernel
theorem dX10_mayAt_0 : decode cX10_mayAt 0 = .ok (.iconst 1, 1) := by decide +kernel
theorem dX10_mayAt_1 : decode cX10_mayAt 1 = .ok (.istore_n 3, 1) := by decide +kernel
theorem dX10_mayAt_2 : decode cX10_mayAt 2 = .ok (.iconst 0, 1) := by decide +kernel
theorem dX10_mayAt_3 : decode cX10_mayAt 3 = .ok (.istore 4, 2) := by decide +kernel
theorem dX10_mayAt_5 : decode cX10_mayAt 5 = .ok (.iload 4, 2) := by decide +kernel
theorem dX10_mayAt_7 : decode cX10_mayAt 7 = .ok (.aload_n 0, 1) := by decide +kernel
theorem dX10_mayAt_8 : decode cX10_mayAt 8 = .ok (.getfield 127, 3) := by decide +kernel
theorem dX10_mayAt_11 : decode cX10_mayAt 11 = .ok (.if_icmp .ge 71, 3) := by decide +kernel
theorem dX10_mayAt_14 : decode cX10_mayAt 14 = .ok (.aload_n 0, 1) := by decide +kernel
theorem dX10_mayAt_15 : decode cX10_mayAt 15 = .ok (.getfield 90, 3) := by decide +kernel
theorem dX10_mayAt_18 : decode cX10_mayAt 18 = .ok (.bipush 16, 2) := by decide +kernel
theorem dX10_mayAt_20 : decode cX10_mayAt 20 = .ok (.iload_n 2, 1) := by decide +kernel
theorem dX10_mayAt_21 : decode cX10_mayAt 21 = .ok (.imul, 1) := by decide +kernel
theorem dX10_mayAt_22 : decode cX10_mayAt 22 = .ok (.iload 4, 2) := by decide +kernel
theorem dX10_mayAt_24 : decode cX10_mayAt 24 = .ok (.iadd, 1) := by decide +kernel
theorem dX10_mayAt_25 : decode cX10_mayAt 25 = .ok (.iaload, 1) := by decide +kernel
theorem dX10_mayAt_26 : decode cX10_mayAt 26 = .ok (.istore 5, 2) := by decide +kernel
theorem dX10_mayAt_28 : decode cX10_mayAt 28 = .ok (.bipush 16, 2) := by decide +kernel
theorem dX10_mayAt_30 : decode cX10_mayAt 30 = .ok (.iload_n 1, 1) := by decide +kernel
theorem dX10_mayAt_31 : decode cX10_mayAt 31 = .ok (.imul, 1) := by decide +kernel
theorem dX10_mayAt_32 : decode cX10_mayAt 32 = .ok (.iload 4, 2) := by decide +kernel
theorem dX10_mayAt_34 : decode cX10_mayAt 34 = .ok (.iadd, 1) := by decide +kernel
theorem dX10_mayAt_35 : decode cX10_mayAt 35 = .ok (.istore 6, 2) := by decide +kernel
theorem dX10_mayAt_37 : decode cX10_mayAt 37 = .ok (.iload_n 3, 1) := by decide +kernel
theorem dX10_mayAt_38 : decode cX10_mayAt 38 = .ok (.ifCond .eq 36, 3) := by decide +kernel
theorem dX10_mayAt_41 : decode cX10_mayAt 41 = .ok (.iload 5, 2) := by decide +kernel
theorem dX10_mayAt_43 : decode cX10_mayAt 43 = .ok (.ifCond .lt 27, 3) := by decide +kernel
theorem dX10_mayAt_46 : decode cX10_mayAt 46 = .ok (.iload 5, 2) := by decide +kernel
theorem dX10_mayAt_48 : decode cX10_mayAt 48 = .ok (.aload_n 0, 1) := by decide +kernel
theorem dX10_mayAt_49 : decode cX10_mayAt 49 = .ok (.getfield 16, 3) := by decide +kernel
theorem dX10_mayAt_52 : decode cX10_mayAt 52 = .ok (.iload 6, 2) := by decide +kernel
theorem dX10_mayAt_54 : decode cX10_mayAt 54 = .ok (.iaload, 1) := by decide +kernel
theorem dX10_mayAt_55 : decode cX10_mayAt 55 = .ok (.if_icmp .lt 19, 3) := by decide +kernel
theorem dX10_mayAt_58 : decode cX10_mayAt 58 = .ok (.iload 5, 2) := by decide +kernel
theorem dX10_mayAt_60 : decode cX10_mayAt 60 = .ok (.aload_n 0, 1) := by decide +kernel
theorem dX10_mayAt_61 : decode cX10_mayAt 61 = .ok (.getfield 22, 3) := by decide +kernel
theorem dX10_mayAt_64 : decode cX10_mayAt 64 = .ok (.iload 6, 2) := by decide +kernel
theorem dX10_mayAt_66 : decode cX10_mayAt 66 = .ok (.iaload, 1) := by decide +kernel
theorem dX10_mayAt_67 : decode cX10_mayAt 67 = .ok (.if_icmp .lt 7, 3) := by decide +kernel
theorem dX10_mayAt_70 : decode cX10_mayAt 70 = .ok (.iconst 1, 1) := by decide +kernel
theorem dX10_mayAt_71 : decode cX10_mayAt 71 = .ok (.goto 4, 3) := by decide +kernel
theorem dX10_mayAt_74 : decode cX10_mayAt 74 = .ok (.iconst 0, 1) := by decide +kernel
theorem dX10_mayAt_75 : decode cX10_mayAt 75 = .ok (.istore_n 3, 1) := by decide +kernel
theorem dX10_mayAt_76 : decode cX10_mayAt 76 = .ok (.iinc 4 1, 3) := by decide +kernel
theorem dX10_mayAt_79 : decode cX10_mayAt 79 = .ok (.goto (-74), 3) := by decide +kernel
theorem dX10_mayAt_82 : decode cX10_mayAt 82 = .ok (.iload_n 3, 1) := by decide +kernel
theorem dX10_mayAt_83 : decode cX10_mayAt 83 = .ok (.ireturn, 1) := by decide +kernel
theorem dX10_isMore_0 : decode cX10_isMore 0 = .ok (.iload_n 1, 1) := by decide +kernel
theorem dX10_isMore_1 : decode cX10_isMore 1 = .ok (.ifCond .lt 16, 3) := by decide +kernel
theorem dX10_isMore_4 : decode cX10_isMore 4 = .ok (.iload_n 0, 1) := by decide +kernel
theorem dX10_isMore_5 : decode cX10_isMore 5 = .ok (.ifCond .lt 8, 3) := by decide +kernel
theorem dX10_isMore_8 : decode cX10_isMore 8 = .ok (.iload_n 0, 1) := by decide +kernel
theorem dX10_isMore_9 : decode cX10_isMore 9 = .ok (.iload_n 1, 1) := by decide +kernel
theorem dX10_isMore_10 : decode cX10_isMore 10 = .ok (.if_icmp .le 7, 3) := by decide +kernel
theorem dX10_isMore_13 : decode cX10_isMore 13 = .ok (.iconst 1, 1) := by decide +kernel
theorem dX10_isMore_14 : decode cX10_isMore 14 = .ok (.goto 4, 3) := by decide +kernel
theorem dX10_isMore_17 : decode cX10_isMore 17 = .ok (.iconst 0, 1) := by decide +kernel
theorem dX10_isMore_18 : decode cX10_isMore 18 = .ok (.ireturn, 1) := by decide +kernel
theorem dX10_isWithin_0 : decode cX10_isWithin 0 = .ok (.iconst 1, 1) := by decide +kernel
theorem dX10_isWithin_1 : decode cX10_isWithin 1 = .ok (.istore_n 3, 1) := by decide +kernel
theorem dX10_isWithin_2 : decode cX10_isWithin 2 = .ok (.iconst 0, 1) := by decide +kernel
theorem dX10_isWithin_3 : decode cX10_isWithin 3 = .ok (.istore 4, 2) := by decide +kernel
theorem dX10_isWithin_5 : decode cX10_isWithin 5 = .ok (.iload 4, 2) := by decide +kernel
theorem dX10_isWithin_7 : decode cX10_isWithin 7 = .ok (.aload_n 0, 1) := by decide +kernel
theorem dX10_isWithin_8 : decode cX10_isWithin 8 = .ok (.getfield 127, 3) := by decide +kernel
theorem dX10_isWithin_11 : decode cX10_isWithin 11 = .ok (.if_icmp .ge 49, 3) := by decide +kernel
theorem dX10_isWithin_14 : decode cX10_isWithin 14 = .ok (.iload_n 3, 1) := by decide +kernel
theorem dX10_isWithin_15 : decode cX10_isWithin 15 = .ok (.ifCond .eq 37, 3) := by decide +kernel
theorem dX10_isWithin_18 : decode cX10_isWithin 18 = .ok (.aload_n 0, 1) := by decide +kernel
theorem dX10_isWithin_19 : decode cX10_isWithin 19 = .ok (.getfield 90, 3) := by decide +kernel
theorem dX10_isWithin_22 : decode cX10_isWithin 22 = .ok (.bipush 16, 2) := by decide +kernel
theorem dX10_isWithin_24 : decode cX10_isWithin 24 = .ok (.iload_n 1, 1) := by decide +kernel
theorem dX10_isWithin_25 : decode cX10_isWithin 25 = .ok (.imul, 1) := by decide +kernel
theorem dX10_isWithin_26 : decode cX10_isWithin 26 = .ok (.iload 4, 2) := by decide +kernel
theorem dX10_isWithin_28 : decode cX10_isWithin 28 = .ok (.iadd, 1) := by decide +kernel
theorem dX10_isWithin_29 : decode cX10_isWithin 29 = .ok (.iaload, 1) := by decide +kernel
theorem dX10_isWithin_30 : decode cX10_isWithin 30 = .ok (.aload_n 0, 1) := by decide +kernel
theorem dX10_isWithin_31 : decode cX10_isWithin 31 = .ok (.getfield 90, 3) := by decide +kernel
theorem dX10_isWithin_34 : decode cX10_isWithin 34 = .ok (.bipush 16, 2) := by decide +kernel
theorem dX10_isWithin_36 : decode cX10_isWithin 36 = .ok (.iload_n 2, 1) := by decide +kernel
theorem dX10_isWithin_37 : decode cX10_isWithin 37 = .ok (.imul, 1) := by decide +kernel
theorem dX10_isWithin_38 : decode cX10_isWithin 38 = .ok (.iload 4, 2) := by decide +kernel
theorem dX10_isWithin_40 : decode cX10_isWithin 40 = .ok (.iadd, 1) := by decide +kernel
theorem dX10_isWithin_41 : decode cX10_isWithin 41 = .ok (.iaload, 1) := by decide +kernel
theorem dX10_isWithin_42 : decode cX10_isWithin 42 = .ok (.invokestatic 280, 3) := by decide +kernel
theorem dX10_isWithin_45 : decode cX10_isWithin 45 = .ok (.ifCond .ne 7, 3) := by decide +kernel
theorem dX10_isWithin_48 : decode cX10_isWithin 48 = .ok (.iconst 1, 1) := by decide +kernel
theorem dX10_isWithin_49 : decode cX10_isWithin 49 = .ok (.goto 4, 3) := by decide +kernel
theorem dX10_isWithin_52 : decode cX10_isWithin 52 = .ok (.iconst 0, 1) := by decide +kernel
theorem dX10_isWithin_53 : decode cX10_isWithin 53 = .ok (.istore_n 3, 1) := by decide +kernel
theorem dX10_isWithin_54 : decode cX10_isWithin 54 = .ok (.iinc 4 1, 3) := by decide +kernel
theorem dX10_isWithin_57 : decode cX10_isWithin 57 = .ok (.goto (-52), 3) := by decide +kernel
theorem dX10_isWithin_60 : decode cX10_isWithin 60 = .ok (.iload_n 3, 1) := by decide +kernel
theorem dX10_isWithin_61 : decode cX10_isWithin 61 = .ok (.ireturn, 1) := by decide +kernel
theorem dX10_grows_0 : decode cX10_grows 0 = .ok (.iconst 0, 1) := by decide +kernel
theorem dX10_grows_1 : decode cX10_grows 1 = .ok (.istore_n 3, 1) := by decide +kernel
theorem dX10_grows_2 : decode cX10_grows 2 = .ok (.iconst 0, 1) := by decide +kernel
theorem dX10_grows_3 : decode cX10_grows 3 = .ok (.istore 4, 2) := by decide +kernel
theorem dX10_grows_5 : decode cX10_grows 5 = .ok (.iload 4, 2) := by decide +kernel
theorem dX10_grows_7 : decode cX10_grows 7 = .ok (.aload_n 0, 1) := by decide +kernel
theorem dX10_grows_8 : decode cX10_grows 8 = .ok (.getfield 127, 3) := by decide +kernel
theorem dX10_grows_11 : decode cX10_grows 11 = .ok (.if_icmp .ge 63, 3) := by decide +kernel
theorem dX10_grows_14 : decode cX10_grows 14 = .ok (.aload_n 0, 1) := by decide +kernel
theorem dX10_grows_15 : decode cX10_grows 15 = .ok (.iload_n 2, 1) := by decide +kernel
theorem dX10_grows_16 : decode cX10_grows 16 = .ok (.iload_n 1, 1) := by decide +kernel
theorem dX10_grows_17 : decode cX10_grows 17 = .ok (.invokevirtual 283, 3) := by decide +kernel
theorem dX10_grows_20 : decode cX10_grows 20 = .ok (.ifCond .eq 54, 3) := by decide +kernel
theorem dX10_grows_23 : decode cX10_grows 23 = .ok (.aload_n 0, 1) := by decide +kernel
theorem dX10_grows_24 : decode cX10_grows 24 = .ok (.getfield 90, 3) := by decide +kernel
theorem dX10_grows_27 : decode cX10_grows 27 = .ok (.bipush 16, 2) := by decide +kernel
theorem dX10_grows_29 : decode cX10_grows 29 = .ok (.iload_n 1, 1) := by decide +kernel
theorem dX10_grows_30 : decode cX10_grows 30 = .ok (.imul, 1) := by decide +kernel
theorem dX10_grows_31 : decode cX10_grows 31 = .ok (.iload 4, 2) := by decide +kernel
theorem dX10_grows_33 : decode cX10_grows 33 = .ok (.iadd, 1) := by decide +kernel
theorem dX10_grows_34 : decode cX10_grows 34 = .ok (.iaload, 1) := by decide +kernel
theorem dX10_grows_35 : decode cX10_grows 35 = .ok (.aload_n 0, 1) := by decide +kernel
theorem dX10_grows_36 : decode cX10_grows 36 = .ok (.getfield 90, 3) := by decide +kernel
theorem dX10_grows_39 : decode cX10_grows 39 = .ok (.bipush 16, 2) := by decide +kernel
theorem dX10_grows_41 : decode cX10_grows 41 = .ok (.iload_n 2, 1) := by decide +kernel
theorem dX10_grows_42 : decode cX10_grows 42 = .ok (.imul, 1) := by decide +kernel
theorem dX10_grows_43 : decode cX10_grows 43 = .ok (.iload 4, 2) := by decide +kernel
theorem dX10_grows_45 : decode cX10_grows 45 = .ok (.iadd, 1) := by decide +kernel
theorem dX10_grows_46 : decode cX10_grows 46 = .ok (.iaload, 1) := by decide +kernel
theorem dX10_grows_47 : decode cX10_grows 47 = .ok (.invokestatic 280, 3) := by decide +kernel
theorem dX10_grows_50 : decode cX10_grows 50 = .ok (.ifCond .eq 18, 3) := by decide +kernel
theorem dX10_grows_53 : decode cX10_grows 53 = .ok (.aload_n 0, 1) := by decide +kernel
theorem dX10_grows_54 : decode cX10_grows 54 = .ok (.getfield 90, 3) := by decide +kernel
theorem dX10_grows_57 : decode cX10_grows 57 = .ok (.bipush 16, 2) := by decide +kernel
theorem dX10_grows_59 : decode cX10_grows 59 = .ok (.iload_n 1, 1) := by decide +kernel
theorem dX10_grows_60 : decode cX10_grows 60 = .ok (.imul, 1) := by decide +kernel
theorem dX10_grows_61 : decode cX10_grows 61 = .ok (.iload 4, 2) := by decide +kernel
theorem dX10_grows_63 : decode cX10_grows 63 = .ok (.iadd, 1) := by decide +kernel
theorem dX10_grows_64 : decode cX10_grows 64 = .ok (.iconst (-1), 1) := by decide +kernel
theorem dX10_grows_65 : decode cX10_grows 65 = .ok (.iastore, 1) := by decide +kernel
theorem dX10_grows_66 : decode cX10_grows 66 = .ok (.iconst 1, 1) := by decide +kernel
theorem dX10_grows_67 : decode cX10_grows 67 = .ok (.istore_n 3, 1) := by decide +kernel
theorem dX10_grows_68 : decode cX10_grows 68 = .ok (.iinc 4 1, 3) := by decide +kernel
theorem dX10_grows_71 : decode cX10_grows 71 = .ok (.goto (-66), 3) := by decide +kernel
theorem dX10_grows_74 : decode cX10_grows 74 = .ok (.iload_n 3, 1) := by decide +kernel
theorem dX10_grows_75 : decode cX10_grows 75 = .ok (.ireturn, 1) := by decide +kernel
theorem dX10_addNode_0 : decode cX10_addNode 0 = .ok (.aload_n 0, 1) := by decide +kernel
theorem dX10_addNode_1 : decode cX10_addNode 1 = .ok (.getfield 140, 3) := by decide +kernel
theorem dX10_addNode_4 : decode cX10_addNode 4 = .ok (.istore_n 3, 1) := by decide +kernel
theorem dX10_addNode_5 : decode cX10_addNode 5 = .ok (.iconst 0, 1) := by decide +kernel
theorem dX10_addNode_6 : decode cX10_addNode 6 = .ok (.istore 4, 2) := by decide +kernel
theorem dX10_addNode_8 : decode cX10_addNode 8 = .ok (.iload 4, 2) := by decide +kernel
theorem dX10_addNode_10 : decode cX10_addNode 10 = .ok (.aload_n 0, 1) := by decide +kernel
theorem dX10_addNode_11 : decode cX10_addNode 11 = .ok (.getfield 127, 3) := by decide +kernel
theorem dX10_addNode_14 : decode cX10_addNode 14 = .ok (.if_icmp .ge 72, 3) := by decide +kernel
theorem dX10_addNode_17 : decode cX10_addNode 17 = .ok (.aload_n 0, 1) := by decide +kernel
theorem dX10_addNode_18 : decode cX10_addNode 18 = .ok (.getfield 90, 3) := by decide +kernel
theorem dX10_addNode_21 : decode cX10_addNode 21 = .ok (.bipush 16, 2) := by decide +kernel
theorem dX10_addNode_23 : decode cX10_addNode 23 = .ok (.iload_n 1, 1) := by decide +kernel
theorem dX10_addNode_24 : decode cX10_addNode 24 = .ok (.imul, 1) := by decide +kernel
theorem dX10_addNode_25 : decode cX10_addNode 25 = .ok (.iload 4, 2) := by decide +kernel
theorem dX10_addNode_27 : decode cX10_addNode 27 = .ok (.iadd, 1) := by decide +kernel
theorem dX10_addNode_28 : decode cX10_addNode 28 = .ok (.iaload, 1) := by decide +kernel
theorem dX10_addNode_29 : decode cX10_addNode 29 = .ok (.istore 5, 2) := by decide +kernel
theorem dX10_addNode_31 : decode cX10_addNode 31 = .ok (.aload_n 0, 1) := by decide +kernel
theorem dX10_addNode_32 : decode cX10_addNode 32 = .ok (.getfield 90, 3) := by decide +kernel
theorem dX10_addNode_35 : decode cX10_addNode 35 = .ok (.bipush 16, 2) := by decide +kernel
theorem dX10_addNode_37 : decode cX10_addNode 37 = .ok (.iload_n 3, 1) := by decide +kernel
theorem dX10_addNode_38 : decode cX10_addNode 38 = .ok (.imul, 1) := by decide +kernel
theorem dX10_addNode_39 : decode cX10_addNode 39 = .ok (.iload 4, 2) := by decide +kernel
theorem dX10_addNode_41 : decode cX10_addNode 41 = .ok (.iadd, 1) := by decide +kernel
theorem dX10_addNode_42 : decode cX10_addNode 42 = .ok (.iload 5, 2) := by decide +kernel
theorem dX10_addNode_44 : decode cX10_addNode 44 = .ok (.ifCond .ge 7, 3) := by decide +kernel
theorem dX10_addNode_47 : decode cX10_addNode 47 = .ok (.iconst (-1), 1) := by decide +kernel
theorem dX10_addNode_48 : decode cX10_addNode 48 = .ok (.goto 31, 3) := by decide +kernel
theorem dX10_addNode_51 : decode cX10_addNode 51 = .ok (.iload 5, 2) := by decide +kernel
theorem dX10_addNode_53 : decode cX10_addNode 53 = .ok (.aload_n 0, 1) := by decide +kernel
theorem dX10_addNode_54 : decode cX10_addNode 54 = .ok (.getfield 19, 3) := by decide +kernel
theorem dX10_addNode_57 : decode cX10_addNode 57 = .ok (.bipush 16, 2) := by decide +kernel
theorem dX10_addNode_59 : decode cX10_addNode 59 = .ok (.iload_n 2, 1) := by decide +kernel
theorem dX10_addNode_60 : decode cX10_addNode 60 = .ok (.imul, 1) := by decide +kernel
theorem dX10_addNode_61 : decode cX10_addNode 61 = .ok (.iload 4, 2) := by decide +kernel
theorem dX10_addNode_63 : decode cX10_addNode 63 = .ok (.iadd, 1) := by decide +kernel
theorem dX10_addNode_64 : decode cX10_addNode 64 = .ok (.iaload, 1) := by decide +kernel
theorem dX10_addNode_65 : decode cX10_addNode 65 = .ok (.iadd, 1) := by decide +kernel
theorem dX10_addNode_66 : decode cX10_addNode 66 = .ok (.aload_n 0, 1) := by decide +kernel
theorem dX10_addNode_67 : decode cX10_addNode 67 = .ok (.getfield 16, 3) := by decide +kernel
theorem dX10_addNode_70 : decode cX10_addNode 70 = .ok (.bipush 16, 2) := by decide +kernel
theorem dX10_addNode_72 : decode cX10_addNode 72 = .ok (.iload_n 2, 1) := by decide +kernel
theorem dX10_addNode_73 : decode cX10_addNode 73 = .ok (.imul, 1) := by decide +kernel
theorem dX10_addNode_74 : decode cX10_addNode 74 = .ok (.iload 4, 2) := by decide +kernel
theorem dX10_addNode_76 : decode cX10_addNode 76 = .ok (.iadd, 1) := by decide +kernel
theorem dX10_addNode_77 : decode cX10_addNode 77 = .ok (.iaload, 1) := by decide +kernel
theorem dX10_addNode_78 : decode cX10_addNode 78 = .ok (.isub, 1) := by decide +kernel
theorem dX10_addNode_79 : decode cX10_addNode 79 = .ok (.iastore, 1) := by decide +kernel
theorem dX10_addNode_80 : decode cX10_addNode 80 = .ok (.iinc 4 1, 3) := by decide +kernel
theorem dX10_addNode_83 : decode cX10_addNode 83 = .ok (.goto (-75), 3) := by decide +kernel
theorem dX10_addNode_86 : decode cX10_addNode 86 = .ok (.aload_n 0, 1) := by decide +kernel
theorem dX10_addNode_87 : decode cX10_addNode 87 = .ok (.getfield 93, 3) := by decide +kernel
theorem dX10_addNode_90 : decode cX10_addNode 90 = .ok (.iload_n 3, 1) := by decide +kernel
theorem dX10_addNode_91 : decode cX10_addNode 91 = .ok (.iload_n 1, 1) := by decide +kernel
theorem dX10_addNode_92 : decode cX10_addNode 92 = .ok (.iastore, 1) := by decide +kernel
theorem dX10_addNode_93 : decode cX10_addNode 93 = .ok (.aload_n 0, 1) := by decide +kernel
theorem dX10_addNode_94 : decode cX10_addNode 94 = .ok (.getfield 96, 3) := by decide +kernel
theorem dX10_addNode_97 : decode cX10_addNode 97 = .ok (.iload_n 3, 1) := by decide +kernel
theorem dX10_addNode_98 : decode cX10_addNode 98 = .ok (.iload_n 2, 1) := by decide +kernel
theorem dX10_addNode_99 : decode cX10_addNode 99 = .ok (.iastore, 1) := by decide +kernel
