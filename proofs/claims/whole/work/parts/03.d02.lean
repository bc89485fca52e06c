theorem dX6_undo_62 : decode cX6_undo 62 = .ok (.invokevirtual 52, 3) := by decide +kernel
theorem dX6_undo_65 : decode cX6_undo 65 = .ok (.isub, 1) := by decide +kernel
theorem dX6_undo_66 : decode cX6_undo 66 = .ok (.iastore, 1) := by decide +kernel
theorem dX6_undo_67 : decode cX6_undo 67 = .ok (.iinc 4 1, 3) := by decide +kernel
theorem dX6_undo_70 : decode cX6_undo 70 = .ok (.goto (-29), 3) := by decide +kernel
theorem dX6_undo_73 : decode cX6_undo 73 = .ok (.aload_n 1, 1) := by decide +kernel
theorem dX6_undo_74 : decode cX6_undo 74 = .ok (.getfield 26, 3) := by decide +kernel
theorem dX6_undo_77 : decode cX6_undo 77 = .ok (.ifCond .le 24, 3) := by decide +kernel
theorem dX6_undo_80 : decode cX6_undo 80 = .ok (.aload_n 0, 1) := by decide +kernel
theorem dX6_undo_81 : decode cX6_undo 81 = .ok (.getfield 15, 3) := by decide +kernel
theorem dX6_undo_84 : decode cX6_undo 84 = .ok (.aload_n 0, 1) := by decide +kernel
theorem dX6_undo_85 : decode cX6_undo 85 = .ok (.getfield 23, 3) := by decide +kernel
theorem dX6_undo_88 : decode cX6_undo 88 = .ok (.bipush 16, 2) := by decide +kernel
theorem dX6_undo_90 : decode cX6_undo 90 = .ok (.imul, 1) := by decide +kernel
theorem dX6_undo_91 : decode cX6_undo 91 = .ok (.aload_n 2, 1) := by decide +kernel
theorem dX6_undo_92 : decode cX6_undo 92 = .ok (.getfield 31, 3) := by decide +kernel
theorem dX6_undo_95 : decode cX6_undo 95 = .ok (.iconst 0, 1) := by decide +kernel
theorem dX6_undo_96 : decode cX6_undo 96 = .ok (.bipush 16, 2) := by decide +kernel
theorem dX6_undo_98 : decode cX6_undo 98 = .ok (.invokestatic 34, 3) := by decide +kernel
theorem dX6_undo_101 : decode cX6_undo 101 = .ok (.iload_n 3, 1) := by decide +kernel
theorem dX6_undo_102 : decode cX6_undo 102 = .ok (.ireturn, 1) := by decide +kernel
theorem dX7_init_0 : decode cX7_init 0 = .ok (.aload_n 0, 1) := by decide +kernel
theorem dX7_init_1 : decode cX7_init 1 = .ok (.invokespecial 3, 3) := by decide +kernel
theorem dX7_init_4 : decode cX7_init 4 = .ok (.aload_n 0, 1) := by decide +kernel
theorem dX7_init_5 : decode cX7_init 5 = .ok (.sipush 500, 3) := by decide +kernel
theorem dX7_init_8 : decode cX7_init 8 = .ok (.newarray .int, 2) := by decide +kernel
theorem dX7_init_10 : decode cX7_init 10 = .ok (.putfield 9, 3) := by decide +kernel
theorem dX7_init_13 : decode cX7_init 13 = .ok (.aload_n 0, 1) := by decide +kernel
theorem dX7_init_14 : decode cX7_init 14 = .ok (.iconst 0, 1) := by decide +kernel
theorem dX7_init_15 : decode cX7_init 15 = .ok (.putfield 15, 3) := by decide +kernel
theorem dX7_init_18 : decode cX7_init 18 = .ok (.return_, 1) := by decide +kernel
theorem dX7_collect_0 : decode cX7_collect 0 = .ok (.aload_n 0, 1) := by decide +kernel
theorem dX7_collect_1 : decode cX7_collect 1 = .ok (.iconst 0, 1) := by decide +kernel
theorem dX7_collect_2 : decode cX7_collect 2 = .ok (.putfield 15, 3) := by decide +kernel
theorem dX7_collect_5 : decode cX7_collect 5 = .ok (.iconst 0, 1) := by decide +kernel
theorem dX7_collect_6 : decode cX7_collect 6 = .ok (.istore 4, 2) := by decide +kernel
theorem dX7_collect_8 : decode cX7_collect 8 = .ok (.iconst 0, 1) := by decide +kernel
theorem dX7_collect_9 : decode cX7_collect 9 = .ok (.istore 5, 2) := by decide +kernel
theorem dX7_collect_11 : decode cX7_collect 11 = .ok (.iload 5, 2) := by decide +kernel
theorem dX7_collect_13 : decode cX7_collect 13 = .ok (.iload_n 3, 1) := by decide +kernel
theorem dX7_collect_14 : decode cX7_collect 14 = .ok (.if_icmp .ge 54, 3) := by decide +kernel
theorem dX7_collect_17 : decode cX7_collect 17 = .ok (.iload 5, 2) := by decide +kernel
theorem dX7_collect_19 : decode cX7_collect 19 = .ok (.sipush 500, 3) := by decide +kernel
theorem dX7_collect_22 : decode cX7_collect 22 = .ok (.if_icmp .ge 46, 3) := by decide +kernel
theorem dX7_collect_25 : decode cX7_collect 25 = .ok (.aload_n 1, 1) := by decide +kernel
theorem dX7_collect_26 : decode cX7_collect 26 = .ok (.iload_n 2, 1) := by decide +kernel
theorem dX7_collect_27 : decode cX7_collect 27 = .ok (.iload 4, 2) := by decide +kernel
theorem dX7_collect_29 : decode cX7_collect 29 = .ok (.iconst 0, 1) := by decide +kernel
theorem dX7_collect_30 : decode cX7_collect 30 = .ok (.aload_n 1, 1) := by decide +kernel
theorem dX7_collect_31 : decode cX7_collect 31 = .ok (.getfield 19, 3) := by decide +kernel
theorem dX7_collect_34 : decode cX7_collect 34 = .ok (.invokestatic 24, 3) := by decide +kernel
theorem dX7_collect_37 : decode cX7_collect 37 = .ok (.istore 4, 2) := by decide +kernel
theorem dX7_collect_39 : decode cX7_collect 39 = .ok (.iload 4, 2) := by decide +kernel
theorem dX7_collect_41 : decode cX7_collect 41 = .ok (.ifCond .ne 4, 3) := by decide +kernel
theorem dX7_collect_44 : decode cX7_collect 44 = .ok (.return_, 1) := by decide +kernel
theorem dX7_collect_45 : decode cX7_collect 45 = .ok (.aload_n 0, 1) := by decide +kernel
theorem dX7_collect_46 : decode cX7_collect 46 = .ok (.getfield 9, 3) := by decide +kernel
theorem dX7_collect_49 : decode cX7_collect 49 = .ok (.iload 5, 2) := by decide +kernel
theorem dX7_collect_51 : decode cX7_collect 51 = .ok (.iload 4, 2) := by decide +kernel
theorem dX7_collect_53 : decode cX7_collect 53 = .ok (.iastore, 1) := by decide +kernel
theorem dX7_collect_54 : decode cX7_collect 54 = .ok (.aload_n 0, 1) := by decide +kernel
theorem dX7_collect_55 : decode cX7_collect 55 = .ok (.iload 5, 2) := by decide +kernel
theorem dX7_collect_57 : decode cX7_collect 57 = .ok (.iconst 1, 1) := by decide +kernel
theorem dX7_collect_58 : decode cX7_collect 58 = .ok (.iadd, 1) := by decide +kernel
theorem dX7_collect_59 : decode cX7_collect 59 = .ok (.putfield 15, 3) := by decide +kernel
theorem dX7_collect_62 : decode cX7_collect 62 = .ok (.iinc 5 1, 3) := by decide +kernel
theorem dX7_collect_65 : decode cX7_collect 65 = .ok (.goto (-54), 3) := by decide +kernel
theorem dX7_collect_68 : decode cX7_collect 68 = .ok (.return_, 1) := by decide +kernel
theorem dX8_init_0 : decode cX8_init 0 = .ok (.aload_n 0, 1) := by decide +kernel
theorem dX8_init_1 : decode cX8_init 1 = .ok (.invokespecial 3, 3) := by decide +kernel
theorem dX8_init_4 : decode cX8_init 4 = .ok (.aload_n 0, 1) := by decide +kernel
theorem dX8_init_5 : decode cX8_init 5 = .ok (.new 9, 3) := by decide +kernel
theorem dX8_init_8 : decode cX8_init 8 = .ok (.dup, 1) := by decide +kernel
theorem dX8_init_9 : decode cX8_init 9 = .ok (.sipush 2000, 3) := by decide +kernel
theorem dX8_init_12 : decode cX8_init 12 = .ok (.invokespecial 11, 3) := by decide +kernel
theorem dX8_init_15 : decode cX8_init 15 = .ok (.putfield 14, 3) := by decide +kernel
theorem dX8_init_18 : decode cX8_init 18 = .ok (.aload_n 0, 1) := by decide +kernel
theorem dX8_init_19 : decode cX8_init 19 = .ok (.new 20, 3) := by decide +kernel
theorem dX8_init_22 : decode cX8_init 22 = .ok (.dup, 1) := by decide +kernel
theorem dX8_init_23 : decode cX8_init 23 = .ok (.invokespecial 22, 3) := by decide +kernel
theorem dX8_init_26 : decode cX8_init 26 = .ok (.putfield 23, 3) := by decide +kernel
theorem dX8_init_29 : decode cX8_init 29 = .ok (.aload_n 0, 1) := by decide +kernel
theorem dX8_init_30 : decode cX8_init 30 = .ok (.sipush 2000, 3) := by decide +kernel
theorem dX8_init_33 : decode cX8_init 33 = .ok (.newarray .int, 2) := by decide +kernel
theorem dX8_init_35 : decode cX8_init 35 = .ok (.putfield 27, 3) := by decide +kernel
theorem dX8_init_38 : decode cX8_init 38 = .ok (.aload_n 0, 1) := by decide +kernel
theorem dX8_init_39 : decode cX8_init 39 = .ok (.iconst 0, 1) := by decide +kernel
theorem dX8_init_40 : decode cX8_init 40 = .ok (.putfield 31, 3) := by decide +kernel
theorem dX8_init_43 : decode cX8_init 43 = .ok (.aload_n 0, 1) := by decide +kernel
theorem dX8_init_44 : decode cX8_init 44 = .ok (.iconst (-1), 1) := by decide +kernel
theorem dX8_init_45 : decode cX8_init 45 = .ok (.putfield 35, 3) := by decide +kernel
theorem dX8_init_48 : decode cX8_init 48 = .ok (.aload_n 0, 1) := by decide +kernel
theorem dX8_init_49 : decode cX8_init 49 = .ok (.iconst (-1), 1) := by decide +kernel
theorem dX8_init_50 : decode cX8_init 50 = .ok (.putfield 39, 3) := by decide +kernel
theorem dX8_init_53 : decode cX8_init 53 = .ok (.return_, 1) := by decide +kernel
theorem dX8_refusal_0 : decode cX8_refusal 0 = .ok (.aload_n 0, 1) := by decide +kernel
theorem dX8_refusal_1 : decode cX8_refusal 1 = .ok (.getfield 31, 3) := by decide +kernel
theorem dX8_refusal_4 : decode cX8_refusal 4 = .ok (.ifCond .ne 6, 3) := by decide +kernel
theorem dX8_refusal_7 : decode cX8_refusal 7 = .ok (.ldc 42, 2) := by decide +kernel
theorem dX8_refusal_9 : decode cX8_refusal 9 = .ok (.ireturn, 1) := by decide +kernel
theorem dX8_refusal_10 : decode cX8_refusal 10 = .ok (.iload_n 1, 1) := by decide +kernel
theorem dX8_refusal_11 : decode cX8_refusal 11 = .ok (.ifCond .lt 18, 3) := by decide +kernel
theorem dX8_refusal_14 : decode cX8_refusal 14 = .ok (.iload_n 1, 1) := by decide +kernel
theorem dX8_refusal_15 : decode cX8_refusal 15 = .ok (.aload_n 0, 1) := by decide +kernel
theorem dX8_refusal_16 : decode cX8_refusal 16 = .ok (.getfield 14, 3) := by decide +kernel
theorem dX8_refusal_19 : decode cX8_refusal 19 = .ok (.getfield 43, 3) := by decide +kernel
theorem dX8_refusal_22 : decode cX8_refusal 22 = .ok (.if_icmp .ge 7, 3) := by decide +kernel
theorem dX8_refusal_25 : decode cX8_refusal 25 = .ok (.iconst 0, 1) := by decide +kernel
theorem dX8_refusal_26 : decode cX8_refusal 26 = .ok (.goto 5, 3) := by decide +kernel
theorem dX8_refusal_29 : decode cX8_refusal 29 = .ok (.ldc 46, 2) := by decide +kernel
theorem dX8_refusal_31 : decode cX8_refusal 31 = .ok (.ireturn, 1) := by decide +kernel
theorem dX8_make_0 : decode cX8_make 0 = .ok (.aload_n 0, 1) := by decide +kernel
theorem dX8_make_1 : decode cX8_make 1 = .ok (.iconst 0, 1) := by decide +kernel
theorem dX8_make_2 : decode cX8_make 2 = .ok (.putfield 31, 3) := by decide +kernel
theorem dX8_make_5 : decode cX8_make 5 = .ok (.aload_n 0, 1) := by decide +kernel
theorem dX8_make_6 : decode cX8_make 6 = .ok (.iconst (-1), 1) := by decide +kernel
theorem dX8_make_7 : decode cX8_make 7 = .ok (.putfield 35, 3) := by decide +kernel
theorem dX8_make_10 : decode cX8_make 10 = .ok (.aload_n 0, 1) := by decide +kernel
theorem dX8_make_11 : decode cX8_make 11 = .ok (.iconst (-1), 1) := by decide +kernel
theorem dX8_make_12 : decode cX8_make 12 = .ok (.putfield 39, 3) := by decide +kernel
theorem dX8_make_15 : decode cX8_make 15 = .ok (.aload_n 0, 1) := by decide +kernel
theorem dX8_make_16 : decode cX8_make 16 = .ok (.getfield 14, 3) := by decide +kernel
theorem dX8_make_19 : decode cX8_make 19 = .ok (.aload_n 1, 1) := by decide +kernel
theorem dX8_make_20 : decode cX8_make 20 = .ok (.getfield 47, 3) := by decide +kernel
theorem dX8_make_23 : decode cX8_make 23 = .ok (.invokevirtual 52, 3) := by decide +kernel
theorem dX8_make_26 : decode cX8_make 26 = .ok (.aload_n 0, 1) := by decide +kernel
theorem dX8_make_27 : decode cX8_make 27 = .ok (.getfield 23, 3) := by decide +kernel
theorem dX8_make_30 : decode cX8_make 30 = .ok (.aload_n 2, 1) := by decide +kernel
theorem dX8_make_31 : decode cX8_make 31 = .ok (.invokevirtual 55, 3) := by decide +kernel
theorem dX8_make_34 : decode cX8_make 34 = .ok (.aload_n 0, 1) := by decide +kernel
theorem dX8_make_35 : decode cX8_make 35 = .ok (.ldc 59, 2) := by decide +kernel
theorem dX8_make_37 : decode cX8_make 37 = .ok (.ldc 59, 2) := by decide +kernel
theorem dX8_make_39 : decode cX8_make 39 = .ok (.invokevirtual 60, 3) := by decide +kernel
theorem dX8_make_42 : decode cX8_make 42 = .ok (.iconst 0, 1) := by decide +kernel
theorem dX8_make_43 : decode cX8_make 43 = .ok (.istore 4, 2) := by decide +kernel
theorem dX8_make_45 : decode cX8_make 45 = .ok (.iload 4, 2) := by decide +kernel
theorem dX8_make_47 : decode cX8_make 47 = .ok (.aload_n 0, 1) := by decide +kernel
theorem dX8_make_48 : decode cX8_make 48 = .ok (.getfield 14, 3) := by decide +kernel
theorem dX8_make_51 : decode cX8_make 51 = .ok (.getfield 43, 3) := by decide +kernel
theorem dX8_make_54 : decode cX8_make 54 = .ok (.if_icmp .ge 38, 3) := by decide +kernel
theorem dX8_make_57 : decode cX8_make 57 = .ok (.iload 4, 2) := by decide +kernel
theorem dX8_make_59 : decode cX8_make 59 = .ok (.iload_n 3, 1) := by decide +kernel
theorem dX8_make_60 : decode cX8_make 60 = .ok (.if_icmp .ge 32, 3) := by decide +kernel
theorem dX8_make_63 : decode cX8_make 63 = .ok (.aload_n 0, 1) := by decide +kernel
theorem dX8_make_64 : decode cX8_make 64 = .ok (.getfield 27, 3) := by decide +kernel
theorem dX8_make_67 : decode cX8_make 67 = .ok (.iload 4, 2) := by decide +kernel
theorem dX8_make_69 : decode cX8_make 69 = .ok (.iaload, 1) := by decide +kernel
theorem dX8_make_70 : decode cX8_make 70 = .ok (.ifCond .ne 16, 3) := by decide +kernel
theorem dX8_make_73 : decode cX8_make 73 = .ok (.aload_n 0, 1) := by decide +kernel
theorem dX8_make_74 : decode cX8_make 74 = .ok (.aload_n 1, 1) := by decide +kernel
theorem dX8_make_75 : decode cX8_make 75 = .ok (.iload 4, 2) := by decide +kernel
theorem dX8_make_77 : decode cX8_make 77 = .ok (.iload_n 3, 1) := by decide +kernel
theorem dX8_make_78 : decode cX8_make 78 = .ok (.invokevirtual 64, 3) := by decide +kernel
theorem dX8_make_81 : decode cX8_make 81 = .ok (.ifCond .ne 5, 3) := by decide +kernel
theorem dX8_make_84 : decode cX8_make 84 = .ok (.iconst 0, 1) := by decide +kernel
theorem dX8_make_85 : decode cX8_make 85 = .ok (.ireturn, 1) := by decide +kernel
theorem dX8_make_86 : decode cX8_make 86 = .ok (.iinc 4 1, 3) := by decide +kernel
theorem dX8_make_89 : decode cX8_make 89 = .ok (.goto (-44), 3) := by decide +kernel
theorem dX8_make_92 : decode cX8_make 92 = .ok (.aload_n 0, 1) := by decide +kernel
theorem dX8_make_93 : decode cX8_make 93 = .ok (.iconst 1, 1) := by decide +kernel
theorem dX8_make_94 : decode cX8_make 94 = .ok (.putfield 31, 3) := by decide +kernel
theorem dX8_make_97 : decode cX8_make 97 = .ok (.iconst 1, 1) := by decide +kernel
theorem dX8_make_98 : decode cX8_make 98 = .ok (.ireturn, 1) := by decide +kernel
theorem dX8_branch_0 : decode cX8_branch 0 = .ok (.iconst 0, 1) := by decide +kernel
theorem dX8_branch_1 : decode cX8_branch 1 = .ok (.istore 4, 2) := by decide +kernel
theorem dX8_branch_3 : decode cX8_branch 3 = .ok (.iload 4, 2) := by decide +kernel
theorem dX8_branch_5 : decode cX8_branch 5 = .ok (.aload_n 1, 1) := by decide +kernel
theorem dX8_branch_6 : decode cX8_branch 6 = .ok (.getfield 68, 3) := by decide +kernel
theorem dX8_branch_9 : decode cX8_branch 9 = .ok (.if_icmp .ge 100, 3) := by decide +kernel
theorem dX8_branch_12 : decode cX8_branch 12 = .ok (.aload_n 0, 1) := by decide +kernel
theorem dX8_branch_13 : decode cX8_branch 13 = .ok (.getfield 14, 3) := by decide +kernel
theorem dX8_branch_16 : decode cX8_branch 16 = .ok (.iload_n 2, 1) := by decide +kernel
theorem dX8_branch_17 : decode cX8_branch 17 = .ok (.aload_n 0, 1) := by decide +kernel
theorem dX8_branch_18 : decode cX8_branch 18 = .ok (.getfield 23, 3) := by decide +kernel
theorem dX8_branch_21 : decode cX8_branch 21 = .ok (.invokevirtual 71, 3) := by decide +kernel
theorem dX8_branch_24 : decode cX8_branch 24 = .ok (.aload_n 1, 1) := by decide +kernel
theorem dX8_branch_25 : decode cX8_branch 25 = .ok (.aload_n 0, 1) := by decide +kernel
theorem dX8_branch_26 : decode cX8_branch 26 = .ok (.getfield 23, 3) := by decide +kernel
theorem dX8_branch_29 : decode cX8_branch 29 = .ok (.iload 4, 2) := by decide +kernel
theorem dX8_branch_31 : decode cX8_branch 31 = .ok (.invokevirtual 75, 3) := by decide +kernel
theorem dX8_branch_34 : decode cX8_branch 34 = .ok (.ifCond .eq 69, 3) := by decide +kernel
theorem dX8_branch_37 : decode cX8_branch 37 = .ok (.aload_n 0, 1) := by decide +kernel
theorem dX8_branch_38 : decode cX8_branch 38 = .ok (.getfield 14, 3) := by decide +kernel
theorem dX8_branch_41 : decode cX8_branch 41 = .ok (.getfield 43, 3) := by decide +kernel
theorem dX8_branch_44 : decode cX8_branch 44 = .ok (.iload_n 3, 1) := by decide +kernel
theorem dX8_branch_45 : decode cX8_branch 45 = .ok (.if_icmp .lt 5, 3) := by decide +kernel
theorem dX8_branch_48 : decode cX8_branch 48 = .ok (.iconst 0, 1) := by decide +kernel
theorem dX8_branch_49 : decode cX8_branch 49 = .ok (.ireturn, 1) := by decide +kernel
theorem dX8_branch_50 : decode cX8_branch 50 = .ok (.aload_n 1, 1) := by decide +kernel
theorem dX8_branch_51 : decode cX8_branch 51 = .ok (.aload_n 0, 1) := by decide +kernel
theorem dX8_branch_52 : decode cX8_branch 52 = .ok (.getfield 23, 3) := by decide +kernel
theorem dX8_branch_55 : decode cX8_branch 55 = .ok (.iload 4, 2) := by decide +kernel
theorem dX8_branch_57 : decode cX8_branch 57 = .ok (.invokevirtual 79, 3) := by decide +kernel
theorem dX8_branch_60 : decode cX8_branch 60 = .ok (.aload_n 0, 1) := by decide +kernel
theorem dX8_branch_61 : decode cX8_branch 61 = .ok (.iload_n 2, 1) := by decide +kernel
theorem dX8_branch_62 : decode cX8_branch 62 = .ok (.invokevirtual 83, 3) := by decide +kernel
theorem dX8_branch_65 : decode cX8_branch 65 = .ok (.istore 5, 2) := by decide +kernel
theorem dX8_branch_67 : decode cX8_branch 67 = .ok (.iload 5, 2) := by decide +kernel
theorem dX8_branch_69 : decode cX8_branch 69 = .ok (.ifCond .lt 27, 3) := by decide +kernel
theorem dX8_branch_72 : decode cX8_branch 72 = .ok (.aload_n 0, 1) := by decide +kernel
theorem dX8_branch_73 : decode cX8_branch 73 = .ok (.getfield 35, 3) := by decide +kernel
theorem dX8_branch_76 : decode cX8_branch 76 = .ok (.ifCond .ge 20, 3) := by decide +kernel
theorem dX8_branch_79 : decode cX8_branch 79 = .ok (.aload_n 0, 1) := by decide +kernel
theorem dX8_branch_80 : decode cX8_branch 80 = .ok (.aload_n 0, 1) := by decide +kernel
theorem dX8_branch_81 : decode cX8_branch 81 = .ok (.getfield 14, 3) := by decide +kernel
theorem dX8_branch_84 : decode cX8_branch 84 = .ok (.getfield 43, 3) := by decide +kernel
theorem dX8_branch_87 : decode cX8_branch 87 = .ok (.putfield 35, 3) := by decide +kernel
theorem dX8_branch_90 : decode cX8_branch 90 = .ok (.aload_n 0, 1) := by decide +kernel
theorem dX8_branch_91 : decode cX8_branch 91 = .ok (.iload 5, 2) := by decide +kernel
theorem dX8_branch_93 : decode cX8_branch 93 = .ok (.putfield 39, 3) := by decide +kernel
theorem dX8_branch_96 : decode cX8_branch 96 = .ok (.aload_n 0, 1) := by decide +kernel
theorem dX8_branch_97 : decode cX8_branch 97 = .ok (.iload_n 2, 1) := by decide +kernel
theorem dX8_branch_98 : decode cX8_branch 98 = .ok (.iload 4, 2) := by decide +kernel
theorem dX8_branch_100 : decode cX8_branch 100 = .ok (.invokevirtual 60, 3) := by decide +kernel
theorem dX8_branch_103 : decode cX8_branch 103 = .ok (.iinc 4 1, 3) := by decide +kernel
theorem dX8_branch_106 : decode cX8_branch 106 = .ok (.goto (-103), 3) := by decide +kernel
theorem dX8_branch_109 : decode cX8_branch 109 = .ok (.iconst 1, 1) := by decide +kernel
theorem dX8_branch_110 : decode cX8_branch 110 = .ok (.ireturn, 1) := by decide +kernel
theorem dX8_addChild_0 : decode cX8_addChild 0 = .ok (.aload_n 0, 1) := by decide +kernel
theorem dX8_addChild_1 : decode cX8_addChild 1 = .ok (.getfield 27, 3) := by decide +kernel
theorem dX8_addChild_4 : decode cX8_addChild 4 = .ok (.aload_n 0, 1) := by decide +kernel
theorem dX8_addChild_5 : decode cX8_addChild 5 = .ok (.getfield 14, 3) := by decide +kernel
theorem dX8_addChild_8 : decode cX8_addChild 8 = .ok (.getfield 43, 3) := by decide +kernel
theorem dX8_addChild_11 : decode cX8_addChild 11 = .ok (.aload_n 0, 1) := by decide +kernel
theorem dX8_addChild_12 : decode cX8_addChild 12 = .ok (.getfield 14, 3) := by decide +kernel
theorem dX8_addChild_15 : decode cX8_addChild 15 = .ok (.aload_n 0, 1) := by decide +kernel
theorem dX8_addChild_16 : decode cX8_addChild 16 = .ok (.getfield 23, 3) := by decide +kernel
theorem dX8_addChild_19 : decode cX8_addChild 19 = .ok (.invokevirtual 87, 3) := by decide +kernel
theorem dX8_addChild_22 : decode cX8_addChild 22 = .ok (.ifCond .lt 7, 3) := by decide +kernel
theorem dX8_addChild_25 : decode cX8_addChild 25 = .ok (.iconst 1, 1) := by decide +kernel
theorem dX8_addChild_26 : decode cX8_addChild 26 = .ok (.goto 4, 3) := by decide +kernel
theorem dX8_addChild_29 : decode cX8_addChild 29 = .ok (.iconst 0, 1) := by decide +kernel
theorem dX8_addChild_30 : decode cX8_addChild 30 = .ok (.iastore, 1) := by decide +kernel
theorem dX8_addChild_31 : decode cX8_addChild 31 = .ok (.aload_n 0, 1) := by decide +kernel
theorem dX8_addChild_32 : decode cX8_addChild 32 = .ok (.getfield 14, 3) := by decide +kernel
theorem dX8_addChild_35 : decode cX8_addChild 35 = .ok (.aload_n 0, 1) := by decide +kernel
theorem dX8_addChild_36 : decode cX8_addChild 36 = .ok (.getfield 23, 3) := by decide +kernel
theorem dX8_addChild_39 : decode cX8_addChild 39 = .ok (.iload_n 1, 1) := by decide +kernel
theorem dX8_addChild_40 : decode cX8_addChild 40 = .ok (.iload_n 2, 1) := by decide +kernel
theorem dX8_addChild_41 : decode cX8_addChild 41 = .ok (.invokevirtual 91, 3) := by decide +kernel
theorem dX8_addChild_44 : decode cX8_addChild 44 = .ok (.return_, 1) := by decide +kernel
theorem dX8_stretchAlong_0 : decode cX8_stretchAlong 0 = .ok (.iconst (-1), 1) := by decide +kernel
theorem dX8_stretchAlong_1 : decode cX8_stretchAlong 1 = .ok (.istore_n 2, 1) := by decide +kernel
theorem dX8_stretchAlong_2 : decode cX8_stretchAlong 2 = .ok (.iload_n 1, 1) := by decide +kernel
theorem dX8_stretchAlong_3 : decode cX8_stretchAlong 3 = .ok (.istore_n 3, 1) := by decide +kernel
theorem dX8_stretchAlong_4 : decode cX8_stretchAlong 4 = .ok (.aload_n 0, 1) := by decide +kernel
theorem dX8_stretchAlong_5 : decode cX8_stretchAlong 5 = .ok (.getfield 14, 3) := by decide +kernel
theorem dX8_stretchAlong_8 : decode cX8_stretchAlong 8 = .ok (.getfield 43, 3) := by decide +kernel
theorem dX8_stretchAlong_11 : decode cX8_stretchAlong 11 = .ok (.istore 4, 2) := by decide +kernel
theorem dX8_stretchAlong_13 : decode cX8_stretchAlong 13 = .ok (.iload 4, 2) := by decide +kernel
theorem dX8_stretchAlong_15 : decode cX8_stretchAlong 15 = .ok (.ifCond .le 52, 3) := by decide +kernel
theorem dX8_stretchAlong_18 : decode cX8_stretchAlong 18 = .ok (.iload_n 3, 1) := by decide +kernel
theorem dX8_stretchAlong_19 : decode cX8_stretchAlong 19 = .ok (.ifCond .lt 48, 3) := by decide +kernel
theorem dX8_stretchAlong_22 : decode cX8_stretchAlong 22 = .ok (.aload_n 0, 1) := by decide +kernel
theorem dX8_stretchAlong_23 : decode cX8_stretchAlong 23 = .ok (.getfield 14, 3) := by decide +kernel
theorem dX8_stretchAlong_26 : decode cX8_stretchAlong 26 = .ok (.iload_n 3, 1) := by decide +kernel
theorem dX8_stretchAlong_27 : decode cX8_stretchAlong 27 = .ok (.aload_n 0, 1) := by decide +kernel
theorem dX8_stretchAlong_28 : decode cX8_stretchAlong 28 = .ok (.getfield 23, 3) := by decide +kernel
theorem dX8_stretchAlong_31 : decode cX8_stretchAlong 31 = .ok (.invokevirtual 95, 3) := by decide +kernel
theorem dX8_stretchAlong_34 : decode cX8_stretchAlong 34 = .ok (.ifCond .eq 17, 3) := by decide +kernel
theorem dX8_stretchAlong_37 : decode cX8_stretchAlong 37 = .ok (.aload_n 0, 1) := by decide +kernel
theorem dX8_stretchAlong_38 : decode cX8_stretchAlong 38 = .ok (.iload_n 3, 1) := by decide +kernel
theorem dX8_stretchAlong_39 : decode cX8_stretchAlong 39 = .ok (.invokevirtual 99, 3) := by decide +kernel
theorem dX8_stretchAlong_42 : decode cX8_stretchAlong 42 = .ok (.ifCond .eq 9, 3) := by decide +kernel
theorem dX8_stretchAlong_45 : decode cX8_stretchAlong 45 = .ok (.iload_n 2, 1) := by decide +kernel
theorem dX8_stretchAlong_46 : decode cX8_stretchAlong 46 = .ok (.ifCond .ge 5, 3) := by decide +kernel
theorem dX8_stretchAlong_49 : decode cX8_stretchAlong 49 = .ok (.iload_n 3, 1) := by decide +kernel
theorem dX8_stretchAlong_50 : decode cX8_stretchAlong 50 = .ok (.istore_n 2, 1) := by decide +kernel
theorem dX8_stretchAlong_51 : decode cX8_stretchAlong 51 = .ok (.aload_n 0, 1) := by decide +kernel
theorem dX8_stretchAlong_52 : decode cX8_stretchAlong 52 = .ok (.getfield 14, 3) := by decide +kernel
theorem dX8_stretchAlong_55 : decode cX8_stretchAlong 55 = .ok (.getfield 103, 3) := by decide +kernel
theorem dX8_stretchAlong_58 : decode cX8_stretchAlong 58 = .ok (.iload_n 3, 1) := by decide +kernel
theorem dX8_stretchAlong_59 : decode cX8_stretchAlong 59 = .ok (.iaload, 1) := by decide +kernel
theorem dX8_stretchAlong_60 : decode cX8_stretchAlong 60 = .ok (.istore_n 3, 1) := by decide +kernel
theorem dX8_stretchAlong_61 : decode cX8_stretchAlong 61 = .ok (.iinc 4 (-1), 3) := by decide +kernel
theorem dX8_stretchAlong_64 : decode cX8_stretchAlong 64 = .ok (.goto (-51), 3) := by decide +kernel
theorem dX8_stretchAlong_67 : decode cX8_stretchAlong 67 = .ok (.iload_n 2, 1) := by decide +kernel
theorem dX8_stretchAlong_68 : decode cX8_stretchAlong 68 = .ok (.ireturn, 1) := by decide +kernel
theorem dX8_stretch_0 : decode cX8_stretch 0 = .ok (.iconst 0, 1) := by decide +kernel
theorem dX8_stretch_1 : decode cX8_stretch 1 = .ok (.istore_n 2, 1) := by decide +kernel
theorem dX8_stretch_2 : decode cX8_stretch 2 = .ok (.iconst 0, 1) := by decide +kernel
theorem dX8_stretch_3 : decode cX8_stretch 3 = .ok (.istore_n 3, 1) := by decide +kernel
theorem dX8_stretch_4 : decode cX8_stretch 4 = .ok (.iload_n 3, 1) := by decide +kernel
theorem dX8_stretch_5 : decode cX8_stretch 5 = .ok (.aload_n 0, 1) := by decide +kernel
theorem dX8_stretch_6 : decode cX8_stretch 6 = .ok (.getfield 14, 3) := by decide +kernel
theorem dX8_stretch_9 : decode cX8_stretch 9 = .ok (.getfield 106, 3) := by decide +kernel
theorem dX8_stretch_12 : decode cX8_stretch 12 = .ok (.if_icmp .ge 57, 3) := by decide +kernel
theorem dX8_stretch_15 : decode cX8_stretch 15 = .ok (.aload_n 0, 1) := by decide +kernel
theorem dX8_stretch_16 : decode cX8_stretch 16 = .ok (.getfield 23, 3) := by decide +kernel
theorem dX8_stretch_19 : decode cX8_stretch 19 = .ok (.getfield 109, 3) := by decide +kernel
theorem dX8_stretch_22 : decode cX8_stretch 22 = .ok (.iload_n 3, 1) := by decide +kernel
theorem dX8_stretch_23 : decode cX8_stretch 23 = .ok (.iaload, 1) := by decide +kernel
theorem dX8_stretch_24 : decode cX8_stretch 24 = .ok (.ldc 112, 2) := by decide +kernel
theorem dX8_stretch_26 : decode cX8_stretch 26 = .ok (.if_icmp .eq 37, 3) := by decide +kernel
theorem dX8_stretch_29 : decode cX8_stretch 29 = .ok (.aload_n 0, 1) := by decide +kernel
theorem dX8_stretch_30 : decode cX8_stretch 30 = .ok (.getfield 14, 3) := by decide +kernel
theorem dX8_stretch_33 : decode cX8_stretch 33 = .ok (.iload_n 1, 1) := by decide +kernel
theorem dX8_stretch_34 : decode cX8_stretch 34 = .ok (.iload_n 3, 1) := by decide +kernel
theorem dX8_stretch_35 : decode cX8_stretch 35 = .ok (.invokevirtual 113, 3) := by decide +kernel
theorem dX8_stretch_38 : decode cX8_stretch 38 = .ok (.aload_n 0, 1) := by decide +kernel
theorem dX8_stretch_39 : decode cX8_stretch 39 = .ok (.getfield 23, 3) := by decide +kernel
theorem dX8_stretch_42 : decode cX8_stretch 42 = .ok (.getfield 109, 3) := by decide +kernel
theorem dX8_stretch_45 : decode cX8_stretch 45 = .ok (.iload_n 3, 1) := by decide +kernel
theorem dX8_stretch_46 : decode cX8_stretch 46 = .ok (.iaload, 1) := by decide +kernel
theorem dX8_stretch_47 : decode cX8_stretch 47 = .ok (.if_icmp .ge 16, 3) := by decide +kernel
theorem dX8_stretch_50 : decode cX8_stretch 50 = .ok (.aload_n 0, 1) := by decide +kernel
theorem dX8_stretch_51 : decode cX8_stretch 51 = .ok (.getfield 23, 3) := by decide +kernel
theorem dX8_stretch_54 : decode cX8_stretch 54 = .ok (.getfield 109, 3) := by decide +kernel
theorem dX8_stretch_57 : decode cX8_stretch 57 = .ok (.iload_n 3, 1) := by decide +kernel
theorem dX8_stretch_58 : decode cX8_stretch 58 = .ok (.ldc 112, 2) := by decide +kernel
theorem dX8_stretch_60 : decode cX8_stretch 60 = .ok (.iastore, 1) := by decide +kernel
theorem dX8_stretch_61 : decode cX8_stretch 61 = .ok (.iconst 1, 1) := by decide +kernel
theorem dX8_stretch_62 : decode cX8_stretch 62 = .ok (.istore_n 2, 1) := by decide +kernel
theorem dX8_stretch_63 : decode cX8_stretch 63 = .ok (.iinc 3 1, 3) := by decide +kernel
theorem dX8_stretch_66 : decode cX8_stretch 66 = .ok (.goto (-62), 3) := by decide +kernel
theorem dX8_stretch_69 : decode cX8_stretch 69 = .ok (.iload_n 2, 1) := by decide +kernel
theorem dX8_stretch_70 : decode cX8_stretch 70 = .ok (.ireturn, 1) := by decide +kernel
theorem dX9_init_0 : decode cX9_init 0 = .ok (.aload_n 0, 1) := by decide +kernel
theorem dX9_init_1 : decode cX9_init 1 = .ok (.invokespecial 1, 3) := by decide +kernel
theorem dX9_init_4 : decode cX9_init 4 = .ok (.aload_n 0, 1) := by decide +kernel
theorem dX9_init_5 : decode cX9_init 5 = .ok (.new 7, 3) := by decide +kernel
theorem dX9_init_8 : decode cX9_init 8 = .ok (.dup, 1) := by decide +kernel
theorem dX9_init_9 : decode cX9_init 9 = .ok (.invokespecial 9, 3) := by decide +kernel
theorem dX9_init_12 : decode cX9_init 12 = .ok (.putfield 10, 3) := by decide +kernel
theorem dX9_init_15 : decode cX9_init 15 = .ok (.aload_n 0, 1) := by decide +kernel
theorem dX9_init_16 : decode cX9_init 16 = .ok (.new 16, 3) := by decide +kernel
theorem dX9_init_19 : decode cX9_init 19 = .ok (.dup, 1) := by decide +kernel
theorem dX9_init_20 : decode cX9_init 20 = .ok (.invokespecial 18, 3) := by decide +kernel
theorem dX9_init_23 : decode cX9_init 23 = .ok (.putfield 19, 3) := by decide +kernel
theorem dX9_init_26 : decode cX9_init 26 = .ok (.aload_n 0, 1) := by decide +kernel
theorem dX9_init_27 : decode cX9_init 27 = .ok (.new 16, 3) := by decide +kernel
theorem dX9_init_30 : decode cX9_init 30 = .ok (.dup, 1) := by decide +kernel
theorem dX9_init_31 : decode cX9_init 31 = .ok (.invokespecial 18, 3) := by decide +kernel
theorem dX9_init_34 : decode cX9_init 34 = .ok (.putfield 23, 3) := by decide +kernel
theorem dX9_init_37 : decode cX9_init 37 = .ok (.aload_n 0, 1) := by decide +kernel
theorem dX9_init_38 : decode cX9_init 38 = .ok (.new 26, 3) := by decide +kernel
theorem dX9_init_41 : decode cX9_init 41 = .ok (.dup, 1) := by decide +kernel
theorem dX9_init_42 : decode cX9_init 42 = .ok (.invokespecial 28, 3) := by decide +kernel
theorem dX9_init_45 : decode cX9_init 45 = .ok (.putfield 29, 3) := by decide +kernel
theorem dX9_init_48 : decode cX9_init 48 = .ok (.aload_n 0, 1) := by decide +kernel
theorem dX9_init_49 : decode cX9_init 49 = .ok (.new 33, 3) := by decide +kernel
theorem dX9_init_52 : decode cX9_init 52 = .ok (.dup, 1) := by decide +kernel
theorem dX9_init_53 : decode cX9_init 53 = .ok (.invokespecial 35, 3) := by decide +kernel
theorem dX9_init_56 : decode cX9_init 56 = .ok (.putfield 36, 3) := by decide +kernel
theorem dX9_init_59 : decode cX9_init 59 = .ok (.aload_n 0, 1) := by decide +kernel
theorem dX9_init_60 : decode cX9_init 60 = .ok (.new 40, 3) := by decide +kernel
theorem dX9_init_63 : decode cX9_init 63 = .ok (.dup, 1) := by decide +kernel
theorem dX9_init_64 : decode cX9_init 64 = .ok (.invokespecial 42, 3) := by decide +kernel
theorem dX9_init_67 : decode cX9_init 67 = .ok (.putfield 43, 3) := by decide +kernel
theorem dX9_init_70 : decode cX9_init 70 = .ok (.aload_n 0, 1) := by decide +kernel
theorem dX9_init_71 : decode cX9_init 71 = .ok (.new 47, 3) := by decide +kernel
theorem dX9_init_74 : decode cX9_init 74 = .ok (.dup, 1) := by decide +kernel
theorem dX9_init_75 : decode cX9_init 75 = .ok (.invokespecial 49, 3) := by decide +kernel
theorem dX9_init_78 : decode cX9_init 78 = .ok (.putfield 50, 3) := by decide +kernel
theorem dX9_init_81 : decode cX9_init 81 = .ok (.aload_n 0, 1) := by decide +kernel
theorem dX9_init_82 : decode cX9_init 82 = .ok (.new 54, 3) := by decide +kernel
theorem dX9_init_85 : decode cX9_init 85 = .ok (.dup, 1) := by decide +kernel
theorem dX9_init_86 : decode cX9_init 86 = .ok (.invokespecial 56, 3) := by decide +kernel
theorem dX9_init_89 : decode cX9_init 89 = .ok (.putfield 57, 3) := by decide +kernel
theorem dX9_init_92 : decode cX9_init 92 = .ok (.aload_n 0, 1) := by decide +kernel
theorem dX9_init_93 : decode cX9_init 93 = .ok (.new 54, 3) := by decide +kernel
theorem dX9_init_96 : decode cX9_init 96 = .ok (.dup, 1) := by decide +kernel
theorem dX9_init_97 : decode cX9_init 97 = .ok (.invokespecial 56, 3) := by decide +kernel
theorem dX9_init_100 : decode cX9_init 100 = .ok (.putfield 61, 3) := by decide +kernel
theorem dX9_init_103 : decode cX9_init 103 = .ok (.aload_n 0, 1) := by decide +kernel
theorem dX9_init_104 : decode cX9_init 104 = .ok (.new 64, 3) := by decide +kernel
theorem dX9_init_107 : decode cX9_init 107 = .ok (.dup, 1) := by decide +kernel
theorem dX9_init_108 : decode cX9_init 108 = .ok (.invokespecial 66, 3) := by decide +kernel
theorem dX9_init_111 : decode cX9_init 111 = .ok (.putfield 67, 3) := by decide +kernel
theorem dX9_init_114 : decode cX9_init 114 = .ok (.aload_n 0, 1) := by decide +kernel
theorem dX9_init_115 : decode cX9_init 115 = .ok (.iconst 0, 1) := by decide +kernel
theorem dX9_init_116 : decode cX9_init 116 = .ok (.putfield 71, 3) := by decide +kernel
theorem dX9_init_119 : decode cX9_init 119 = .ok (.aload_n 0, 1) := by decide +kernel
theorem dX9_init_120 : decode cX9_init 120 = .ok (.ldc 75, 2) := by decide +kernel
theorem dX9_init_122 : decode cX9_init 122 = .ok (.putfield 76, 3) := by decide +kernel
theorem dX9_init_125 : decode cX9_init 125 = .ok (.return_, 1) := by decide +kernel
theorem dX9_place_0 : decode cX9_place 0 = .ok (.iload_n 1, 1) := by decide +kernel
theorem dX9_place_1 : decode cX9_place 1 = .ok (.ifCond .lt 8, 3) := by decide +kernel
theorem dX9_place_4 : decode cX9_place 4 = .ok (.iload_n 1, 1) := by decide +kernel
theorem dX9_place_5 : decode cX9_place 5 = .ok (.iconst 1, 1) := by decide +kernel
theorem dX9_place_6 : decode cX9_place 6 = .ok (.if_icmp .le 6, 3) := by decide +kernel
theorem dX9_place_9 : decode cX9_place 9 = .ok (.ldc 79, 2) := by decide +kernel
theorem dX9_place_11 : decode cX9_place 11 = .ok (.ireturn, 1) := by decide +kernel
theorem dX9_place_12 : decode cX9_place 12 = .ok (.aload_n 0, 1) := by decide +kernel
theorem dX9_place_13 : decode cX9_place 13 = .ok (.getfield 10, 3) := by decide +kernel
theorem dX9_place_16 : decode cX9_place 16 = .ok (.getfield 80, 3) := by decide +kernel
theorem dX9_place_19 : decode cX9_place 19 = .ok (.bipush 16, 2) := by decide +kernel
theorem dX9_place_21 : decode cX9_place 21 = .ok (.if_icmp .lt 6, 3) := by decide +kernel
theorem dX9_place_24 : decode cX9_place 24 = .ok (.ldc 83, 2) := by decide +kernel
theorem dX9_place_26 : decode cX9_place 26 = .ok (.ireturn, 1) := by decide +kernel
theorem dX9_place_27 : decode cX9_place 27 = .ok (.aload_n 0, 1) := by decide +kernel
theorem dX9_place_28 : decode cX9_place 28 = .ok (.getfield 10, 3) := by decide +kernel
theorem dX9_place_31 : decode cX9_place 31 = .ok (.iload_n 1, 1) := by decide +kernel
theorem dX9_place_32 : decode cX9_place 32 = .ok (.invokevirtual 84, 3) := by decide +kernel
theorem dX9_place_35 : decode cX9_place 35 = .ok (.aload_n 0, 1) := by decide +kernel
theorem dX9_place_36 : decode cX9_place 36 = .ok (.invokevirtual 88, 3) := by decide +kernel
theorem dX9_place_39 : decode cX9_place 39 = .ok (.aload_n 0, 1) := by decide +kernel
theorem dX9_place_40 : decode cX9_place 40 = .ok (.getfield 10, 3) := by decide +kernel
theorem dX9_place_43 : decode cX9_place 43 = .ok (.getfield 80, 3) := by decide +kernel
theorem dX9_place_46 : decode cX9_place 46 = .ok (.iconst 1, 1) := by decide +kernel
theorem dX9_place_47 : decode cX9_place 47 = .ok (.isub, 1) := by decide +kernel
theorem dX9_place_48 : decode cX9_place 48 = .ok (.ireturn, 1) := by decide +kernel
theorem dX9_step_0 : decode cX9_step 0 = .ok (.iload_n 1, 1) := by decide +kernel
theorem dX9_step_1 : decode cX9_step 1 = .ok (.ifCond .lt 8, 3) := by decide +kernel
theorem dX9_step_4 : decode cX9_step 4 = .ok (.iload_n 1, 1) := by decide +kernel
theorem dX9_step_5 : decode cX9_step 5 = .ok (.iconst 3, 1) := by decide +kernel
theorem dX9_step_6 : decode cX9_step 6 = .ok (.if_icmp .le 6, 3) := by decide +kernel
theorem dX9_step_9 : decode cX9_step 9 = .ok (.ldc 79, 2) := by decide +kernel
theorem dX9_step_11 : decode cX9_step 11 = .ok (.ireturn, 1) := by decide +kernel
theorem dX9_step_12 : decode cX9_step 12 = .ok (.aload_n 0, 1) := by decide +kernel
theorem dX9_step_13 : decode cX9_step 13 = .ok (.getfield 10, 3) := by decide +kernel
theorem dX9_step_16 : decode cX9_step 16 = .ok (.getfield 91, 3) := by decide +kernel
theorem dX9_step_19 : decode cX9_step 19 = .ok (.bipush 16, 2) := by decide +kernel
theorem dX9_step_21 : decode cX9_step 21 = .ok (.if_icmp .lt 6, 3) := by decide +kernel
theorem dX9_step_24 : decode cX9_step 24 = .ok (.ldc 83, 2) := by decide +kernel
theorem dX9_step_26 : decode cX9_step 26 = .ok (.ireturn, 1) := by decide +kernel
theorem dX9_step_27 : decode cX9_step 27 = .ok (.aload_n 0, 1) := by decide +kernel
theorem dX9_step_28 : decode cX9_step 28 = .ok (.getfield 10, 3) := by decide +kernel
theorem dX9_step_31 : decode cX9_step 31 = .ok (.iload_n 1, 1) := by decide +kernel
theorem dX9_step_32 : decode cX9_step 32 = .ok (.invokevirtual 94, 3) := by decide +kernel
theorem dX9_step_35 : decode cX9_step 35 = .ok (.aload_n 0, 1) := by decide +kernel
theorem dX9_step_36 : decode cX9_step 36 = .ok (.invokevirtual 88, 3) := by decide +kernel
theorem dX9_step_39 : decode cX9_step 39 = .ok (.aload_n 0, 1) := by decide +kernel
theorem dX9_step_40 : decode cX9_step 40 = .ok (.getfield 10, 3) := by decide +kernel
theorem dX9_step_43 : decode cX9_step 43 = .ok (.getfield 91, 3) := by decide +kernel
theorem dX9_step_46 : decode cX9_step 46 = .ok (.iconst 1, 1) := by decide +kernel
theorem dX9_step_47 : decode cX9_step 47 = .ok (.isub, 1) := by decide +kernel
theorem dX9_step_48 : decode cX9_step 48 = .ok (.ireturn, 1) := by decide +kernel
theorem dX9_arc_0 : decode cX9_arc 0 = .ok (.aload_n 0, 1) := by decide +kernel
theorem dX9_arc_1 : decode cX9_arc 1 = .ok (.getfield 10, 3) := by decide +kernel
theorem dX9_arc_4 : decode cX9_arc 4 = .ok (.iload_n 1, 1) := by decide +kernel
theorem dX9_arc_5 : decode cX9_arc 5 = .ok (.iload_n 2, 1) := by decide +kernel
theorem dX9_arc_6 : decode cX9_arc 6 = .ok (.invokevirtual 97, 3) := by decide +kernel
theorem dX9_arc_9 : decode cX9_arc 9 = .ok (.ifCond .eq 18, 3) := by decide +kernel
theorem dX9_arc_12 : decode cX9_arc 12 = .ok (.iload_n 3, 1) := by decide +kernel
theorem dX9_arc_13 : decode cX9_arc 13 = .ok (.invokestatic 101, 3) := by decide +kernel
theorem dX9_arc_16 : decode cX9_arc 16 = .ok (.ifCond .eq 11, 3) := by decide +kernel
theorem dX9_arc_19 : decode cX9_arc 19 = .ok (.iload 4, 2) := by decide +kernel
theorem dX9_arc_21 : decode cX9_arc 21 = .ok (.invokestatic 101, 3) := by decide +kernel
theorem dX9_arc_24 : decode cX9_arc 24 = .ok (.ifCond .ne 6, 3) := by decide +kernel
theorem dX9_arc_27 : decode cX9_arc 27 = .ok (.ldc 79, 2) := by decide +kernel
theorem dX9_arc_29 : decode cX9_arc 29 = .ok (.ireturn, 1) := by decide +kernel
theorem dX9_arc_30 : decode cX9_arc 30 = .ok (.aload_n 0, 1) := by decide +kernel
theorem dX9_arc_31 : decode cX9_arc 31 = .ok (.getfield 10, 3) := by decide +kernel
theorem dX9_arc_34 : decode cX9_arc 34 = .ok (.iload_n 1, 1) := by decide +kernel
theorem dX9_arc_35 : decode cX9_arc 35 = .ok (.iload_n 2, 1) := by decide +kernel
theorem dX9_arc_36 : decode cX9_arc 36 = .ok (.iload_n 3, 1) := by decide +kernel
theorem dX9_arc_37 : decode cX9_arc 37 = .ok (.iload 4, 2) := by decide +kernel
theorem dX9_arc_39 : decode cX9_arc 39 = .ok (.invokevirtual 105, 3) := by decide +kernel
theorem dX9_arc_42 : decode cX9_arc 42 = .ok (.aload_n 0, 1) := by decide +kernel
theorem dX9_arc_43 : decode cX9_arc 43 = .ok (.invokevirtual 88, 3) := by decide +kernel
theorem dX9_arc_46 : decode cX9_arc 46 = .ok (.iconst 0, 1) := by decide +kernel
theorem dX9_arc_47 : decode cX9_arc 47 = .ok (.ireturn, 1) := by decide +kernel
theorem dX9_need_0 : decode cX9_need 0 = .ok (.aload_n 0, 1) := by decide +kernel
theorem dX9_need_1 : decode cX9_need 1 = .ok (.getfield 10, 3) := by decide +kernel
theorem dX9_need_4 : decode cX9_need 4 = .ok (.iload_n 1, 1) := by decide +kernel
theorem dX9_need_5 : decode cX9_need 5 = .ok (.iload_n 2, 1) := by decide +kernel
theorem dX9_need_6 : decode cX9_need 6 = .ok (.invokevirtual 97, 3) := by decide +kernel
theorem dX9_need_9 : decode cX9_need 9 = .ok (.ifCond .eq 10, 3) := by decide +kernel
theorem dX9_need_12 : decode cX9_need 12 = .ok (.iload_n 3, 1) := by decide +kernel
theorem dX9_need_13 : decode cX9_need 13 = .ok (.invokestatic 101, 3) := by decide +kernel
theorem dX9_need_16 : decode cX9_need 16 = .ok (.ifCond .ne 6, 3) := by decide +kernel
theorem dX9_need_19 : decode cX9_need 19 = .ok (.ldc 79, 2) := by decide +kernel
theorem dX9_need_21 : decode cX9_need 21 = .ok (.ireturn, 1) := by decide +kernel
theorem dX9_need_22 : decode cX9_need 22 = .ok (.aload_n 0, 1) := by decide +kernel
theorem dX9_need_23 : decode cX9_need 23 = .ok (.getfield 10, 3) := by decide +kernel
theorem dX9_need_26 : decode cX9_need 26 = .ok (.getfield 109, 3) := by decide +kernel
theorem dX9_need_29 : decode cX9_need 29 = .ok (.iload_n 1, 1) := by decide +kernel
theorem dX9_need_30 : decode cX9_need 30 = .ok (.iaload, 1) := by decide +kernel
theorem dX9_need_31 : decode cX9_need 31 = .ok (.iconst 1, 1) := by decide +kernel
theorem dX9_need_32 : decode cX9_need 32 = .ok (.if_icmp .ge 6, 3) := by decide +kernel
theorem dX9_need_35 : decode cX9_need 35 = .ok (.ldc 113, 2) := by decide +kernel
theorem dX9_need_37 : decode cX9_need 37 = .ok (.ireturn, 1) := by decide +kernel
theorem dX9_need_38 : decode cX9_need 38 = .ok (.aload_n 0, 1) := by decide +kernel
theorem dX9_need_39 : decode cX9_need 39 = .ok (.getfield 10, 3) := by decide +kernel
theorem dX9_need_42 : decode cX9_need 42 = .ok (.iload_n 1, 1) := by decide +kernel
theorem dX9_need_43 : decode cX9_need 43 = .ok (.iload_n 2, 1) := by decide +kernel
theorem dX9_need_44 : decode cX9_need 44 = .ok (.iload_n 3, 1) := by decide +kernel
theorem dX9_need_45 : decode cX9_need 45 = .ok (.invokevirtual 114, 3) := by decide +kernel
theorem dX9_need_48 : decode cX9_need 48 = .ok (.aload_n 0, 1) := by decide +kernel
theorem dX9_need_49 : decode cX9_need 49 = .ok (.invokevirtual 88, 3) := by decide +kernel
theorem dX9_need_52 : decode cX9_need 52 = .ok (.iconst 0, 1) := by decide +kernel
theorem dX9_need_53 : decode cX9_need 53 = .ok (.ireturn, 1) := by decide +kernel
theorem dX9_close_0 : decode cX9_close 0 = .ok (.aload_n 0, 1) := by decide +kernel
theorem dX9_close_1 : decode cX9_close 1 = .ok (.getfield 10, 3) := by decide +kernel
theorem dX9_close_4 : decode cX9_close 4 = .ok (.iload_n 1, 1) := by decide +kernel
theorem dX9_close_5 : decode cX9_close 5 = .ok (.iload_n 2, 1) := by decide +kernel
theorem dX9_close_6 : decode cX9_close 6 = .ok (.invokevirtual 97, 3) := by decide +kernel
theorem dX9_close_9 : decode cX9_close 9 = .ok (.ifCond .eq 12, 3) := by decide +kernel
theorem dX9_close_12 : decode cX9_close 12 = .ok (.iload_n 3, 1) := by decide +kernel
theorem dX9_close_13 : decode cX9_close 13 = .ok (.ifCond .lt 8, 3) := by decide +kernel
theorem dX9_close_16 : decode cX9_close 16 = .ok (.iload_n 3, 1) := by decide +kernel
theorem dX9_close_17 : decode cX9_close 17 = .ok (.iconst 1, 1) := by decide +kernel
theorem dX9_close_18 : decode cX9_close 18 = .ok (.if_icmp .le 6, 3) := by decide +kernel
theorem dX9_close_21 : decode cX9_close 21 = .ok (.ldc 79, 2) := by decide +kernel
theorem dX9_close_23 : decode cX9_close 23 = .ok (.ireturn, 1) := by decide +kernel
theorem dX9_close_24 : decode cX9_close 24 = .ok (.aload_n 0, 1) := by decide +kernel
theorem dX9_close_25 : decode cX9_close 25 = .ok (.getfield 10, 3) := by decide +kernel
theorem dX9_close_28 : decode cX9_close 28 = .ok (.getfield 109, 3) := by decide +kernel
theorem dX9_close_31 : decode cX9_close 31 = .ok (.iload_n 1, 1) := by decide +kernel
theorem dX9_close_32 : decode cX9_close 32 = .ok (.iaload, 1) := by decide +kernel
theorem dX9_close_33 : decode cX9_close 33 = .ok (.iconst 2, 1) := by decide +kernel
theorem dX9_close_34 : decode cX9_close 34 = .ok (.if_icmp .ge 6, 3) := by decide +kernel
theorem dX9_close_37 : decode cX9_close 37 = .ok (.ldc 113, 2) := by decide +kernel
theorem dX9_close_39 : decode cX9_close 39 = .ok (.ireturn, 1) := by decide +kernel
theorem dX9_close_40 : decode cX9_close 40 = .ok (.aload_n 0, 1) := by decide +kernel
theorem dX9_close_41 : decode cX9_close 41 = .ok (.getfield 10, 3) := by decide +kernel
theorem dX9_close_44 : decode cX9_close 44 = .ok (.iload_n 1, 1) := by decide +kernel
theorem dX9_close_45 : decode cX9_close 45 = .ok (.iload_n 2, 1) := by decide +kernel
theorem dX9_close_46 : decode cX9_close 46 = .ok (.iload_n 3, 1) := by decide +kernel
theorem dX9_close_47 : decode cX9_close 47 = .ok (.invokevirtual 118, 3) := by decide +kernel
theorem dX9_close_50 : decode cX9_close 50 = .ok (.aload_n 0, 1) := by decide +kernel
theorem dX9_close_51 : decode cX9_close 51 = .ok (.invokevirtual 88, 3) := by decide +kernel
theorem dX9_close_54 : decode cX9_close 54 = .ok (.iconst 0, 1) := by decide +kernel
theorem dX9_close_55 : decode cX9_close 55 = .ok (.ireturn, 1) := by decide +kernel
theorem dX9_want_0 : decode cX9_want 0 = .ok (.aload_n 0, 1) := by decide +kernel
theorem dX9_want_1 : decode cX9_want 1 = .ok (.getfield 10, 3) := by decide +kernel
theorem dX9_want_4 : decode cX9_want 4 = .ok (.iload_n 1, 1) := by decide +kernel
theorem dX9_want_5 : decode cX9_want 5 = .ok (.iload_n 2, 1) := by decide +kernel
theorem dX9_want_6 : decode cX9_want 6 = .ok (.invokevirtual 97, 3) := by decide +kernel
theorem dX9_want_9 : decode cX9_want 9 = .ok (.ifCond .eq 18, 3) := by decide +kernel
theorem dX9_want_12 : decode cX9_want 12 = .ok (.iload_n 3, 1) := by decide +kernel
theorem dX9_want_13 : decode cX9_want 13 = .ok (.invokestatic 121, 3) := by decide +kernel
theorem dX9_want_16 : decode cX9_want 16 = .ok (.ifCond .eq 11, 3) := by decide +kernel
theorem dX9_want_19 : decode cX9_want 19 = .ok (.iload 4, 2) := by decide +kernel
theorem dX9_want_21 : decode cX9_want 21 = .ok (.invokestatic 121, 3) := by decide +kernel
theorem dX9_want_24 : decode cX9_want 24 = .ok (.ifCond .ne 6, 3) := by decide +kernel
theorem dX9_want_27 : decode cX9_want 27 = .ok (.ldc 79, 2) := by decide +kernel
theorem dX9_want_29 : decode cX9_want 29 = .ok (.ireturn, 1) := by decide +kernel
theorem dX9_want_30 : decode cX9_want 30 = .ok (.aload_n 0, 1) := by decide +kernel
theorem dX9_want_31 : decode cX9_want 31 = .ok (.getfield 10, 3) := by decide +kernel
theorem dX9_want_34 : decode cX9_want 34 = .ok (.iload_n 2, 1) := by decide +kernel
theorem dX9_want_35 : decode cX9_want 35 = .ok (.invokevirtual 124, 3) := by decide +kernel
theorem dX9_want_38 : decode cX9_want 38 = .ok (.ifCond .ne 6, 3) := by decide +kernel
theorem dX9_want_41 : decode cX9_want 41 = .ok (.ldc 113, 2) := by decide +kernel
theorem dX9_want_43 : decode cX9_want 43 = .ok (.ireturn, 1) := by decide +kernel
theorem dX9_want_44 : decode cX9_want 44 = .ok (.aload_n 0, 1) := by decide +kernel
theorem dX9_want_45 : decode cX9_want 45 = .ok (.getfield 10, 3) := by decide +kernel
theorem dX9_want_48 : decode cX9_want 48 = .ok (.getfield 127, 3) := by decide +kernel
theorem dX9_want_51 : decode cX9_want 51 = .ok (.iload_n 1, 1) := by decide +kernel
theorem dX9_want_52 : decode cX9_want 52 = .ok (.iload_n 2, 1) := by decide +kernel
theorem dX9_want_53 : decode cX9_want 53 = .ok (.invokestatic 130, 3) := by decide +kernel
theorem dX9_want_56 : decode cX9_want 56 = .ok (.iload_n 3, 1) := by decide +kernel
theorem dX9_want_57 : decode cX9_want 57 = .ok (.iastore, 1) := by decide +kernel
theorem dX9_want_58 : decode cX9_want 58 = .ok (.aload_n 0, 1) := by decide +kernel
theorem dX9_want_59 : decode cX9_want 59 = .ok (.getfield 10, 3) := by decide +kernel
theorem dX9_want_62 : decode cX9_want 62 = .ok (.getfield 134, 3) := by decide +kernel
theorem dX9_want_65 : decode cX9_want 65 = .ok (.iload_n 1, 1) := by decide +kernel
theorem dX9_want_66 : decode cX9_want 66 = .ok (.iload_n 2, 1) := by decide +kernel
theorem dX9_want_67 : decode cX9_want 67 = .ok (.invokestatic 130, 3) := by decide +kernel
theorem dX9_want_70 : decode cX9_want 70 = .ok (.iload 4, 2) := by decide +kernel
theorem dX9_want_72 : decode cX9_want 72 = .ok (.iastore, 1) := by decide +kernel
theorem dX9_want_73 : decode cX9_want 73 = .ok (.aload_n 0, 1) := by decide +kernel
theorem dX9_want_74 : decode cX9_want 74 = .ok (.invokevirtual 88, 3) := by decide +kernel
theorem dX9_want_77 : decode cX9_want 77 = .ok (.iconst 0, 1) := by decide +kernel
theorem dX9_want_78 : decode cX9_want 78 = .ok (.ireturn, 1) := by decide +kernel
theorem dX9_asks_0 : decode cX9_asks 0 = .ok (.aload_n 0, 1) := by decide +kernel
theorem dX9_asks_1 : decode cX9_asks 1 = .ok (.getfield 10, 3) := by decide +kernel
theorem dX9_asks_4 : decode cX9_asks 4 = .ok (.iload_n 1, 1) := by decide +kernel
theorem dX9_asks_5 : decode cX9_asks 5 = .ok (.iload_n 2, 1) := by decide +kernel
theorem dX9_asks_6 : decode cX9_asks 6 = .ok (.invokevirtual 97, 3) := by decide +kernel
theorem dX9_asks_9 : decode cX9_asks 9 = .ok (.ifCond .ne 6, 3) := by decide +kernel
theorem dX9_asks_12 : decode cX9_asks 12 = .ok (.ldc 79, 2) := by decide +kernel
theorem dX9_asks_14 : decode cX9_asks 14 = .ok (.ireturn, 1) := by decide +kernel
theorem dX9_asks_15 : decode cX9_asks 15 = .ok (.iload_n 1, 1) := by decide +kernel
theorem dX9_asks_16 : decode cX9_asks 16 = .ok (.iload_n 2, 1) := by decide +kernel
theorem dX9_asks_17 : decode cX9_asks 17 = .ok (.invokestatic 130, 3) := by decide +kernel
theorem dX9_asks_20 : decode cX9_asks 20 = .ok (.istore 4, 2) := by decide +kernel
theorem dX9_asks_22 : decode cX9_asks 22 = .ok (.iload_n 3, 1) := by decide +kernel
theorem dX9_asks_23 : decode cX9_asks 23 = .ok (.tableswitch 103 0 5 #[37, 48, 59, 70, 81, 92], 37) := by decide +kernel
theorem dX9_asks_60 : decode cX9_asks 60 = .ok (.aload_n 0, 1) := by decide +kernel
theorem dX9_asks_61 : decode cX9_asks 61 = .ok (.getfield 10, 3) := by decide +kernel
theorem dX9_asks_64 : decode cX9_asks 64 = .ok (.getfield 137, 3) := by decide +kernel
theorem dX9_asks_67 : decode cX9_asks 67 = .ok (.iload 4, 2) := by decide +kernel
theorem dX9_asks_69 : decode cX9_asks 69 = .ok (.iaload, 1) := by decide +kernel
theorem dX9_asks_70 : decode cX9_asks 70 = .ok (.ireturn, 1) := by decide +kernel
theorem dX9_asks_71 : decode cX9_asks 71 = .ok (.aload_n 0, 1) := by decide +kernel
theorem dX9_asks_72 : decode cX9_asks 72 = .ok (.getfield 10, 3) := by decide +kernel
theorem dX9_asks_75 : decode cX9_asks 75 = .ok (.getfield 140, 3) := by decide +kernel
theorem dX9_asks_78 : decode cX9_asks 78 = .ok (.iload 4, 2) := by decide +kernel
theorem dX9_asks_80 : decode cX9_asks 80 = .ok (.iaload, 1) := by decide +kernel
theorem dX9_asks_81 : decode cX9_asks 81 = .ok (.ireturn, 1) := by decide +kernel
theorem dX9_asks_82 : decode cX9_asks 82 = .ok (.aload_n 0, 1) := by decide +kernel
theorem dX9_asks_83 : decode cX9_asks 83 = .ok (.getfield 10, 3) := by decide +kernel
theorem dX9_asks_86 : decode cX9_asks 86 = .ok (.getfield 143, 3) := by decide +kernel
theorem dX9_asks_89 : decode cX9_asks 89 = .ok (.iload 4, 2) := by decide +kernel
theorem dX9_asks_91 : decode cX9_asks 91 = .ok (.iaload, 1) := by decide +kernel
theorem dX9_asks_92 : decode cX9_asks 92 = .ok (.ireturn, 1) := by decide +kernel
theorem dX9_asks_93 : decode cX9_asks 93 = .ok (.aload_n 0, 1) := by decide +kernel
theorem dX9_asks_94 : decode cX9_asks 94 = .ok (.getfield 10, 3) := by decide +kernel
theorem dX9_asks_97 : decode cX9_asks 97 = .ok (.getfield 146, 3) := by decide +kernel
theorem dX9_asks_100 : decode cX9_asks 100 = .ok (.iload 4, 2) := by decide +kernel
theorem dX9_asks_102 : decode cX9_asks 102 = .ok (.iaload, 1) := by decide +kernel
theorem dX9_asks_103 : decode cX9_asks 103 = .ok (.ireturn, 1) := by decide +kernel
theorem dX9_asks_104 : decode cX9_asks 104 = .ok (.aload_n 0, 1) := by decide +kernel
theorem dX9_asks_105 : decode cX9_asks 105 = .ok (.getfield 10, 3) := by decide +kernel
theorem dX9_asks_108 : decode cX9_asks 108 = .ok (.getfield 127, 3) := by decide +kernel
theorem dX9_asks_111 : decode cX9_asks 111 = .ok (.iload 4, 2) := by decide +kernel
theorem dX9_asks_113 : decode cX9_asks 113 = .ok (.iaload, 1) := by decide +kernel
theorem dX9_asks_114 : decode cX9_asks 114 = .ok (.ireturn, 1) := by decide +kernel
theorem dX9_asks_115 : decode cX9_asks 115 = .ok (.aload_n 0, 1) := by decide +kernel
theorem dX9_asks_116 : decode cX9_asks 116 = .ok (.getfield 10, 3) := by decide +kernel
theorem dX9_asks_119 : decode cX9_asks 119 = .ok (.getfield 134, 3) := by decide +kernel
theorem dX9_asks_122 : decode cX9_asks 122 = .ok (.iload 4, 2) := by decide +kernel
theorem dX9_asks_124 : decode cX9_asks 124 = .ok (.iaload, 1) := by decide +kernel
theorem dX9_asks_125 : decode cX9_asks 125 = .ok (.ireturn, 1) := by decide +kernel
theorem dX9_asks_126 : decode cX9_asks 126 = .ok (.ldc 79, 2) := by decide +kernel
theorem dX9_asks_128 : decode cX9_asks 128 = .ok (.ireturn, 1) := by decide +kernel
theorem dX9_isOf_0 : decode cX9_isOf 0 = .ok (.aload_n 0, 1) := by decide +kernel
theorem dX9_isOf_1 : decode cX9_isOf 1 = .ok (.getfield 10, 3) := by decide +kernel
theorem dX9_isOf_4 : decode cX9_isOf 4 = .ok (.iload_n 1, 1) := by decide +kernel
theorem dX9_isOf_5 : decode cX9_isOf 5 = .ok (.invokevirtual 149, 3) := by decide +kernel
theorem dX9_isOf_8 : decode cX9_isOf 8 = .ok (.ifCond .eq 12, 3) := by decide +kernel
theorem dX9_isOf_11 : decode cX9_isOf 11 = .ok (.iload_n 2, 1) := by decide +kernel
theorem dX9_isOf_12 : decode cX9_isOf 12 = .ok (.ifCond .lt 8, 3) := by decide +kernel
theorem dX9_isOf_15 : decode cX9_isOf 15 = .ok (.iload_n 2, 1) := by decide +kernel
theorem dX9_isOf_16 : decode cX9_isOf 16 = .ok (.iconst 3, 1) := by decide +kernel
theorem dX9_isOf_17 : decode cX9_isOf 17 = .ok (.if_icmp .le 6, 3) := by decide +kernel
theorem dX9_isOf_20 : decode cX9_isOf 20 = .ok (.ldc 79, 2) := by decide +kernel
theorem dX9_isOf_22 : decode cX9_isOf 22 = .ok (.ireturn, 1) := by decide +kernel
theorem dX9_isOf_23 : decode cX9_isOf 23 = .ok (.aload_n 0, 1) := by decide +kernel
theorem dX9_isOf_24 : decode cX9_isOf 24 = .ok (.getfield 10, 3) := by decide +kernel
theorem dX9_isOf_27 : decode cX9_isOf 27 = .ok (.getfield 109, 3) := by decide +kernel
theorem dX9_isOf_30 : decode cX9_isOf 30 = .ok (.iload_n 1, 1) := by decide +kernel
theorem dX9_isOf_31 : decode cX9_isOf 31 = .ok (.iaload, 1) := by decide +kernel
theorem dX9_isOf_32 : decode cX9_isOf 32 = .ok (.iload_n 2, 1) := by decide +kernel
theorem dX9_isOf_33 : decode cX9_isOf 33 = .ok (.if_icmp .lt 7, 3) := by decide +kernel
theorem dX9_isOf_36 : decode cX9_isOf 36 = .ok (.iconst 1, 1) := by decide +kernel
theorem dX9_isOf_37 : decode cX9_isOf 37 = .ok (.goto 4, 3) := by decide +kernel
theorem dX9_isOf_40 : decode cX9_isOf 40 = .ok (.iconst 0, 1) := by decide +kernel
theorem dX9_isOf_41 : decode cX9_isOf 41 = .ok (.ireturn, 1) := by decide +kernel
theorem dX9_mark_0 : decode cX9_mark 0 = .ok (.aload_n 0, 1) := by decide +kernel
theorem dX9_mark_1 : decode cX9_mark 1 = .ok (.getfield 10, 3) := by decide +kernel
theorem dX9_mark_4 : decode cX9_mark 4 = .ok (.iload_n 1, 1) := by decide +kernel
theorem dX9_mark_5 : decode cX9_mark 5 = .ok (.invokevirtual 152, 3) := by decide +kernel
theorem dX9_mark_8 : decode cX9_mark 8 = .ok (.ifCond .eq 13, 3) := by decide +kernel
theorem dX9_mark_11 : decode cX9_mark 11 = .ok (.iload_n 2, 1) := by decide +kernel
theorem dX9_mark_12 : decode cX9_mark 12 = .ok (.ifCond .lt 9, 3) := by decide +kernel
theorem dX9_mark_15 : decode cX9_mark 15 = .ok (.iload_n 2, 1) := by decide +kernel
theorem dX9_mark_16 : decode cX9_mark 16 = .ok (.ldc 155, 2) := by decide +kernel
theorem dX9_mark_18 : decode cX9_mark 18 = .ok (.if_icmp .le 6, 3) := by decide +kernel
theorem dX9_mark_21 : decode cX9_mark 21 = .ok (.ldc 79, 2) := by decide +kernel
theorem dX9_mark_23 : decode cX9_mark 23 = .ok (.ireturn, 1) := by decide +kernel
theorem dX9_mark_24 : decode cX9_mark 24 = .ok (.aload_n 0, 1) := by decide +kernel
theorem dX9_mark_25 : decode cX9_mark 25 = .ok (.getfield 10, 3) := by decide +kernel
theorem dX9_mark_28 : decode cX9_mark 28 = .ok (.iload_n 1, 1) := by decide +kernel
theorem dX9_mark_29 : decode cX9_mark 29 = .ok (.invokevirtual 124, 3) := by decide +kernel
theorem dX9_mark_32 : decode cX9_mark 32 = .ok (.ifCond .eq 6, 3) := by decide +kernel
theorem dX9_mark_35 : decode cX9_mark 35 = .ok (.ldc 113, 2) := by decide +kernel
theorem dX9_mark_37 : decode cX9_mark 37 = .ok (.ireturn, 1) := by decide +kernel
theorem dX9_mark_38 : decode cX9_mark 38 = .ok (.aload_n 0, 1) := by decide +kernel
theorem dX9_mark_39 : decode cX9_mark 39 = .ok (.getfield 19, 3) := by decide +kernel
theorem dX9_mark_42 : decode cX9_mark 42 = .ok (.getfield 156, 3) := by decide +kernel
theorem dX9_mark_45 : decode cX9_mark 45 = .ok (.iload_n 1, 1) := by decide +kernel
theorem dX9_mark_46 : decode cX9_mark 46 = .ok (.iaload, 1) := by decide +kernel
theorem dX9_mark_47 : decode cX9_mark 47 = .ok (.istore_n 3, 1) := by decide +kernel
theorem dX9_mark_48 : decode cX9_mark 48 = .ok (.aload_n 0, 1) := by decide +kernel
theorem dX9_mark_49 : decode cX9_mark 49 = .ok (.getfield 19, 3) := by decide +kernel
theorem dX9_mark_52 : decode cX9_mark 52 = .ok (.getfield 156, 3) := by decide +kernel
theorem dX9_mark_55 : decode cX9_mark 55 = .ok (.iload_n 1, 1) := by decide +kernel
theorem dX9_mark_56 : decode cX9_mark 56 = .ok (.iload_n 2, 1) := by decide +kernel
theorem dX9_mark_57 : decode cX9_mark 57 = .ok (.iastore, 1) := by decide +kernel
theorem dX9_mark_58 : decode cX9_mark 58 = .ok (.aload_n 0, 1) := by decide +kernel
theorem dX9_mark_59 : decode cX9_mark 59 = .ok (.getfield 29, 3) := by decide +kernel
theorem dX9_mark_62 : decode cX9_mark 62 = .ok (.invokevirtual 159, 3) := by decide +kernel
theorem dX9_mark_65 : decode cX9_mark 65 = .ok (.iload_n 3, 1) := by decide +kernel
theorem dX9_mark_66 : decode cX9_mark 66 = .ok (.ireturn, 1) := by decide +kernel
theorem dX9_thing_0 : decode cX9_thing 0 = .ok (.aload_n 0, 1) := by decide +kernel
theorem dX9_thing_1 : decode cX9_thing 1 = .ok (.getfield 10, 3) := by decide +kernel
theorem dX9_thing_4 : decode cX9_thing 4 = .ok (.iload_n 1, 1) := by decide +kernel
theorem dX9_thing_5 : decode cX9_thing 5 = .ok (.invokevirtual 152, 3) := by decide +kernel
theorem dX9_thing_8 : decode cX9_thing 8 = .ok (.ifCond .eq 10, 3) := by decide +kernel
theorem dX9_thing_11 : decode cX9_thing 11 = .ok (.iload_n 2, 1) := by decide +kernel
theorem dX9_thing_12 : decode cX9_thing 12 = .ok (.invokestatic 121, 3) := by decide +kernel
theorem dX9_thing_15 : decode cX9_thing 15 = .ok (.ifCond .ne 6, 3) := by decide +kernel
theorem dX9_thing_18 : decode cX9_thing 18 = .ok (.ldc 79, 2) := by decide +kernel
theorem dX9_thing_20 : decode cX9_thing 20 = .ok (.ireturn, 1) := by decide +kernel
theorem dX9_thing_21 : decode cX9_thing 21 = .ok (.aload_n 0, 1) := by decide +kernel
theorem dX9_thing_22 : decode cX9_thing 22 = .ok (.getfield 10, 3) := by decide +kernel
theorem dX9_thing_25 : decode cX9_thing 25 = .ok (.iload_n 1, 1) := by decide +kernel
theorem dX9_thing_26 : decode cX9_thing 26 = .ok (.invokevirtual 124, 3) := by decide +kernel
theorem dX9_thing_29 : decode cX9_thing 29 = .ok (.ifCond .ne 6, 3) := by decide +kernel
theorem dX9_thing_32 : decode cX9_thing 32 = .ok (.ldc 113, 2) := by decide +kernel
theorem dX9_thing_34 : decode cX9_thing 34 = .ok (.ireturn, 1) := by decide +kernel
theorem dX9_thing_35 : decode cX9_thing 35 = .ok (.aload_n 0, 1) := by decide +kernel
theorem dX9_thing_36 : decode cX9_thing 36 = .ok (.getfield 19, 3) := by decide +kernel
theorem dX9_thing_39 : decode cX9_thing 39 = .ok (.getfield 156, 3) := by decide +kernel
theorem dX9_thing_42 : decode cX9_thing 42 = .ok (.iload_n 1, 1) := by decide +kernel
theorem dX9_thing_43 : decode cX9_thing 43 = .ok (.iaload, 1) := by decide +kernel
theorem dX9_thing_44 : decode cX9_thing 44 = .ok (.bipush 20, 2) := by decide +kernel
theorem dX9_thing_46 : decode cX9_thing 46 = .ok (.if_icmp .lt 6, 3) := by decide +kernel
theorem dX9_thing_49 : decode cX9_thing 49 = .ok (.ldc 83, 2) := by decide +kernel
theorem dX9_thing_51 : decode cX9_thing 51 = .ok (.ireturn, 1) := by decide +kernel
theorem dX9_thing_52 : decode cX9_thing 52 = .ok (.aload_n 0, 1) := by decide +kernel
theorem dX9_thing_53 : decode cX9_thing 53 = .ok (.getfield 19, 3) := by decide +kernel
theorem dX9_thing_56 : decode cX9_thing 56 = .ok (.iload_n 1, 1) := by decide +kernel
theorem dX9_thing_57 : decode cX9_thing 57 = .ok (.iload_n 2, 1) := by decide +kernel
theorem dX9_thing_58 : decode cX9_thing 58 = .ok (.invokevirtual 162, 3) := by decide +kernel
theorem dX9_thing_61 : decode cX9_thing 61 = .ok (.aload_n 0, 1) := by decide +kernel
theorem dX9_thing_62 : decode cX9_thing 62 = .ok (.getfield 29, 3) := by decide +kernel
theorem dX9_thing_65 : decode cX9_thing 65 = .ok (.invokevirtual 159, 3) := by decide +kernel
theorem dX9_thing_68 : decode cX9_thing 68 = .ok (.aload_n 0, 1) := by decide +kernel
theorem dX9_thing_69 : decode cX9_thing 69 = .ok (.getfield 19, 3) := by decide +kernel
theorem dX9_thing_72 : decode cX9_thing 72 = .ok (.getfield 156, 3) := by decide +kernel
theorem dX9_thing_75 : decode cX9_thing 75 = .ok (.iload_n 1, 1) := by decide +kernel
theorem dX9_thing_76 : decode cX9_thing 76 = .ok (.iaload, 1) := by decide +kernel
theorem dX9_thing_77 : decode cX9_thing 77 = .ok (.ireturn, 1) := by decide +kernel
theorem dX9_sweep_0 : decode cX9_sweep 0 = .ok (.aload_n 0, 1) := by decide +kernel
theorem dX9_sweep_1 : decode cX9_sweep 1 = .ok (.getfield 10, 3) := by decide +kernel
theorem dX9_sweep_4 : decode cX9_sweep 4 = .ok (.iload_n 1, 1) := by decide +kernel
theorem dX9_sweep_5 : decode cX9_sweep 5 = .ok (.invokevirtual 152, 3) := by decide +kernel
theorem dX9_sweep_8 : decode cX9_sweep 8 = .ok (.ifCond .ne 6, 3) := by decide +kernel
theorem dX9_sweep_11 : decode cX9_sweep 11 = .ok (.ldc 79, 2) := by decide +kernel
theorem dX9_sweep_13 : decode cX9_sweep 13 = .ok (.ireturn, 1) := by decide +kernel
theorem dX9_sweep_14 : decode cX9_sweep 14 = .ok (.aload_n 0, 1) := by decide +kernel
theorem dX9_sweep_15 : decode cX9_sweep 15 = .ok (.getfield 10, 3) := by decide +kernel
theorem dX9_sweep_18 : decode cX9_sweep 18 = .ok (.iload_n 1, 1) := by decide +kernel
theorem dX9_sweep_19 : decode cX9_sweep 19 = .ok (.invokevirtual 124, 3) := by decide +kernel
theorem dX9_sweep_22 : decode cX9_sweep 22 = .ok (.ifCond .ne 6, 3) := by decide +kernel
theorem dX9_sweep_25 : decode cX9_sweep 25 = .ok (.ldc 113, 2) := by decide +kernel
theorem dX9_sweep_27 : decode cX9_sweep 27 = .ok (.ireturn, 1) := by decide +kernel
theorem dX9_sweep_28 : decode cX9_sweep 28 = .ok (.aload_n 0, 1) := by decide +kernel
theorem dX9_sweep_29 : decode cX9_sweep 29 = .ok (.getfield 19, 3) := by decide +kernel
theorem dX9_sweep_32 : decode cX9_sweep 32 = .ok (.getfield 156, 3) := by decide +kernel
theorem dX9_sweep_35 : decode cX9_sweep 35 = .ok (.iload_n 1, 1) := by decide +kernel
theorem dX9_sweep_36 : decode cX9_sweep 36 = .ok (.iaload, 1) := by decide +kernel
theorem dX9_sweep_37 : decode cX9_sweep 37 = .ok (.istore_n 2, 1) := by decide +kernel
theorem dX9_sweep_38 : decode cX9_sweep 38 = .ok (.aload_n 0, 1) := by decide +kernel
theorem dX9_sweep_39 : decode cX9_sweep 39 = .ok (.getfield 19, 3) := by decide +kernel
theorem dX9_sweep_42 : decode cX9_sweep 42 = .ok (.iload_n 1, 1) := by decide +kernel
theorem dX9_sweep_43 : decode cX9_sweep 43 = .ok (.invokevirtual 166, 3) := by decide +kernel
theorem dX9_sweep_46 : decode cX9_sweep 46 = .ok (.aload_n 0, 1) := by decide +kernel
theorem dX9_sweep_47 : decode cX9_sweep 47 = .ok (.getfield 29, 3) := by decide +kernel
theorem dX9_sweep_50 : decode cX9_sweep 50 = .ok (.invokevirtual 159, 3) := by decide +kernel
theorem dX9_sweep_53 : decode cX9_sweep 53 = .ok (.iload_n 2, 1) := by decide +kernel
theorem dX9_sweep_54 : decode cX9_sweep 54 = .ok (.ireturn, 1) := by decide +kernel
theorem dX9_many_0 : decode cX9_many 0 = .ok (.aload_n 0, 1) := by decide +kernel
theorem dX9_many_1 : decode cX9_many 1 = .ok (.getfield 10, 3) := by decide +kernel
theorem dX9_many_4 : decode cX9_many 4 = .ok (.iload_n 1, 1) := by decide +kernel
theorem dX9_many_5 : decode cX9_many 5 = .ok (.invokevirtual 152, 3) := by decide +kernel
theorem dX9_many_8 : decode cX9_many 8 = .ok (.ifCond .eq 15, 3) := by decide +kernel
theorem dX9_many_11 : decode cX9_many 11 = .ok (.aload_n 0, 1) := by decide +kernel
theorem dX9_many_12 : decode cX9_many 12 = .ok (.getfield 19, 3) := by decide +kernel
theorem dX9_many_15 : decode cX9_many 15 = .ok (.getfield 156, 3) := by decide +kernel
theorem dX9_many_18 : decode cX9_many 18 = .ok (.iload_n 1, 1) := by decide +kernel
theorem dX9_many_19 : decode cX9_many 19 = .ok (.iaload, 1) := by decide +kernel
theorem dX9_many_20 : decode cX9_many 20 = .ok (.goto 5, 3) := by decide +kernel
theorem dX9_many_23 : decode cX9_many 23 = .ok (.ldc 79, 2) := by decide +kernel
theorem dX9_many_25 : decode cX9_many 25 = .ok (.ireturn, 1) := by decide +kernel
theorem dX9_kind_0 : decode cX9_kind 0 = .ok (.aload_n 0, 1) := by decide +kernel
theorem dX9_kind_1 : decode cX9_kind 1 = .ok (.getfield 10, 3) := by decide +kernel
theorem dX9_kind_4 : decode cX9_kind 4 = .ok (.iload_n 1, 1) := by decide +kernel
theorem dX9_kind_5 : decode cX9_kind 5 = .ok (.invokevirtual 152, 3) := by decide +kernel
theorem dX9_kind_8 : decode cX9_kind 8 = .ok (.ifCond .ne 6, 3) := by decide +kernel
theorem dX9_kind_11 : decode cX9_kind 11 = .ok (.ldc 79, 2) := by decide +kernel
theorem dX9_kind_13 : decode cX9_kind 13 = .ok (.ireturn, 1) := by decide +kernel
theorem dX9_kind_14 : decode cX9_kind 14 = .ok (.aload_n 0, 1) := by decide +kernel
theorem dX9_kind_15 : decode cX9_kind 15 = .ok (.getfield 10, 3) := by decide +kernel
theorem dX9_kind_18 : decode cX9_kind 18 = .ok (.iload_n 1, 1) := by decide +kernel
theorem dX9_kind_19 : decode cX9_kind 19 = .ok (.invokevirtual 124, 3) := by decide +kernel
theorem dX9_kind_22 : decode cX9_kind 22 = .ok (.ifCond .ne 6, 3) := by decide +kernel
theorem dX9_kind_25 : decode cX9_kind 25 = .ok (.ldc 113, 2) := by decide +kernel
theorem dX9_kind_27 : decode cX9_kind 27 = .ok (.ireturn, 1) := by decide +kernel
theorem dX9_kind_28 : decode cX9_kind 28 = .ok (.iload_n 2, 1) := by decide +kernel
theorem dX9_kind_29 : decode cX9_kind 29 = .ok (.ifCond .lt 28, 3) := by decide +kernel
theorem dX9_kind_32 : decode cX9_kind 32 = .ok (.iload_n 2, 1) := by decide +kernel
theorem dX9_kind_33 : decode cX9_kind 33 = .ok (.aload_n 0, 1) := by decide +kernel
theorem dX9_kind_34 : decode cX9_kind 34 = .ok (.getfield 19, 3) := by decide +kernel
theorem dX9_kind_37 : decode cX9_kind 37 = .ok (.getfield 156, 3) := by decide +kernel
theorem dX9_kind_40 : decode cX9_kind 40 = .ok (.iload_n 1, 1) := by decide +kernel
theorem dX9_kind_41 : decode cX9_kind 41 = .ok (.iaload, 1) := by decide +kernel
theorem dX9_kind_42 : decode cX9_kind 42 = .ok (.if_icmp .ge 15, 3) := by decide +kernel
theorem dX9_kind_45 : decode cX9_kind 45 = .ok (.aload_n 0, 1) := by decide +kernel
theorem dX9_kind_46 : decode cX9_kind 46 = .ok (.getfield 19, 3) := by decide +kernel
theorem dX9_kind_49 : decode cX9_kind 49 = .ok (.iload_n 1, 1) := by decide +kernel
theorem dX9_kind_50 : decode cX9_kind 50 = .ok (.iload_n 2, 1) := by decide +kernel
theorem dX9_kind_51 : decode cX9_kind 51 = .ok (.invokevirtual 169, 3) := by decide +kernel
theorem dX9_kind_54 : decode cX9_kind 54 = .ok (.goto 5, 3) := by decide +kernel
theorem dX9_kind_57 : decode cX9_kind 57 = .ok (.ldc 79, 2) := by decide +kernel
theorem dX9_kind_59 : decode cX9_kind 59 = .ok (.ireturn, 1) := by decide +kernel
theorem dX9_share_0 : decode cX9_share 0 = .ok (.aload_n 0, 1) := by decide +kernel
theorem dX9_share_1 : decode cX9_share 1 = .ok (.getfield 10, 3) := by decide +kernel
theorem dX9_share_4 : decode cX9_share 4 = .ok (.iload_n 1, 1) := by decide +kernel
theorem dX9_share_5 : decode cX9_share 5 = .ok (.invokevirtual 152, 3) := by decide +kernel
theorem dX9_share_8 : decode cX9_share 8 = .ok (.ifCond .ne 6, 3) := by decide +kernel
theorem dX9_share_11 : decode cX9_share 11 = .ok (.ldc 79, 2) := by decide +kernel
theorem dX9_share_13 : decode cX9_share 13 = .ok (.ireturn, 1) := by decide +kernel
theorem dX9_share_14 : decode cX9_share 14 = .ok (.lconst 0, 1) := by decide +kernel
theorem dX9_share_15 : decode cX9_share 15 = .ok (.lstore_n 2, 1) := by decide +kernel
theorem dX9_share_16 : decode cX9_share 16 = .ok (.iconst 0, 1) := by decide +kernel
theorem dX9_share_17 : decode cX9_share 17 = .ok (.istore 4, 2) := by decide +kernel
theorem dX9_share_19 : decode cX9_share 19 = .ok (.iload 4, 2) := by decide +kernel
theorem dX9_share_21 : decode cX9_share 21 = .ok (.aload_n 0, 1) := by decide +kernel
theorem dX9_share_22 : decode cX9_share 22 = .ok (.getfield 10, 3) := by decide +kernel
theorem dX9_share_25 : decode cX9_share 25 = .ok (.getfield 80, 3) := by decide +kernel
theorem dX9_share_28 : decode cX9_share 28 = .ok (.if_icmp .ge 23, 3) := by decide +kernel
theorem dX9_share_31 : decode cX9_share 31 = .ok (.lload_n 2, 1) := by decide +kernel
theorem dX9_share_32 : decode cX9_share 32 = .ok (.aload_n 0, 1) := by decide +kernel
theorem dX9_share_33 : decode cX9_share 33 = .ok (.getfield 19, 3) := by decide +kernel
theorem dX9_share_36 : decode cX9_share 36 = .ok (.getfield 156, 3) := by decide +kernel
theorem dX9_share_39 : decode cX9_share 39 = .ok (.iload 4, 2) := by decide +kernel
theorem dX9_share_41 : decode cX9_share 41 = .ok (.iaload, 1) := by decide +kernel
theorem dX9_share_42 : decode cX9_share 42 = .ok (.i2l, 1) := by decide +kernel
theorem dX9_share_43 : decode cX9_share 43 = .ok (.ladd, 1) := by decide +kernel
theorem dX9_share_44 : decode cX9_share 44 = .ok (.lstore_n 2, 1) := by decide +kernel
theorem dX9_share_45 : decode cX9_share 45 = .ok (.iinc 4 1, 3) := by decide +kernel
theorem dX9_share_48 : decode cX9_share 48 = .ok (.goto (-29), 3) := by decide +kernel
theorem dX9_share_51 : decode cX9_share 51 = .ok (.lload_n 2, 1) := by decide +kernel
theorem dX9_share_52 : decode cX9_share 52 = .ok (.lconst 0, 1) := by decide +kernel
theorem dX9_share_53 : decode cX9_share 53 = .ok (.lcmp, 1) := by decide +kernel
theorem dX9_share_54 : decode cX9_share 54 = .ok (.ifCond .ne 6, 3) := by decide +kernel
theorem dX9_share_57 : decode cX9_share 57 = .ok (.ldc 113, 2) := by decide +kernel
theorem dX9_share_59 : decode cX9_share 59 = .ok (.ireturn, 1) := by decide +kernel
theorem dX9_share_60 : decode cX9_share 60 = .ok (.aload_n 0, 1) := by decide +kernel
theorem dX9_share_61 : decode cX9_share 61 = .ok (.getfield 19, 3) := by decide +kernel
theorem dX9_share_64 : decode cX9_share 64 = .ok (.getfield 156, 3) := by decide +kernel
theorem dX9_share_67 : decode cX9_share 67 = .ok (.iload_n 1, 1) := by decide +kernel
theorem dX9_share_68 : decode cX9_share 68 = .ok (.iaload, 1) := by decide +kernel
theorem dX9_share_69 : decode cX9_share 69 = .ok (.i2l, 1) := by decide +kernel
theorem dX9_share_70 : decode cX9_share 70 = .ok (.ldc2_w 172, 3) := by decide +kernel
theorem dX9_share_73 : decode cX9_share 73 = .ok (.lmul, 1) := by decide +kernel
theorem dX9_share_74 : decode cX9_share 74 = .ok (.lload_n 2, 1) := by decide +kernel
theorem dX9_share_75 : decode cX9_share 75 = .ok (.ldiv, 1) := by decide +kernel
theorem dX9_share_76 : decode cX9_share 76 = .ok (.l2i, 1) := by decide +kernel
theorem dX9_share_77 : decode cX9_share 77 = .ok (.ireturn, 1) := by decide +kernel
theorem dX9_may_0 : decode cX9_may 0 = .ok (.aload_n 0, 1) := by decide +kernel
theorem dX9_may_1 : decode cX9_may 1 = .ok (.getfield 10, 3) := by decide +kernel
theorem dX9_may_4 : decode cX9_may 4 = .ok (.iload_n 1, 1) := by decide +kernel
theorem dX9_may_5 : decode cX9_may 5 = .ok (.invokevirtual 149, 3) := by decide +kernel
theorem dX9_may_8 : decode cX9_may 8 = .ok (.ifCond .ne 6, 3) := by decide +kernel
theorem dX9_may_11 : decode cX9_may 11 = .ok (.ldc 79, 2) := by decide +kernel
theorem dX9_may_13 : decode cX9_may 13 = .ok (.ireturn, 1) := by decide +kernel
theorem dX9_may_14 : decode cX9_may 14 = .ok (.aload_n 0, 1) := by decide +kernel
theorem dX9_may_15 : decode cX9_may 15 = .ok (.getfield 10, 3) := by decide +kernel
theorem dX9_may_18 : decode cX9_may 18 = .ok (.aload_n 0, 1) := by decide +kernel
theorem dX9_may_19 : decode cX9_may 19 = .ok (.getfield 19, 3) := by decide +kernel
theorem dX9_may_22 : decode cX9_may 22 = .ok (.iload_n 1, 1) := by decide +kernel
theorem dX9_may_23 : decode cX9_may 23 = .ok (.invokevirtual 174, 3) := by decide +kernel
theorem dX9_may_26 : decode cX9_may 26 = .ok (.ifCond .ne 5, 3) := by decide +kernel
theorem dX9_may_29 : decode cX9_may 29 = .ok (.iconst 0, 1) := by decide +kernel
theorem dX9_may_30 : decode cX9_may 30 = .ok (.ireturn, 1) := by decide +kernel
theorem dX9_may_31 : decode cX9_may 31 = .ok (.aload_n 0, 1) := by decide +kernel
theorem dX9_may_32 : decode cX9_may 32 = .ok (.getfield 10, 3) := by decide +kernel
theorem dX9_may_35 : decode cX9_may 35 = .ok (.aload_n 0, 1) := by decide +kernel
theorem dX9_may_36 : decode cX9_may 36 = .ok (.getfield 19, 3) := by decide +kernel
theorem dX9_may_39 : decode cX9_may 39 = .ok (.iload_n 1, 1) := by decide +kernel
theorem dX9_may_40 : decode cX9_may 40 = .ok (.invokevirtual 178, 3) := by decide +kernel
theorem dX9_may_43 : decode cX9_may 43 = .ok (.ifCond .eq 7, 3) := by decide +kernel
theorem dX9_may_46 : decode cX9_may 46 = .ok (.iconst 1, 1) := by decide +kernel
theorem dX9_may_47 : decode cX9_may 47 = .ok (.goto 4, 3) := by decide +kernel
theorem dX9_may_50 : decode cX9_may 50 = .ok (.iconst 2, 1) := by decide +kernel
theorem dX9_may_51 : decode cX9_may 51 = .ok (.ireturn, 1) := by decide +kernel
theorem dX9_go_0 : decode cX9_go 0 = .ok (.aload_n 0, 1) := by decide +kernel
theorem dX9_go_1 : decode cX9_go 1 = .ok (.getfield 10, 3) := by decide +kernel
theorem dX9_go_4 : decode cX9_go 4 = .ok (.iload_n 1, 1) := by decide +kernel
theorem dX9_go_5 : decode cX9_go 5 = .ok (.invokevirtual 149, 3) := by decide +kernel
theorem dX9_go_8 : decode cX9_go 8 = .ok (.ifCond .ne 6, 3) := by decide +kernel
theorem dX9_go_11 : decode cX9_go 11 = .ok (.ldc 79, 2) := by decide +kernel
theorem dX9_go_13 : decode cX9_go 13 = .ok (.ireturn, 1) := by decide +kernel
theorem dX9_go_14 : decode cX9_go 14 = .ok (.aload_n 0, 1) := by decide +kernel
theorem dX9_go_15 : decode cX9_go 15 = .ok (.getfield 10, 3) := by decide +kernel
theorem dX9_go_18 : decode cX9_go 18 = .ok (.aload_n 0, 1) := by decide +kernel
theorem dX9_go_19 : decode cX9_go 19 = .ok (.getfield 19, 3) := by decide +kernel
theorem dX9_go_22 : decode cX9_go 22 = .ok (.iload_n 1, 1) := by decide +kernel
theorem dX9_go_23 : decode cX9_go 23 = .ok (.invokevirtual 178, 3) := by decide +kernel
theorem dX9_go_26 : decode cX9_go 26 = .ok (.ifCond .ne 6, 3) := by decide +kernel
theorem dX9_go_29 : decode cX9_go 29 = .ok (.ldc 113, 2) := by decide +kernel
theorem dX9_go_31 : decode cX9_go 31 = .ok (.ireturn, 1) := by decide +kernel
theorem dX9_go_32 : decode cX9_go 32 = .ok (.aload_n 0, 1) := by decide +kernel
theorem dX9_go_33 : decode cX9_go 33 = .ok (.getfield 10, 3) := by decide +kernel
theorem dX9_go_36 : decode cX9_go 36 = .ok (.aload_n 0, 1) := by decide +kernel
theorem dX9_go_37 : decode cX9_go 37 = .ok (.getfield 19, 3) := by decide +kernel
theorem dX9_go_40 : decode cX9_go 40 = .ok (.iload_n 1, 1) := by decide +kernel
theorem dX9_go_41 : decode cX9_go 41 = .ok (.invokevirtual 181, 3) := by decide +kernel
theorem dX9_go_44 : decode cX9_go 44 = .ok (.ifCond .eq 6, 3) := by decide +kernel
theorem dX9_go_47 : decode cX9_go 47 = .ok (.ldc 83, 2) := by decide +kernel
theorem dX9_go_49 : decode cX9_go 49 = .ok (.ireturn, 1) := by decide +kernel
theorem dX9_go_50 : decode cX9_go 50 = .ok (.aload_n 0, 1) := by decide +kernel
theorem dX9_go_51 : decode cX9_go 51 = .ok (.iload_n 1, 1) := by decide +kernel
theorem dX9_go_52 : decode cX9_go 52 = .ok (.invokevirtual 184, 3) := by decide +kernel
theorem dX9_go_55 : decode cX9_go 55 = .ok (.iconst 0, 1) := by decide +kernel
theorem dX9_go_56 : decode cX9_go 56 = .ok (.ireturn, 1) := by decide +kernel
theorem dX9_run_0 : decode cX9_run 0 = .ok (.iload_n 1, 1) := by decide +kernel
theorem dX9_run_1 : decode cX9_run 1 = .ok (.iconst 1, 1) := by decide +kernel
theorem dX9_run_2 : decode cX9_run 2 = .ok (.if_icmp .lt 10, 3) := by decide +kernel
theorem dX9_run_5 : decode cX9_run 5 = .ok (.iload_n 1, 1) := by decide +kernel
theorem dX9_run_6 : decode cX9_run 6 = .ok (.sipush 1000, 3) := by decide +kernel
theorem dX9_run_9 : decode cX9_run 9 = .ok (.if_icmp .le 6, 3) := by decide +kernel
theorem dX9_run_12 : decode cX9_run 12 = .ok (.ldc 79, 2) := by decide +kernel
theorem dX9_run_14 : decode cX9_run 14 = .ok (.ireturn, 1) := by decide +kernel
theorem dX9_run_15 : decode cX9_run 15 = .ok (.iconst 0, 1) := by decide +kernel
theorem dX9_run_16 : decode cX9_run 16 = .ok (.istore_n 2, 1) := by decide +kernel
theorem dX9_run_17 : decode cX9_run 17 = .ok (.iload_n 2, 1) := by decide +kernel
theorem dX9_run_18 : decode cX9_run 18 = .ok (.iload_n 1, 1) := by decide +kernel
theorem dX9_run_19 : decode cX9_run 19 = .ok (.if_icmp .ge 47, 3) := by decide +kernel
theorem dX9_run_22 : decode cX9_run 22 = .ok (.aload_n 0, 1) := by decide +kernel
theorem dX9_run_23 : decode cX9_run 23 = .ok (.getfield 10, 3) := by decide +kernel
theorem dX9_run_26 : decode cX9_run 26 = .ok (.aload_n 0, 1) := by decide +kernel
theorem dX9_run_27 : decode cX9_run 27 = .ok (.getfield 19, 3) := by decide +kernel
theorem dX9_run_30 : decode cX9_run 30 = .ok (.invokevirtual 187, 3) := by decide +kernel
theorem dX9_run_33 : decode cX9_run 33 = .ok (.istore_n 3, 1) := by decide +kernel
theorem dX9_run_34 : decode cX9_run 34 = .ok (.iload_n 3, 1) := by decide +kernel
theorem dX9_run_35 : decode cX9_run 35 = .ok (.ifCond .lt 18, 3) := by decide +kernel
theorem dX9_run_38 : decode cX9_run 38 = .ok (.aload_n 0, 1) := by decide +kernel
theorem dX9_run_39 : decode cX9_run 39 = .ok (.getfield 10, 3) := by decide +kernel
theorem dX9_run_42 : decode cX9_run 42 = .ok (.aload_n 0, 1) := by decide +kernel
theorem dX9_run_43 : decode cX9_run 43 = .ok (.getfield 19, 3) := by decide +kernel
theorem dX9_run_46 : decode cX9_run 46 = .ok (.iload_n 3, 1) := by decide +kernel
theorem dX9_run_47 : decode cX9_run 47 = .ok (.invokevirtual 181, 3) := by decide +kernel
theorem dX9_run_50 : decode cX9_run 50 = .ok (.ifCond .eq 5, 3) := by decide +kernel
theorem dX9_run_53 : decode cX9_run 53 = .ok (.iload_n 2, 1) := by decide +kernel
theorem dX9_run_54 : decode cX9_run 54 = .ok (.ireturn, 1) := by decide +kernel
theorem dX9_run_55 : decode cX9_run 55 = .ok (.aload_n 0, 1) := by decide +kernel
theorem dX9_run_56 : decode cX9_run 56 = .ok (.iload_n 3, 1) := by decide +kernel
theorem dX9_run_57 : decode cX9_run 57 = .ok (.invokevirtual 184, 3) := by decide +kernel
theorem dX9_run_60 : decode cX9_run 60 = .ok (.iinc 2 1, 3) := by decide +kernel
theorem dX9_run_63 : decode cX9_run 63 = .ok (.goto (-46), 3) := by decide +kernel
theorem dX9_run_66 : decode cX9_run 66 = .ok (.iload_n 1, 1) := by decide +kernel
theorem dX9_run_67 : decode cX9_run 67 = .ok (.ireturn, 1) := by decide +kernel
theorem dX9_back_0 : decode cX9_back 0 = .ok (.aload_n 0, 1) := by decide +kernel
theorem dX9_back_1 : decode cX9_back 1 = .ok (.getfield 29, 3) := by decide +kernel
theorem dX9_back_4 : decode cX9_back 4 = .ok (.getfield 191, 3) := by decide +kernel
theorem dX9_back_7 : decode cX9_back 7 = .ok (.ifCond .ne 8, 3) := by decide +kernel
theorem dX9_back_10 : decode cX9_back 10 = .ok (.ldc 113, 2) := by decide +kernel
theorem dX9_back_12 : decode cX9_back 12 = .ok (.goto 18, 3) := by decide +kernel
theorem dX9_back_15 : decode cX9_back 15 = .ok (.aload_n 0, 1) := by decide +kernel
theorem dX9_back_16 : decode cX9_back 16 = .ok (.getfield 29, 3) := by decide +kernel
theorem dX9_back_19 : decode cX9_back 19 = .ok (.aload_n 0, 1) := by decide +kernel
theorem dX9_back_20 : decode cX9_back 20 = .ok (.getfield 10, 3) := by decide +kernel
theorem dX9_back_23 : decode cX9_back 23 = .ok (.aload_n 0, 1) := by decide +kernel
theorem dX9_back_24 : decode cX9_back 24 = .ok (.getfield 19, 3) := by decide +kernel
theorem dX9_back_27 : decode cX9_back 27 = .ok (.invokevirtual 194, 3) := by decide +kernel
theorem dX9_back_30 : decode cX9_back 30 = .ok (.ireturn, 1) := by decide +kernel
theorem dX9_row_0 : decode cX9_row 0 = .ok (.iload_n 1, 1) := by decide +kernel
theorem dX9_row_1 : decode cX9_row 1 = .ok (.ifCond .lt 9, 3) := by decide +kernel
theorem dX9_row_4 : decode cX9_row 4 = .ok (.iload_n 1, 1) := by decide +kernel
theorem dX9_row_5 : decode cX9_row 5 = .ok (.bipush 16, 2) := by decide +kernel
theorem dX9_row_7 : decode cX9_row 7 = .ok (.if_icmp .le 6, 3) := by decide +kernel
theorem dX9_row_10 : decode cX9_row 10 = .ok (.ldc 79, 2) := by decide +kernel
theorem dX9_row_12 : decode cX9_row 12 = .ok (.ireturn, 1) := by decide +kernel
theorem dX9_row_13 : decode cX9_row 13 = .ok (.aload_n 0, 1) := by decide +kernel
theorem dX9_row_14 : decode cX9_row 14 = .ok (.getfield 36, 3) := by decide +kernel
theorem dX9_row_17 : decode cX9_row 17 = .ok (.iload_n 1, 1) := by decide +kernel
theorem dX9_row_18 : decode cX9_row 18 = .ok (.putfield 198, 3) := by decide +kernel
theorem dX9_row_21 : decode cX9_row 21 = .ok (.aload_n 0, 1) := by decide +kernel
theorem dX9_row_22 : decode cX9_row 22 = .ok (.getfield 36, 3) := by decide +kernel
theorem dX9_row_25 : decode cX9_row 25 = .ok (.getfield 201, 3) := by decide +kernel
theorem dX9_row_28 : decode cX9_row 28 = .ok (.iconst 0, 1) := by decide +kernel
theorem dX9_row_29 : decode cX9_row 29 = .ok (.invokestatic 204, 3) := by decide +kernel
theorem dX9_row_32 : decode cX9_row 32 = .ok (.iload_n 1, 1) := by decide +kernel
theorem dX9_row_33 : decode cX9_row 33 = .ok (.ireturn, 1) := by decide +kernel
theorem dX9_set_0 : decode cX9_set 0 = .ok (.aload_n 0, 1) := by decide +kernel
theorem dX9_set_1 : decode cX9_set 1 = .ok (.getfield 36, 3) := by decide +kernel
theorem dX9_set_4 : decode cX9_set 4 = .ok (.iload_n 1, 1) := by decide +kernel
theorem dX9_set_5 : decode cX9_set 5 = .ok (.invokevirtual 210, 3) := by decide +kernel
theorem dX9_set_8 : decode cX9_set 8 = .ok (.ifCond .eq 15, 3) := by decide +kernel
theorem dX9_set_11 : decode cX9_set 11 = .ok (.iload_n 2, 1) := by decide +kernel
theorem dX9_set_12 : decode cX9_set 12 = .ok (.ldc 213, 2) := by decide +kernel
theorem dX9_set_14 : decode cX9_set 14 = .ok (.if_icmp .lt 9, 3) := by decide +kernel
theorem dX9_set_17 : decode cX9_set 17 = .ok (.iload_n 2, 1) := by decide +kernel
theorem dX9_set_18 : decode cX9_set 18 = .ok (.ldc 214, 2) := by decide +kernel
theorem dX9_set_20 : decode cX9_set 20 = .ok (.if_icmp .le 6, 3) := by decide +kernel
theorem dX9_set_23 : decode cX9_set 23 = .ok (.ldc 79, 2) := by decide +kernel
theorem dX9_set_25 : decode cX9_set 25 = .ok (.ireturn, 1) := by decide +kernel
theorem dX9_set_26 : decode cX9_set 26 = .ok (.aload_n 0, 1) := by decide +kernel
theorem dX9_set_27 : decode cX9_set 27 = .ok (.getfield 36, 3) := by decide +kernel
theorem dX9_set_30 : decode cX9_set 30 = .ok (.getfield 201, 3) := by decide +kernel
theorem dX9_set_33 : decode cX9_set 33 = .ok (.iload_n 1, 1) := by decide +kernel
theorem dX9_set_34 : decode cX9_set 34 = .ok (.iaload, 1) := by decide +kernel
theorem dX9_set_35 : decode cX9_set 35 = .ok (.istore_n 3, 1) := by decide +kernel
theorem dX9_set_36 : decode cX9_set 36 = .ok (.aload_n 0, 1) := by decide +kernel
theorem dX9_set_37 : decode cX9_set 37 = .ok (.getfield 36, 3) := by decide +kernel
theorem dX9_set_40 : decode cX9_set 40 = .ok (.getfield 201, 3) := by decide +kernel
theorem dX9_set_43 : decode cX9_set 43 = .ok (.iload_n 1, 1) := by decide +kernel
theorem dX9_set_44 : decode cX9_set 44 = .ok (.iload_n 2, 1) := by decide +kernel
theorem dX9_set_45 : decode cX9_set 45 = .ok (.iastore, 1) := by decide +kernel
theorem dX9_set_46 : decode cX9_set 46 = .ok (.iload_n 3, 1) := by decide +kernel
theorem dX9_set_47 : decode cX9_set 47 = .ok (.ireturn, 1) := by decide +kernel
theorem dX9_get_0 : decode cX9_get 0 = .ok (.aload_n 0, 1) := by decide +kernel
theorem dX9_get_1 : decode cX9_get 1 = .ok (.getfield 36, 3) := by decide +kernel
theorem dX9_get_4 : decode cX9_get 4 = .ok (.iload_n 1, 1) := by decide +kernel
theorem dX9_get_5 : decode cX9_get 5 = .ok (.invokevirtual 210, 3) := by decide +kernel
theorem dX9_get_8 : decode cX9_get 8 = .ok (.ifCond .eq 15, 3) := by decide +kernel
theorem dX9_get_11 : decode cX9_get 11 = .ok (.aload_n 0, 1) := by decide +kernel
theorem dX9_get_12 : decode cX9_get 12 = .ok (.getfield 36, 3) := by decide +kernel
theorem dX9_get_15 : decode cX9_get 15 = .ok (.getfield 201, 3) := by decide +kernel
theorem dX9_get_18 : decode cX9_get 18 = .ok (.iload_n 1, 1) := by decide +kernel
theorem dX9_get_19 : decode cX9_get 19 = .ok (.iaload, 1) := by decide +kernel
theorem dX9_get_20 : decode cX9_get 20 = .ok (.goto 5, 3) := by decide +kernel
theorem dX9_get_23 : decode cX9_get 23 = .ok (.ldc 79, 2) := by decide +kernel
theorem dX9_get_25 : decode cX9_get 25 = .ok (.ireturn, 1) := by decide +kernel
theorem dX9_copy_0 : decode cX9_copy 0 = .ok (.iload_n 3, 1) := by decide +kernel
theorem dX9_copy_1 : decode cX9_copy 1 = .ok (.ifCond .lt 27, 3) := by decide +kernel
theorem dX9_copy_4 : decode cX9_copy 4 = .ok (.aload_n 0, 1) := by decide +kernel
theorem dX9_copy_5 : decode cX9_copy 5 = .ok (.getfield 36, 3) := by decide +kernel
theorem dX9_copy_8 : decode cX9_copy 8 = .ok (.iload_n 1, 1) := by decide +kernel
theorem dX9_copy_9 : decode cX9_copy 9 = .ok (.iload_n 3, 1) := by decide +kernel
theorem dX9_copy_10 : decode cX9_copy 10 = .ok (.invokevirtual 215, 3) := by decide +kernel
theorem dX9_copy_13 : decode cX9_copy 13 = .ok (.ifCond .eq 15, 3) := by decide +kernel
theorem dX9_copy_16 : decode cX9_copy 16 = .ok (.aload_n 0, 1) := by decide +kernel
theorem dX9_copy_17 : decode cX9_copy 17 = .ok (.getfield 36, 3) := by decide +kernel
theorem dX9_copy_20 : decode cX9_copy 20 = .ok (.iload_n 2, 1) := by decide +kernel
theorem dX9_copy_21 : decode cX9_copy 21 = .ok (.iload_n 3, 1) := by decide +kernel
theorem dX9_copy_22 : decode cX9_copy 22 = .ok (.invokevirtual 215, 3) := by decide +kernel
theorem dX9_copy_25 : decode cX9_copy 25 = .ok (.ifCond .ne 6, 3) := by decide +kernel
theorem dX9_copy_28 : decode cX9_copy 28 = .ok (.ldc 79, 2) := by decide +kernel
theorem dX9_copy_30 : decode cX9_copy 30 = .ok (.ireturn, 1) := by decide +kernel
theorem dX9_copy_31 : decode cX9_copy 31 = .ok (.aload_n 0, 1) := by decide +kernel
theorem dX9_copy_32 : decode cX9_copy 32 = .ok (.getfield 36, 3) := by decide +kernel
theorem dX9_copy_35 : decode cX9_copy 35 = .ok (.getfield 201, 3) := by decide +kernel
theorem dX9_copy_38 : decode cX9_copy 38 = .ok (.iload_n 1, 1) := by decide +kernel
theorem dX9_copy_39 : decode cX9_copy 39 = .ok (.aload_n 0, 1) := by decide +kernel
theorem dX9_copy_40 : decode cX9_copy 40 = .ok (.getfield 36, 3) := by decide +kernel
theorem dX9_copy_43 : decode cX9_copy 43 = .ok (.getfield 201, 3) := by decide +kernel
theorem dX9_copy_46 : decode cX9_copy 46 = .ok (.iload_n 2, 1) := by decide +kernel
theorem dX9_copy_47 : decode cX9_copy 47 = .ok (.iload_n 3, 1) := by decide +kernel
theorem dX9_copy_48 : decode cX9_copy 48 = .ok (.invokestatic 218, 3) := by decide +kernel
theorem dX9_copy_51 : decode cX9_copy 51 = .ok (.iconst 0, 1) := by decide +kernel
theorem dX9_copy_52 : decode cX9_copy 52 = .ok (.ireturn, 1) := by decide +kernel
theorem dX9_lay_0 : decode cX9_lay 0 = .ok (.aload_n 0, 1) := by decide +kernel
theorem dX9_lay_1 : decode cX9_lay 1 = .ok (.getfield 10, 3) := by decide +kernel
theorem dX9_lay_4 : decode cX9_lay 4 = .ok (.iload_n 1, 1) := by decide +kernel
theorem dX9_lay_5 : decode cX9_lay 5 = .ok (.invokevirtual 149, 3) := by decide +kernel
theorem dX9_lay_8 : decode cX9_lay 8 = .ok (.ifCond .ne 6, 3) := by decide +kernel
theorem dX9_lay_11 : decode cX9_lay 11 = .ok (.ldc 79, 2) := by decide +kernel
theorem dX9_lay_13 : decode cX9_lay 13 = .ok (.ireturn, 1) := by decide +kernel
theorem dX9_lay_14 : decode cX9_lay 14 = .ok (.aload_n 0, 1) := by decide +kernel
theorem dX9_lay_15 : decode cX9_lay 15 = .ok (.getfield 36, 3) := by decide +kernel
theorem dX9_lay_18 : decode cX9_lay 18 = .ok (.getfield 224, 3) := by decide +kernel
theorem dX9_lay_21 : decode cX9_lay 21 = .ok (.sipush 8000, 3) := by decide +kernel
theorem dX9_lay_24 : decode cX9_lay 24 = .ok (.if_icmp .lt 6, 3) := by decide +kernel
theorem dX9_lay_27 : decode cX9_lay 27 = .ok (.ldc 83, 2) := by decide +kernel
theorem dX9_lay_29 : decode cX9_lay 29 = .ok (.ireturn, 1) := by decide +kernel
theorem dX9_lay_30 : decode cX9_lay 30 = .ok (.aload_n 0, 1) := by decide +kernel
theorem dX9_lay_31 : decode cX9_lay 31 = .ok (.getfield 36, 3) := by decide +kernel
theorem dX9_lay_34 : decode cX9_lay 34 = .ok (.iload_n 1, 1) := by decide +kernel
theorem dX9_lay_35 : decode cX9_lay 35 = .ok (.invokevirtual 227, 3) := by decide +kernel
theorem dX9_lay_38 : decode cX9_lay 38 = .ok (.aload_n 0, 1) := by decide +kernel
theorem dX9_lay_39 : decode cX9_lay 39 = .ok (.getfield 36, 3) := by decide +kernel
theorem dX9_lay_42 : decode cX9_lay 42 = .ok (.getfield 224, 3) := by decide +kernel
theorem dX9_lay_45 : decode cX9_lay 45 = .ok (.ireturn, 1) := by decide +kernel
theorem dX9_lift_0 : decode cX9_lift 0 = .ok (.aload_n 0, 1) := by decide +kernel
theorem dX9_lift_1 : decode cX9_lift 1 = .ok (.getfield 36, 3) := by decide +kernel
theorem dX9_lift_4 : decode cX9_lift 4 = .ok (.getfield 224, 3) := by decide +kernel
theorem dX9_lift_7 : decode cX9_lift 7 = .ok (.istore_n 1, 1) := by decide +kernel
theorem dX9_lift_8 : decode cX9_lift 8 = .ok (.aload_n 0, 1) := by decide +kernel
theorem dX9_lift_9 : decode cX9_lift 9 = .ok (.getfield 36, 3) := by decide +kernel
theorem dX9_lift_12 : decode cX9_lift 12 = .ok (.iconst 0, 1) := by decide +kernel
theorem dX9_lift_13 : decode cX9_lift 13 = .ok (.putfield 224, 3) := by decide +kernel
theorem dX9_lift_16 : decode cX9_lift 16 = .ok (.iload_n 1, 1) := by decide +kernel
theorem dX9_lift_17 : decode cX9_lift 17 = .ok (.ireturn, 1) := by decide +kernel
theorem dX9_walk_0 : decode cX9_walk 0 = .ok (.iload_n 1, 1) := by decide +kernel
theorem dX9_walk_1 : decode cX9_walk 1 = .ok (.ifCond .lt 26, 3) := by decide +kernel
theorem dX9_walk_4 : decode cX9_walk 4 = .ok (.iload_n 1, 1) := by decide +kernel
theorem dX9_walk_5 : decode cX9_walk 5 = .ok (.aload_n 0, 1) := by decide +kernel
theorem dX9_walk_6 : decode cX9_walk 6 = .ok (.getfield 36, 3) := by decide +kernel
theorem dX9_walk_9 : decode cX9_walk 9 = .ok (.getfield 224, 3) := by decide +kernel
theorem dX9_walk_12 : decode cX9_walk 12 = .ok (.if_icmp .ge 15, 3) := by decide +kernel
theorem dX9_walk_15 : decode cX9_walk 15 = .ok (.aload_n 0, 1) := by decide +kernel
theorem dX9_walk_16 : decode cX9_walk 16 = .ok (.getfield 36, 3) := by decide +kernel
theorem dX9_walk_19 : decode cX9_walk 19 = .ok (.getfield 230, 3) := by decide +kernel
theorem dX9_walk_22 : decode cX9_walk 22 = .ok (.iload_n 1, 1) := by decide +kernel
theorem dX9_walk_23 : decode cX9_walk 23 = .ok (.iaload, 1) := by decide +kernel
theorem dX9_walk_24 : decode cX9_walk 24 = .ok (.goto 5, 3) := by decide +kernel
theorem dX9_walk_27 : decode cX9_walk 27 = .ok (.ldc 79, 2) := by decide +kernel
theorem dX9_walk_29 : decode cX9_walk 29 = .ok (.ireturn, 1) := by decide +kernel
theorem dX9_check_0 : decode cX9_check 0 = .ok (.aload_n 0, 1) := by decide +kernel
theorem dX9_check_1 : decode cX9_check 1 = .ok (.getfield 10, 3) := by decide +kernel
theorem dX9_check_4 : decode cX9_check 4 = .ok (.getfield 233, 3) := by decide +kernel
theorem dX9_check_7 : decode cX9_check 7 = .ok (.ifCond .le 6, 3) := by decide +kernel
theorem dX9_check_10 : decode cX9_check 10 = .ok (.ldc 113, 2) := by decide +kernel
theorem dX9_check_12 : decode cX9_check 12 = .ok (.ireturn, 1) := by decide +kernel
theorem dX9_check_13 : decode cX9_check 13 = .ok (.aload_n 0, 1) := by decide +kernel
theorem dX9_check_14 : decode cX9_check 14 = .ok (.getfield 23, 3) := by decide +kernel
theorem dX9_check_17 : decode cX9_check 17 = .ok (.aload_n 0, 1) := by decide +kernel
theorem dX9_check_18 : decode cX9_check 18 = .ok (.getfield 19, 3) := by decide +kernel
theorem dX9_check_21 : decode cX9_check 21 = .ok (.invokevirtual 236, 3) := by decide +kernel
theorem dX9_check_24 : decode cX9_check 24 = .ok (.iconst 0, 1) := by decide +kernel
theorem dX9_check_25 : decode cX9_check 25 = .ok (.istore_n 1, 1) := by decide +kernel
theorem dX9_check_26 : decode cX9_check 26 = .ok (.iload_n 1, 1) := by decide +kernel
theorem dX9_check_27 : decode cX9_check 27 = .ok (.aload_n 0, 1) := by decide +kernel
theorem dX9_check_28 : decode cX9_check 28 = .ok (.getfield 36, 3) := by decide +kernel
theorem dX9_check_31 : decode cX9_check 31 = .ok (.getfield 224, 3) := by decide +kernel
theorem dX9_check_34 : decode cX9_check 34 = .ok (.if_icmp .ge 54, 3) := by decide +kernel
theorem dX9_check_37 : decode cX9_check 37 = .ok (.aload_n 0, 1) := by decide +kernel
theorem dX9_check_38 : decode cX9_check 38 = .ok (.getfield 10, 3) := by decide +kernel
theorem dX9_check_41 : decode cX9_check 41 = .ok (.aload_n 0, 1) := by decide +kernel
theorem dX9_check_42 : decode cX9_check 42 = .ok (.getfield 23, 3) := by decide +kernel
theorem dX9_check_45 : decode cX9_check 45 = .ok (.aload_n 0, 1) := by decide +kernel
theorem dX9_check_46 : decode cX9_check 46 = .ok (.getfield 36, 3) := by decide +kernel
theorem dX9_check_49 : decode cX9_check 49 = .ok (.getfield 230, 3) := by decide +kernel
theorem dX9_check_52 : decode cX9_check 52 = .ok (.iload_n 1, 1) := by decide +kernel
theorem dX9_check_53 : decode cX9_check 53 = .ok (.iaload, 1) := by decide +kernel
theorem dX9_check_54 : decode cX9_check 54 = .ok (.invokevirtual 178, 3) := by decide +kernel
theorem dX9_check_57 : decode cX9_check 57 = .ok (.ifCond .ne 5, 3) := by decide +kernel
theorem dX9_check_60 : decode cX9_check 60 = .ok (.iload_n 1, 1) := by decide +kernel
theorem dX9_check_61 : decode cX9_check 61 = .ok (.ireturn, 1) := by decide +kernel
theorem dX9_check_62 : decode cX9_check 62 = .ok (.aload_n 0, 1) := by decide +kernel
theorem dX9_check_63 : decode cX9_check 63 = .ok (.getfield 10, 3) := by decide +kernel
theorem dX9_check_66 : decode cX9_check 66 = .ok (.aload_n 0, 1) := by decide +kernel
theorem dX9_check_67 : decode cX9_check 67 = .ok (.getfield 23, 3) := by decide +kernel
theorem dX9_check_70 : decode cX9_check 70 = .ok (.aload_n 0, 1) := by decide +kernel
theorem dX9_check_71 : decode cX9_check 71 = .ok (.getfield 36, 3) := by decide +kernel
theorem dX9_check_74 : decode cX9_check 74 = .ok (.getfield 230, 3) := by decide +kernel
theorem dX9_check_77 : decode cX9_check 77 = .ok (.iload_n 1, 1) := by decide +kernel
theorem dX9_check_78 : decode cX9_check 78 = .ok (.iaload, 1) := by decide +kernel
theorem dX9_check_79 : decode cX9_check 79 = .ok (.invokevirtual 240, 3) := by decide +kernel
theorem dX9_check_82 : decode cX9_check 82 = .ok (.iinc 1 1, 3) := by decide +kernel
theorem dX9_check_85 : decode cX9_check 85 = .ok (.goto (-59), 3) := by decide +kernel
theorem dX9_check_88 : decode cX9_check 88 = .ok (.aload_n 0, 1) := by decide +kernel
theorem dX9_check_89 : decode cX9_check 89 = .ok (.getfield 36, 3) := by decide +kernel
theorem dX9_check_92 : decode cX9_check 92 = .ok (.getfield 224, 3) := by decide +kernel
theorem dX9_check_95 : decode cX9_check 95 = .ok (.ireturn, 1) := by decide +kernel
theorem dX9_field_0 : decode cX9_field 0 = .ok (.iload_n 1, 1) := by decide +kernel
theorem dX9_field_1 : decode cX9_field 1 = .ok (.iconst 1, 1) := by decide +kernel
theorem dX9_field_2 : decode cX9_field 2 = .ok (.if_icmp .lt 10, 3) := by decide +kernel
theorem dX9_field_5 : decode cX9_field 5 = .ok (.iload_n 1, 1) := by decide +kernel
theorem dX9_field_6 : decode cX9_field 6 = .ok (.sipush 8000, 3) := by decide +kernel
theorem dX9_field_9 : decode cX9_field 9 = .ok (.if_icmp .le 6, 3) := by decide +kernel
theorem dX9_field_12 : decode cX9_field 12 = .ok (.ldc 79, 2) := by decide +kernel
theorem dX9_field_14 : decode cX9_field 14 = .ok (.ireturn, 1) := by decide +kernel
theorem dX9_field_15 : decode cX9_field 15 = .ok (.aload_n 0, 1) := by decide +kernel
theorem dX9_field_16 : decode cX9_field 16 = .ok (.getfield 10, 3) := by decide +kernel
theorem dX9_field_19 : decode cX9_field 19 = .ok (.getfield 233, 3) := by decide +kernel
theorem dX9_field_22 : decode cX9_field 22 = .ok (.ifCond .le 6, 3) := by decide +kernel
theorem dX9_field_25 : decode cX9_field 25 = .ok (.ldc 113, 2) := by decide +kernel
theorem dX9_field_27 : decode cX9_field 27 = .ok (.ireturn, 1) := by decide +kernel
theorem dX9_field_28 : decode cX9_field 28 = .ok (.aload_n 0, 1) := by decide +kernel
theorem dX9_field_29 : decode cX9_field 29 = .ok (.getfield 43, 3) := by decide +kernel
theorem dX9_field_32 : decode cX9_field 32 = .ok (.aload_n 0, 1) := by decide +kernel
theorem dX9_field_33 : decode cX9_field 33 = .ok (.getfield 10, 3) := by decide +kernel
theorem dX9_field_36 : decode cX9_field 36 = .ok (.aload_n 0, 1) := by decide +kernel
theorem dX9_field_37 : decode cX9_field 37 = .ok (.getfield 19, 3) := by decide +kernel
theorem dX9_field_40 : decode cX9_field 40 = .ok (.iload_n 1, 1) := by decide +kernel
theorem dX9_field_41 : decode cX9_field 41 = .ok (.invokevirtual 244, 3) := by decide +kernel
theorem dX9_field_44 : decode cX9_field 44 = .ok (.ifCond .eq 16, 3) := by decide +kernel
theorem dX9_field_47 : decode cX9_field 47 = .ok (.aload_n 0, 1) := by decide +kernel
theorem dX9_field_48 : decode cX9_field 48 = .ok (.getfield 43, 3) := by decide +kernel
theorem dX9_field_51 : decode cX9_field 51 = .ok (.getfield 248, 3) := by decide +kernel
theorem dX9_field_54 : decode cX9_field 54 = .ok (.getfield 252, 3) := by decide +kernel
theorem dX9_field_57 : decode cX9_field 57 = .ok (.goto 5, 3) := by decide +kernel
theorem dX9_field_60 : decode cX9_field 60 = .ok (.ldc 255, 2) := by decide +kernel
theorem dX9_field_62 : decode cX9_field 62 = .ok (.ireturn, 1) := by decide +kernel
theorem dX9_marking_0 : decode cX9_marking 0 = .ok (.aload_n 0, 1) := by decide +kernel
theorem dX9_marking_1 : decode cX9_marking 1 = .ok (.getfield 10, 3) := by decide +kernel
theorem dX9_marking_4 : decode cX9_marking 4 = .ok (.iload_n 2, 1) := by decide +kernel
theorem dX9_marking_5 : decode cX9_marking 5 = .ok (.invokevirtual 152, 3) := by decide +kernel
theorem dX9_marking_8 : decode cX9_marking 8 = .ok (.ifCond .ne 6, 3) := by decide +kernel
theorem dX9_marking_11 : decode cX9_marking 11 = .ok (.ldc 79, 2) := by decide +kernel
theorem dX9_marking_13 : decode cX9_marking 13 = .ok (.ireturn, 1) := by decide +kernel
theorem dX9_marking_14 : decode cX9_marking 14 = .ok (.aload_n 0, 1) := by decide +kernel
theorem dX9_marking_15 : decode cX9_marking 15 = .ok (.getfield 43, 3) := by decide +kernel
theorem dX9_marking_18 : decode cX9_marking 18 = .ok (.iload_n 1, 1) := by decide +kernel
theorem dX9_marking_19 : decode cX9_marking 19 = .ok (.invokevirtual 256, 3) := by decide +kernel
theorem dX9_marking_22 : decode cX9_marking 22 = .ok (.istore_n 3, 1) := by decide +kernel
theorem dX9_marking_23 : decode cX9_marking 23 = .ok (.iload_n 3, 1) := by decide +kernel
theorem dX9_marking_24 : decode cX9_marking 24 = .ok (.ifCond .eq 7, 3) := by decide +kernel
theorem dX9_marking_27 : decode cX9_marking 27 = .ok (.iload_n 3, 1) := by decide +kernel
theorem dX9_marking_28 : decode cX9_marking 28 = .ok (.goto 15, 3) := by decide +kernel
theorem dX9_marking_31 : decode cX9_marking 31 = .ok (.aload_n 0, 1) := by decide +kernel
theorem dX9_marking_32 : decode cX9_marking 32 = .ok (.getfield 43, 3) := by decide +kernel
theorem dX9_marking_35 : decode cX9_marking 35 = .ok (.getfield 248, 3) := by decide +kernel
theorem dX9_marking_38 : decode cX9_marking 38 = .ok (.iload_n 1, 1) := by decide +kernel
theorem dX9_marking_39 : decode cX9_marking 39 = .ok (.iload_n 2, 1) := by decide +kernel
theorem dX9_marking_40 : decode cX9_marking 40 = .ok (.invokevirtual 260, 3) := by decide +kernel
theorem dX9_marking_43 : decode cX9_marking 43 = .ok (.ireturn, 1) := by decide +kernel
theorem dX9_next_0 : decode cX9_next 0 = .ok (.aload_n 0, 1) := by decide +kernel
theorem dX9_next_1 : decode cX9_next 1 = .ok (.getfield 10, 3) := by decide +kernel
theorem dX9_next_4 : decode cX9_next 4 = .ok (.iload_n 2, 1) := by decide +kernel
theorem dX9_next_5 : decode cX9_next 5 = .ok (.invokevirtual 149, 3) := by decide +kernel
theorem dX9_next_8 : decode cX9_next 8 = .ok (.ifCond .ne 6, 3) := by decide +kernel
theorem dX9_next_11 : decode cX9_next 11 = .ok (.ldc 79, 2) := by decide +kernel
theorem dX9_next_13 : decode cX9_next 13 = .ok (.ireturn, 1) := by decide +kernel
theorem dX9_next_14 : decode cX9_next 14 = .ok (.aload_n 0, 1) := by decide +kernel
theorem dX9_next_15 : decode cX9_next 15 = .ok (.getfield 43, 3) := by decide +kernel
theorem dX9_next_18 : decode cX9_next 18 = .ok (.iload_n 1, 1) := by decide +kernel
theorem dX9_next_19 : decode cX9_next 19 = .ok (.invokevirtual 256, 3) := by decide +kernel
theorem dX9_next_22 : decode cX9_next 22 = .ok (.istore_n 3, 1) := by decide +kernel
theorem dX9_next_23 : decode cX9_next 23 = .ok (.iload_n 3, 1) := by decide +kernel
theorem dX9_next_24 : decode cX9_next 24 = .ok (.ifCond .eq 7, 3) := by decide +kernel
theorem dX9_next_27 : decode cX9_next 27 = .ok (.iload_n 3, 1) := by decide +kernel
theorem dX9_next_28 : decode cX9_next 28 = .ok (.goto 12, 3) := by decide +kernel
theorem dX9_next_31 : decode cX9_next 31 = .ok (.aload_n 0, 1) := by decide +kernel
theorem dX9_next_32 : decode cX9_next 32 = .ok (.getfield 43, 3) := by decide +kernel
theorem dX9_next_35 : decode cX9_next 35 = .ok (.iload_n 1, 1) := by decide +kernel
theorem dX9_next_36 : decode cX9_next 36 = .ok (.iload_n 2, 1) := by decide +kernel
theorem dX9_next_37 : decode cX9_next 37 = .ok (.invokevirtual 263, 3) := by decide +kernel
theorem dX9_next_40 : decode cX9_next 40 = .ok (.ireturn, 1) := by decide +kernel
theorem dX9_way_0 : decode cX9_way 0 = .ok (.aload_n 0, 1) := by decide +kernel
theorem dX9_way_1 : decode cX9_way 1 = .ok (.getfield 43, 3) := by decide +kernel
theorem dX9_way_4 : decode cX9_way 4 = .ok (.iload_n 1, 1) := by decide +kernel
theorem dX9_way_5 : decode cX9_way 5 = .ok (.invokevirtual 256, 3) := by decide +kernel
theorem dX9_way_8 : decode cX9_way 8 = .ok (.istore_n 2, 1) := by decide +kernel
theorem dX9_way_9 : decode cX9_way 9 = .ok (.iload_n 2, 1) := by decide +kernel
theorem dX9_way_10 : decode cX9_way 10 = .ok (.ifCond .eq 5, 3) := by decide +kernel
theorem dX9_way_13 : decode cX9_way 13 = .ok (.iload_n 2, 1) := by decide +kernel
theorem dX9_way_14 : decode cX9_way 14 = .ok (.ireturn, 1) := by decide +kernel
theorem dX9_way_15 : decode cX9_way 15 = .ok (.aload_n 0, 1) := by decide +kernel
theorem dX9_way_16 : decode cX9_way 16 = .ok (.getfield 43, 3) := by decide +kernel
theorem dX9_way_19 : decode cX9_way 19 = .ok (.getfield 248, 3) := by decide +kernel
