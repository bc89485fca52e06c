theorem dX10_need_1 : decode cX10_need 1 = .ok (.iload_n 1, 1) := by decide +kernel
theorem dX10_need_2 : decode cX10_need 2 = .ok (.invokevirtual 164, 3) := by decide +kernel
theorem dX10_need_5 : decode cX10_need 5 = .ok (.ifCond .eq 21, 3) := by decide +kernel
theorem dX10_need_8 : decode cX10_need 8 = .ok (.aload_n 0, 1) := by decide +kernel
theorem dX10_need_9 : decode cX10_need 9 = .ok (.iload_n 2, 1) := by decide +kernel
theorem dX10_need_10 : decode cX10_need 10 = .ok (.invokevirtual 168, 3) := by decide +kernel
theorem dX10_need_13 : decode cX10_need 13 = .ok (.ifCond .eq 13, 3) := by decide +kernel
theorem dX10_need_16 : decode cX10_need 16 = .ok (.iload_n 3, 1) := by decide +kernel
theorem dX10_need_17 : decode cX10_need 17 = .ok (.iconst 0, 1) := by decide +kernel
theorem dX10_need_18 : decode cX10_need 18 = .ok (.bipush 9, 2) := by decide +kernel
theorem dX10_need_20 : decode cX10_need 20 = .ok (.invokestatic 155, 3) := by decide +kernel
theorem dX10_need_23 : decode cX10_need 23 = .ok (.ifCond .ne 6, 3) := by decide +kernel
theorem dX10_need_26 : decode cX10_need 26 = .ok (.ldc 159, 2) := by decide +kernel
theorem dX10_need_28 : decode cX10_need 28 = .ok (.ireturn, 1) := by decide +kernel
theorem dX10_need_29 : decode cX10_need 29 = .ok (.aload_n 0, 1) := by decide +kernel
theorem dX10_need_30 : decode cX10_need 30 = .ok (.getfield 13, 3) := by decide +kernel
theorem dX10_need_33 : decode cX10_need 33 = .ok (.iload_n 1, 1) := by decide +kernel
theorem dX10_need_34 : decode cX10_need 34 = .ok (.iaload, 1) := by decide +kernel
theorem dX10_need_35 : decode cX10_need 35 = .ok (.iconst 1, 1) := by decide +kernel
theorem dX10_need_36 : decode cX10_need 36 = .ok (.if_icmp .ge 6, 3) := by decide +kernel
theorem dX10_need_39 : decode cX10_need 39 = .ok (.ldc 171, 2) := by decide +kernel
theorem dX10_need_41 : decode cX10_need 41 = .ok (.ireturn, 1) := by decide +kernel
theorem dX10_need_42 : decode cX10_need 42 = .ok (.aload_n 0, 1) := by decide +kernel
theorem dX10_need_43 : decode cX10_need 43 = .ok (.invokevirtual 161, 3) := by decide +kernel
theorem dX10_need_46 : decode cX10_need 46 = .ok (.aload_n 0, 1) := by decide +kernel
theorem dX10_need_47 : decode cX10_need 47 = .ok (.getfield 22, 3) := by decide +kernel
theorem dX10_need_50 : decode cX10_need 50 = .ok (.bipush 16, 2) := by decide +kernel
theorem dX10_need_52 : decode cX10_need 52 = .ok (.iload_n 1, 1) := by decide +kernel
theorem dX10_need_53 : decode cX10_need 53 = .ok (.imul, 1) := by decide +kernel
theorem dX10_need_54 : decode cX10_need 54 = .ok (.iload_n 2, 1) := by decide +kernel
theorem dX10_need_55 : decode cX10_need 55 = .ok (.iadd, 1) := by decide +kernel
theorem dX10_need_56 : decode cX10_need 56 = .ok (.iload_n 3, 1) := by decide +kernel
theorem dX10_need_57 : decode cX10_need 57 = .ok (.iastore, 1) := by decide +kernel
theorem dX10_need_58 : decode cX10_need 58 = .ok (.iconst 0, 1) := by decide +kernel
theorem dX10_need_59 : decode cX10_need 59 = .ok (.ireturn, 1) := by decide +kernel
theorem dX10_close_0 : decode cX10_close 0 = .ok (.aload_n 0, 1) := by decide +kernel
theorem dX10_close_1 : decode cX10_close 1 = .ok (.iload_n 1, 1) := by decide +kernel
theorem dX10_close_2 : decode cX10_close 2 = .ok (.invokevirtual 164, 3) := by decide +kernel
theorem dX10_close_5 : decode cX10_close 5 = .ok (.ifCond .eq 20, 3) := by decide +kernel
theorem dX10_close_8 : decode cX10_close 8 = .ok (.aload_n 0, 1) := by decide +kernel
theorem dX10_close_9 : decode cX10_close 9 = .ok (.iload_n 2, 1) := by decide +kernel
theorem dX10_close_10 : decode cX10_close 10 = .ok (.invokevirtual 168, 3) := by decide +kernel
theorem dX10_close_13 : decode cX10_close 13 = .ok (.ifCond .eq 12, 3) := by decide +kernel
theorem dX10_close_16 : decode cX10_close 16 = .ok (.iload_n 3, 1) := by decide +kernel
theorem dX10_close_17 : decode cX10_close 17 = .ok (.iconst 0, 1) := by decide +kernel
theorem dX10_close_18 : decode cX10_close 18 = .ok (.iconst 1, 1) := by decide +kernel
theorem dX10_close_19 : decode cX10_close 19 = .ok (.invokestatic 155, 3) := by decide +kernel
theorem dX10_close_22 : decode cX10_close 22 = .ok (.ifCond .ne 6, 3) := by decide +kernel
theorem dX10_close_25 : decode cX10_close 25 = .ok (.ldc 159, 2) := by decide +kernel
theorem dX10_close_27 : decode cX10_close 27 = .ok (.ireturn, 1) := by decide +kernel
theorem dX10_close_28 : decode cX10_close 28 = .ok (.aload_n 0, 1) := by decide +kernel
theorem dX10_close_29 : decode cX10_close 29 = .ok (.getfield 13, 3) := by decide +kernel
theorem dX10_close_32 : decode cX10_close 32 = .ok (.iload_n 1, 1) := by decide +kernel
theorem dX10_close_33 : decode cX10_close 33 = .ok (.iaload, 1) := by decide +kernel
theorem dX10_close_34 : decode cX10_close 34 = .ok (.iconst 2, 1) := by decide +kernel
theorem dX10_close_35 : decode cX10_close 35 = .ok (.if_icmp .ge 6, 3) := by decide +kernel
theorem dX10_close_38 : decode cX10_close 38 = .ok (.ldc 171, 2) := by decide +kernel
theorem dX10_close_40 : decode cX10_close 40 = .ok (.ireturn, 1) := by decide +kernel
theorem dX10_close_41 : decode cX10_close 41 = .ok (.aload_n 0, 1) := by decide +kernel
theorem dX10_close_42 : decode cX10_close 42 = .ok (.invokevirtual 161, 3) := by decide +kernel
theorem dX10_close_45 : decode cX10_close 45 = .ok (.aload_n 0, 1) := by decide +kernel
theorem dX10_close_46 : decode cX10_close 46 = .ok (.getfield 25, 3) := by decide +kernel
theorem dX10_close_49 : decode cX10_close 49 = .ok (.bipush 16, 2) := by decide +kernel
theorem dX10_close_51 : decode cX10_close 51 = .ok (.iload_n 1, 1) := by decide +kernel
theorem dX10_close_52 : decode cX10_close 52 = .ok (.imul, 1) := by decide +kernel
theorem dX10_close_53 : decode cX10_close 53 = .ok (.iload_n 2, 1) := by decide +kernel
theorem dX10_close_54 : decode cX10_close 54 = .ok (.iadd, 1) := by decide +kernel
theorem dX10_close_55 : decode cX10_close 55 = .ok (.iload_n 3, 1) := by decide +kernel
theorem dX10_close_56 : decode cX10_close 56 = .ok (.iastore, 1) := by decide +kernel
theorem dX10_close_57 : decode cX10_close 57 = .ok (.iconst 0, 1) := by decide +kernel
theorem dX10_close_58 : decode cX10_close 58 = .ok (.ireturn, 1) := by decide +kernel
theorem dX10_want_0 : decode cX10_want 0 = .ok (.aload_n 0, 1) := by decide +kernel
theorem dX10_want_1 : decode cX10_want 1 = .ok (.iload_n 1, 1) := by decide +kernel
theorem dX10_want_2 : decode cX10_want 2 = .ok (.invokevirtual 164, 3) := by decide +kernel
theorem dX10_want_5 : decode cX10_want 5 = .ok (.ifCond .eq 30, 3) := by decide +kernel
theorem dX10_want_8 : decode cX10_want 8 = .ok (.aload_n 0, 1) := by decide +kernel
theorem dX10_want_9 : decode cX10_want 9 = .ok (.iload_n 2, 1) := by decide +kernel
theorem dX10_want_10 : decode cX10_want 10 = .ok (.invokevirtual 168, 3) := by decide +kernel
theorem dX10_want_13 : decode cX10_want 13 = .ok (.ifCond .eq 22, 3) := by decide +kernel
theorem dX10_want_16 : decode cX10_want 16 = .ok (.iload_n 3, 1) := by decide +kernel
theorem dX10_want_17 : decode cX10_want 17 = .ok (.iconst 0, 1) := by decide +kernel
theorem dX10_want_18 : decode cX10_want 18 = .ok (.iconst 3, 1) := by decide +kernel
theorem dX10_want_19 : decode cX10_want 19 = .ok (.invokestatic 155, 3) := by decide +kernel
theorem dX10_want_22 : decode cX10_want 22 = .ok (.ifCond .eq 13, 3) := by decide +kernel
theorem dX10_want_25 : decode cX10_want 25 = .ok (.iload 4, 2) := by decide +kernel
theorem dX10_want_27 : decode cX10_want 27 = .ok (.iconst 0, 1) := by decide +kernel
theorem dX10_want_28 : decode cX10_want 28 = .ok (.iconst 3, 1) := by decide +kernel
theorem dX10_want_29 : decode cX10_want 29 = .ok (.invokestatic 155, 3) := by decide +kernel
theorem dX10_want_32 : decode cX10_want 32 = .ok (.ifCond .ne 6, 3) := by decide +kernel
theorem dX10_want_35 : decode cX10_want 35 = .ok (.ldc 159, 2) := by decide +kernel
theorem dX10_want_37 : decode cX10_want 37 = .ok (.ireturn, 1) := by decide +kernel
theorem dX10_want_38 : decode cX10_want 38 = .ok (.aload_n 0, 1) := by decide +kernel
theorem dX10_want_39 : decode cX10_want 39 = .ok (.getfield 7, 3) := by decide +kernel
theorem dX10_want_42 : decode cX10_want 42 = .ok (.iload_n 2, 1) := by decide +kernel
theorem dX10_want_43 : decode cX10_want 43 = .ok (.iaload, 1) := by decide +kernel
theorem dX10_want_44 : decode cX10_want 44 = .ok (.ifCond .ne 6, 3) := by decide +kernel
theorem dX10_want_47 : decode cX10_want 47 = .ok (.ldc 171, 2) := by decide +kernel
theorem dX10_want_49 : decode cX10_want 49 = .ok (.ireturn, 1) := by decide +kernel
theorem dX10_want_50 : decode cX10_want 50 = .ok (.aload_n 0, 1) := by decide +kernel
theorem dX10_want_51 : decode cX10_want 51 = .ok (.invokevirtual 161, 3) := by decide +kernel
theorem dX10_want_54 : decode cX10_want 54 = .ok (.aload_n 0, 1) := by decide +kernel
theorem dX10_want_55 : decode cX10_want 55 = .ok (.getfield 28, 3) := by decide +kernel
theorem dX10_want_58 : decode cX10_want 58 = .ok (.bipush 16, 2) := by decide +kernel
theorem dX10_want_60 : decode cX10_want 60 = .ok (.iload_n 1, 1) := by decide +kernel
theorem dX10_want_61 : decode cX10_want 61 = .ok (.imul, 1) := by decide +kernel
theorem dX10_want_62 : decode cX10_want 62 = .ok (.iload_n 2, 1) := by decide +kernel
theorem dX10_want_63 : decode cX10_want 63 = .ok (.iadd, 1) := by decide +kernel
theorem dX10_want_64 : decode cX10_want 64 = .ok (.iload_n 3, 1) := by decide +kernel
theorem dX10_want_65 : decode cX10_want 65 = .ok (.iastore, 1) := by decide +kernel
theorem dX10_want_66 : decode cX10_want 66 = .ok (.aload_n 0, 1) := by decide +kernel
theorem dX10_want_67 : decode cX10_want 67 = .ok (.getfield 31, 3) := by decide +kernel
theorem dX10_want_70 : decode cX10_want 70 = .ok (.bipush 16, 2) := by decide +kernel
theorem dX10_want_72 : decode cX10_want 72 = .ok (.iload_n 1, 1) := by decide +kernel
theorem dX10_want_73 : decode cX10_want 73 = .ok (.imul, 1) := by decide +kernel
theorem dX10_want_74 : decode cX10_want 74 = .ok (.iload_n 2, 1) := by decide +kernel
theorem dX10_want_75 : decode cX10_want 75 = .ok (.iadd, 1) := by decide +kernel
theorem dX10_want_76 : decode cX10_want 76 = .ok (.iload 4, 2) := by decide +kernel
theorem dX10_want_78 : decode cX10_want 78 = .ok (.iastore, 1) := by decide +kernel
theorem dX10_want_79 : decode cX10_want 79 = .ok (.iconst 0, 1) := by decide +kernel
theorem dX10_want_80 : decode cX10_want 80 = .ok (.ireturn, 1) := by decide +kernel
theorem dX10_asks_0 : decode cX10_asks 0 = .ok (.aload_n 0, 1) := by decide +kernel
theorem dX10_asks_1 : decode cX10_asks 1 = .ok (.iload_n 1, 1) := by decide +kernel
theorem dX10_asks_2 : decode cX10_asks 2 = .ok (.invokevirtual 164, 3) := by decide +kernel
theorem dX10_asks_5 : decode cX10_asks 5 = .ok (.ifCond .eq 20, 3) := by decide +kernel
theorem dX10_asks_8 : decode cX10_asks 8 = .ok (.aload_n 0, 1) := by decide +kernel
theorem dX10_asks_9 : decode cX10_asks 9 = .ok (.iload_n 2, 1) := by decide +kernel
theorem dX10_asks_10 : decode cX10_asks 10 = .ok (.invokevirtual 168, 3) := by decide +kernel
theorem dX10_asks_13 : decode cX10_asks 13 = .ok (.ifCond .eq 12, 3) := by decide +kernel
theorem dX10_asks_16 : decode cX10_asks 16 = .ok (.iload_n 3, 1) := by decide +kernel
theorem dX10_asks_17 : decode cX10_asks 17 = .ok (.iconst 0, 1) := by decide +kernel
theorem dX10_asks_18 : decode cX10_asks 18 = .ok (.iconst 5, 1) := by decide +kernel
theorem dX10_asks_19 : decode cX10_asks 19 = .ok (.invokestatic 155, 3) := by decide +kernel
theorem dX10_asks_22 : decode cX10_asks 22 = .ok (.ifCond .ne 6, 3) := by decide +kernel
theorem dX10_asks_25 : decode cX10_asks 25 = .ok (.ldc 159, 2) := by decide +kernel
theorem dX10_asks_27 : decode cX10_asks 27 = .ok (.ireturn, 1) := by decide +kernel
theorem dX10_asks_28 : decode cX10_asks 28 = .ok (.bipush 16, 2) := by decide +kernel
theorem dX10_asks_30 : decode cX10_asks 30 = .ok (.iload_n 1, 1) := by decide +kernel
theorem dX10_asks_31 : decode cX10_asks 31 = .ok (.imul, 1) := by decide +kernel
theorem dX10_asks_32 : decode cX10_asks 32 = .ok (.iload_n 2, 1) := by decide +kernel
theorem dX10_asks_33 : decode cX10_asks 33 = .ok (.iadd, 1) := by decide +kernel
theorem dX10_asks_34 : decode cX10_asks 34 = .ok (.istore 4, 2) := by decide +kernel
theorem dX10_asks_36 : decode cX10_asks 36 = .ok (.iload_n 3, 1) := by decide +kernel
theorem dX10_asks_37 : decode cX10_asks 37 = .ok (.ifCond .ne 13, 3) := by decide +kernel
theorem dX10_asks_40 : decode cX10_asks 40 = .ok (.aload_n 0, 1) := by decide +kernel
theorem dX10_asks_41 : decode cX10_asks 41 = .ok (.getfield 16, 3) := by decide +kernel
theorem dX10_asks_44 : decode cX10_asks 44 = .ok (.iload 4, 2) := by decide +kernel
theorem dX10_asks_46 : decode cX10_asks 46 = .ok (.iaload, 1) := by decide +kernel
theorem dX10_asks_47 : decode cX10_asks 47 = .ok (.goto 70, 3) := by decide +kernel
theorem dX10_asks_50 : decode cX10_asks 50 = .ok (.iload_n 3, 1) := by decide +kernel
theorem dX10_asks_51 : decode cX10_asks 51 = .ok (.iconst 1, 1) := by decide +kernel
theorem dX10_asks_52 : decode cX10_asks 52 = .ok (.if_icmp .ne 13, 3) := by decide +kernel
theorem dX10_asks_55 : decode cX10_asks 55 = .ok (.aload_n 0, 1) := by decide +kernel
theorem dX10_asks_56 : decode cX10_asks 56 = .ok (.getfield 19, 3) := by decide +kernel
theorem dX10_asks_59 : decode cX10_asks 59 = .ok (.iload 4, 2) := by decide +kernel
theorem dX10_asks_61 : decode cX10_asks 61 = .ok (.iaload, 1) := by decide +kernel
theorem dX10_asks_62 : decode cX10_asks 62 = .ok (.goto 55, 3) := by decide +kernel
theorem dX10_asks_65 : decode cX10_asks 65 = .ok (.iload_n 3, 1) := by decide +kernel
theorem dX10_asks_66 : decode cX10_asks 66 = .ok (.iconst 2, 1) := by decide +kernel
theorem dX10_asks_67 : decode cX10_asks 67 = .ok (.if_icmp .ne 13, 3) := by decide +kernel
theorem dX10_asks_70 : decode cX10_asks 70 = .ok (.aload_n 0, 1) := by decide +kernel
theorem dX10_asks_71 : decode cX10_asks 71 = .ok (.getfield 22, 3) := by decide +kernel
theorem dX10_asks_74 : decode cX10_asks 74 = .ok (.iload 4, 2) := by decide +kernel
theorem dX10_asks_76 : decode cX10_asks 76 = .ok (.iaload, 1) := by decide +kernel
theorem dX10_asks_77 : decode cX10_asks 77 = .ok (.goto 40, 3) := by decide +kernel
theorem dX10_asks_80 : decode cX10_asks 80 = .ok (.iload_n 3, 1) := by decide +kernel
theorem dX10_asks_81 : decode cX10_asks 81 = .ok (.iconst 3, 1) := by decide +kernel
theorem dX10_asks_82 : decode cX10_asks 82 = .ok (.if_icmp .ne 13, 3) := by decide +kernel
theorem dX10_asks_85 : decode cX10_asks 85 = .ok (.aload_n 0, 1) := by decide +kernel
theorem dX10_asks_86 : decode cX10_asks 86 = .ok (.getfield 25, 3) := by decide +kernel
theorem dX10_asks_89 : decode cX10_asks 89 = .ok (.iload 4, 2) := by decide +kernel
theorem dX10_asks_91 : decode cX10_asks 91 = .ok (.iaload, 1) := by decide +kernel
theorem dX10_asks_92 : decode cX10_asks 92 = .ok (.goto 25, 3) := by decide +kernel
theorem dX10_asks_95 : decode cX10_asks 95 = .ok (.iload_n 3, 1) := by decide +kernel
theorem dX10_asks_96 : decode cX10_asks 96 = .ok (.iconst 4, 1) := by decide +kernel
theorem dX10_asks_97 : decode cX10_asks 97 = .ok (.if_icmp .ne 13, 3) := by decide +kernel
theorem dX10_asks_100 : decode cX10_asks 100 = .ok (.aload_n 0, 1) := by decide +kernel
theorem dX10_asks_101 : decode cX10_asks 101 = .ok (.getfield 28, 3) := by decide +kernel
theorem dX10_asks_104 : decode cX10_asks 104 = .ok (.iload 4, 2) := by decide +kernel
theorem dX10_asks_106 : decode cX10_asks 106 = .ok (.iaload, 1) := by decide +kernel
theorem dX10_asks_107 : decode cX10_asks 107 = .ok (.goto 10, 3) := by decide +kernel
theorem dX10_asks_110 : decode cX10_asks 110 = .ok (.aload_n 0, 1) := by decide +kernel
theorem dX10_asks_111 : decode cX10_asks 111 = .ok (.getfield 31, 3) := by decide +kernel
theorem dX10_asks_114 : decode cX10_asks 114 = .ok (.iload 4, 2) := by decide +kernel
theorem dX10_asks_116 : decode cX10_asks 116 = .ok (.iaload, 1) := by decide +kernel
theorem dX10_asks_117 : decode cX10_asks 117 = .ok (.ireturn, 1) := by decide +kernel
theorem dX10_isOf_0 : decode cX10_isOf 0 = .ok (.aload_n 0, 1) := by decide +kernel
theorem dX10_isOf_1 : decode cX10_isOf 1 = .ok (.iload_n 1, 1) := by decide +kernel
theorem dX10_isOf_2 : decode cX10_isOf 2 = .ok (.invokevirtual 164, 3) := by decide +kernel
theorem dX10_isOf_5 : decode cX10_isOf 5 = .ok (.ifCond .eq 12, 3) := by decide +kernel
theorem dX10_isOf_8 : decode cX10_isOf 8 = .ok (.iload_n 2, 1) := by decide +kernel
theorem dX10_isOf_9 : decode cX10_isOf 9 = .ok (.iconst 0, 1) := by decide +kernel
theorem dX10_isOf_10 : decode cX10_isOf 10 = .ok (.iconst 3, 1) := by decide +kernel
theorem dX10_isOf_11 : decode cX10_isOf 11 = .ok (.invokestatic 155, 3) := by decide +kernel
theorem dX10_isOf_14 : decode cX10_isOf 14 = .ok (.ifCond .ne 6, 3) := by decide +kernel
theorem dX10_isOf_17 : decode cX10_isOf 17 = .ok (.ldc 159, 2) := by decide +kernel
theorem dX10_isOf_19 : decode cX10_isOf 19 = .ok (.ireturn, 1) := by decide +kernel
theorem dX10_isOf_20 : decode cX10_isOf 20 = .ok (.aload_n 0, 1) := by decide +kernel
theorem dX10_isOf_21 : decode cX10_isOf 21 = .ok (.getfield 13, 3) := by decide +kernel
theorem dX10_isOf_24 : decode cX10_isOf 24 = .ok (.iload_n 1, 1) := by decide +kernel
theorem dX10_isOf_25 : decode cX10_isOf 25 = .ok (.iaload, 1) := by decide +kernel
theorem dX10_isOf_26 : decode cX10_isOf 26 = .ok (.iload_n 2, 1) := by decide +kernel
theorem dX10_isOf_27 : decode cX10_isOf 27 = .ok (.if_icmp .lt 7, 3) := by decide +kernel
theorem dX10_isOf_30 : decode cX10_isOf 30 = .ok (.iconst 1, 1) := by decide +kernel
theorem dX10_isOf_31 : decode cX10_isOf 31 = .ok (.goto 4, 3) := by decide +kernel
theorem dX10_isOf_34 : decode cX10_isOf 34 = .ok (.iconst 0, 1) := by decide +kernel
theorem dX10_isOf_35 : decode cX10_isOf 35 = .ok (.ireturn, 1) := by decide +kernel
theorem dX10_mark_0 : decode cX10_mark 0 = .ok (.aload_n 0, 1) := by decide +kernel
theorem dX10_mark_1 : decode cX10_mark 1 = .ok (.iload_n 1, 1) := by decide +kernel
theorem dX10_mark_2 : decode cX10_mark 2 = .ok (.invokevirtual 168, 3) := by decide +kernel
theorem dX10_mark_5 : decode cX10_mark 5 = .ok (.ifCond .eq 13, 3) := by decide +kernel
theorem dX10_mark_8 : decode cX10_mark 8 = .ok (.iload_n 2, 1) := by decide +kernel
theorem dX10_mark_9 : decode cX10_mark 9 = .ok (.iconst 0, 1) := by decide +kernel
theorem dX10_mark_10 : decode cX10_mark 10 = .ok (.ldc 172, 2) := by decide +kernel
theorem dX10_mark_12 : decode cX10_mark 12 = .ok (.invokestatic 155, 3) := by decide +kernel
theorem dX10_mark_15 : decode cX10_mark 15 = .ok (.ifCond .ne 6, 3) := by decide +kernel
theorem dX10_mark_18 : decode cX10_mark 18 = .ok (.ldc 159, 2) := by decide +kernel
theorem dX10_mark_20 : decode cX10_mark 20 = .ok (.ireturn, 1) := by decide +kernel
theorem dX10_mark_21 : decode cX10_mark 21 = .ok (.aload_n 0, 1) := by decide +kernel
theorem dX10_mark_22 : decode cX10_mark 22 = .ok (.getfield 7, 3) := by decide +kernel
theorem dX10_mark_25 : decode cX10_mark 25 = .ok (.iload_n 1, 1) := by decide +kernel
theorem dX10_mark_26 : decode cX10_mark 26 = .ok (.iaload, 1) := by decide +kernel
theorem dX10_mark_27 : decode cX10_mark 27 = .ok (.iconst 1, 1) := by decide +kernel
theorem dX10_mark_28 : decode cX10_mark 28 = .ok (.if_icmp .ne 6, 3) := by decide +kernel
theorem dX10_mark_31 : decode cX10_mark 31 = .ok (.ldc 171, 2) := by decide +kernel
theorem dX10_mark_33 : decode cX10_mark 33 = .ok (.ireturn, 1) := by decide +kernel
theorem dX10_mark_34 : decode cX10_mark 34 = .ok (.aload_n 0, 1) := by decide +kernel
theorem dX10_mark_35 : decode cX10_mark 35 = .ok (.getfield 34, 3) := by decide +kernel
theorem dX10_mark_38 : decode cX10_mark 38 = .ok (.iload_n 1, 1) := by decide +kernel
theorem dX10_mark_39 : decode cX10_mark 39 = .ok (.iaload, 1) := by decide +kernel
theorem dX10_mark_40 : decode cX10_mark 40 = .ok (.istore_n 3, 1) := by decide +kernel
theorem dX10_mark_41 : decode cX10_mark 41 = .ok (.aload_n 0, 1) := by decide +kernel
theorem dX10_mark_42 : decode cX10_mark 42 = .ok (.getfield 34, 3) := by decide +kernel
theorem dX10_mark_45 : decode cX10_mark 45 = .ok (.iload_n 1, 1) := by decide +kernel
theorem dX10_mark_46 : decode cX10_mark 46 = .ok (.iload_n 2, 1) := by decide +kernel
theorem dX10_mark_47 : decode cX10_mark 47 = .ok (.iastore, 1) := by decide +kernel
theorem dX10_mark_48 : decode cX10_mark 48 = .ok (.aload_n 0, 1) := by decide +kernel
theorem dX10_mark_49 : decode cX10_mark 49 = .ok (.iconst 0, 1) := by decide +kernel
theorem dX10_mark_50 : decode cX10_mark 50 = .ok (.putfield 152, 3) := by decide +kernel
theorem dX10_mark_53 : decode cX10_mark 53 = .ok (.iload_n 3, 1) := by decide +kernel
theorem dX10_mark_54 : decode cX10_mark 54 = .ok (.ireturn, 1) := by decide +kernel
theorem dX10_thing_0 : decode cX10_thing 0 = .ok (.aload_n 0, 1) := by decide +kernel
theorem dX10_thing_1 : decode cX10_thing 1 = .ok (.iload_n 1, 1) := by decide +kernel
theorem dX10_thing_2 : decode cX10_thing 2 = .ok (.invokevirtual 168, 3) := by decide +kernel
theorem dX10_thing_5 : decode cX10_thing 5 = .ok (.ifCond .eq 12, 3) := by decide +kernel
theorem dX10_thing_8 : decode cX10_thing 8 = .ok (.iload_n 2, 1) := by decide +kernel
theorem dX10_thing_9 : decode cX10_thing 9 = .ok (.iconst 0, 1) := by decide +kernel
theorem dX10_thing_10 : decode cX10_thing 10 = .ok (.iconst 3, 1) := by decide +kernel
theorem dX10_thing_11 : decode cX10_thing 11 = .ok (.invokestatic 155, 3) := by decide +kernel
theorem dX10_thing_14 : decode cX10_thing 14 = .ok (.ifCond .ne 6, 3) := by decide +kernel
theorem dX10_thing_17 : decode cX10_thing 17 = .ok (.ldc 159, 2) := by decide +kernel
theorem dX10_thing_19 : decode cX10_thing 19 = .ok (.ireturn, 1) := by decide +kernel
theorem dX10_thing_20 : decode cX10_thing 20 = .ok (.aload_n 0, 1) := by decide +kernel
theorem dX10_thing_21 : decode cX10_thing 21 = .ok (.getfield 7, 3) := by decide +kernel
theorem dX10_thing_24 : decode cX10_thing 24 = .ok (.iload_n 1, 1) := by decide +kernel
theorem dX10_thing_25 : decode cX10_thing 25 = .ok (.iaload, 1) := by decide +kernel
theorem dX10_thing_26 : decode cX10_thing 26 = .ok (.ifCond .ne 6, 3) := by decide +kernel
theorem dX10_thing_29 : decode cX10_thing 29 = .ok (.ldc 171, 2) := by decide +kernel
theorem dX10_thing_31 : decode cX10_thing 31 = .ok (.ireturn, 1) := by decide +kernel
theorem dX10_thing_32 : decode cX10_thing 32 = .ok (.aload_n 0, 1) := by decide +kernel
theorem dX10_thing_33 : decode cX10_thing 33 = .ok (.getfield 34, 3) := by decide +kernel
theorem dX10_thing_36 : decode cX10_thing 36 = .ok (.iload_n 1, 1) := by decide +kernel
theorem dX10_thing_37 : decode cX10_thing 37 = .ok (.iaload, 1) := by decide +kernel
theorem dX10_thing_38 : decode cX10_thing 38 = .ok (.bipush 20, 2) := by decide +kernel
theorem dX10_thing_40 : decode cX10_thing 40 = .ok (.if_icmp .ne 6, 3) := by decide +kernel
theorem dX10_thing_43 : decode cX10_thing 43 = .ok (.ldc 160, 2) := by decide +kernel
theorem dX10_thing_45 : decode cX10_thing 45 = .ok (.ireturn, 1) := by decide +kernel
theorem dX10_thing_46 : decode cX10_thing 46 = .ok (.aload_n 0, 1) := by decide +kernel
theorem dX10_thing_47 : decode cX10_thing 47 = .ok (.getfield 37, 3) := by decide +kernel
theorem dX10_thing_50 : decode cX10_thing 50 = .ok (.bipush 20, 2) := by decide +kernel
theorem dX10_thing_52 : decode cX10_thing 52 = .ok (.iload_n 1, 1) := by decide +kernel
theorem dX10_thing_53 : decode cX10_thing 53 = .ok (.imul, 1) := by decide +kernel
theorem dX10_thing_54 : decode cX10_thing 54 = .ok (.aload_n 0, 1) := by decide +kernel
theorem dX10_thing_55 : decode cX10_thing 55 = .ok (.getfield 34, 3) := by decide +kernel
theorem dX10_thing_58 : decode cX10_thing 58 = .ok (.iload_n 1, 1) := by decide +kernel
theorem dX10_thing_59 : decode cX10_thing 59 = .ok (.iaload, 1) := by decide +kernel
theorem dX10_thing_60 : decode cX10_thing 60 = .ok (.iadd, 1) := by decide +kernel
theorem dX10_thing_61 : decode cX10_thing 61 = .ok (.iload_n 2, 1) := by decide +kernel
theorem dX10_thing_62 : decode cX10_thing 62 = .ok (.iastore, 1) := by decide +kernel
theorem dX10_thing_63 : decode cX10_thing 63 = .ok (.aload_n 0, 1) := by decide +kernel
theorem dX10_thing_64 : decode cX10_thing 64 = .ok (.getfield 34, 3) := by decide +kernel
theorem dX10_thing_67 : decode cX10_thing 67 = .ok (.iload_n 1, 1) := by decide +kernel
theorem dX10_thing_68 : decode cX10_thing 68 = .ok (.dup2, 1) := by decide +kernel
theorem dX10_thing_69 : decode cX10_thing 69 = .ok (.iaload, 1) := by decide +kernel
theorem dX10_thing_70 : decode cX10_thing 70 = .ok (.iconst 1, 1) := by decide +kernel
theorem dX10_thing_71 : decode cX10_thing 71 = .ok (.iadd, 1) := by decide +kernel
theorem dX10_thing_72 : decode cX10_thing 72 = .ok (.iastore, 1) := by decide +kernel
theorem dX10_thing_73 : decode cX10_thing 73 = .ok (.aload_n 0, 1) := by decide +kernel
theorem dX10_thing_74 : decode cX10_thing 74 = .ok (.iconst 0, 1) := by decide +kernel
theorem dX10_thing_75 : decode cX10_thing 75 = .ok (.putfield 152, 3) := by decide +kernel
theorem dX10_thing_78 : decode cX10_thing 78 = .ok (.aload_n 0, 1) := by decide +kernel
theorem dX10_thing_79 : decode cX10_thing 79 = .ok (.getfield 34, 3) := by decide +kernel
theorem dX10_thing_82 : decode cX10_thing 82 = .ok (.iload_n 1, 1) := by decide +kernel
theorem dX10_thing_83 : decode cX10_thing 83 = .ok (.iaload, 1) := by decide +kernel
theorem dX10_thing_84 : decode cX10_thing 84 = .ok (.ireturn, 1) := by decide +kernel
theorem dX10_sweep_0 : decode cX10_sweep 0 = .ok (.aload_n 0, 1) := by decide +kernel
theorem dX10_sweep_1 : decode cX10_sweep 1 = .ok (.iload_n 1, 1) := by decide +kernel
theorem dX10_sweep_2 : decode cX10_sweep 2 = .ok (.invokevirtual 168, 3) := by decide +kernel
theorem dX10_sweep_5 : decode cX10_sweep 5 = .ok (.ifCond .ne 6, 3) := by decide +kernel
theorem dX10_sweep_8 : decode cX10_sweep 8 = .ok (.ldc 159, 2) := by decide +kernel
theorem dX10_sweep_10 : decode cX10_sweep 10 = .ok (.ireturn, 1) := by decide +kernel
theorem dX10_sweep_11 : decode cX10_sweep 11 = .ok (.aload_n 0, 1) := by decide +kernel
theorem dX10_sweep_12 : decode cX10_sweep 12 = .ok (.getfield 7, 3) := by decide +kernel
theorem dX10_sweep_15 : decode cX10_sweep 15 = .ok (.iload_n 1, 1) := by decide +kernel
theorem dX10_sweep_16 : decode cX10_sweep 16 = .ok (.iaload, 1) := by decide +kernel
theorem dX10_sweep_17 : decode cX10_sweep 17 = .ok (.ifCond .ne 6, 3) := by decide +kernel
theorem dX10_sweep_20 : decode cX10_sweep 20 = .ok (.ldc 171, 2) := by decide +kernel
theorem dX10_sweep_22 : decode cX10_sweep 22 = .ok (.ireturn, 1) := by decide +kernel
theorem dX10_sweep_23 : decode cX10_sweep 23 = .ok (.aload_n 0, 1) := by decide +kernel
theorem dX10_sweep_24 : decode cX10_sweep 24 = .ok (.getfield 34, 3) := by decide +kernel
theorem dX10_sweep_27 : decode cX10_sweep 27 = .ok (.iload_n 1, 1) := by decide +kernel
theorem dX10_sweep_28 : decode cX10_sweep 28 = .ok (.iaload, 1) := by decide +kernel
theorem dX10_sweep_29 : decode cX10_sweep 29 = .ok (.istore_n 2, 1) := by decide +kernel
theorem dX10_sweep_30 : decode cX10_sweep 30 = .ok (.aload_n 0, 1) := by decide +kernel
theorem dX10_sweep_31 : decode cX10_sweep 31 = .ok (.getfield 34, 3) := by decide +kernel
theorem dX10_sweep_34 : decode cX10_sweep 34 = .ok (.iload_n 1, 1) := by decide +kernel
theorem dX10_sweep_35 : decode cX10_sweep 35 = .ok (.iconst 0, 1) := by decide +kernel
theorem dX10_sweep_36 : decode cX10_sweep 36 = .ok (.iastore, 1) := by decide +kernel
theorem dX10_sweep_37 : decode cX10_sweep 37 = .ok (.aload_n 0, 1) := by decide +kernel
theorem dX10_sweep_38 : decode cX10_sweep 38 = .ok (.iconst 0, 1) := by decide +kernel
theorem dX10_sweep_39 : decode cX10_sweep 39 = .ok (.putfield 152, 3) := by decide +kernel
theorem dX10_sweep_42 : decode cX10_sweep 42 = .ok (.iload_n 2, 1) := by decide +kernel
theorem dX10_sweep_43 : decode cX10_sweep 43 = .ok (.ireturn, 1) := by decide +kernel
theorem dX10_many_0 : decode cX10_many 0 = .ok (.aload_n 0, 1) := by decide +kernel
theorem dX10_many_1 : decode cX10_many 1 = .ok (.iload_n 1, 1) := by decide +kernel
theorem dX10_many_2 : decode cX10_many 2 = .ok (.invokevirtual 168, 3) := by decide +kernel
theorem dX10_many_5 : decode cX10_many 5 = .ok (.ifCond .eq 12, 3) := by decide +kernel
theorem dX10_many_8 : decode cX10_many 8 = .ok (.aload_n 0, 1) := by decide +kernel
theorem dX10_many_9 : decode cX10_many 9 = .ok (.getfield 34, 3) := by decide +kernel
theorem dX10_many_12 : decode cX10_many 12 = .ok (.iload_n 1, 1) := by decide +kernel
theorem dX10_many_13 : decode cX10_many 13 = .ok (.iaload, 1) := by decide +kernel
theorem dX10_many_14 : decode cX10_many 14 = .ok (.goto 5, 3) := by decide +kernel
theorem dX10_many_17 : decode cX10_many 17 = .ok (.ldc 159, 2) := by decide +kernel
theorem dX10_many_19 : decode cX10_many 19 = .ok (.ireturn, 1) := by decide +kernel
theorem dX10_kind_0 : decode cX10_kind 0 = .ok (.aload_n 0, 1) := by decide +kernel
theorem dX10_kind_1 : decode cX10_kind 1 = .ok (.iload_n 1, 1) := by decide +kernel
theorem dX10_kind_2 : decode cX10_kind 2 = .ok (.invokevirtual 168, 3) := by decide +kernel
theorem dX10_kind_5 : decode cX10_kind 5 = .ok (.ifCond .ne 6, 3) := by decide +kernel
theorem dX10_kind_8 : decode cX10_kind 8 = .ok (.ldc 159, 2) := by decide +kernel
theorem dX10_kind_10 : decode cX10_kind 10 = .ok (.ireturn, 1) := by decide +kernel
theorem dX10_kind_11 : decode cX10_kind 11 = .ok (.aload_n 0, 1) := by decide +kernel
theorem dX10_kind_12 : decode cX10_kind 12 = .ok (.getfield 7, 3) := by decide +kernel
theorem dX10_kind_15 : decode cX10_kind 15 = .ok (.iload_n 1, 1) := by decide +kernel
theorem dX10_kind_16 : decode cX10_kind 16 = .ok (.iaload, 1) := by decide +kernel
theorem dX10_kind_17 : decode cX10_kind 17 = .ok (.ifCond .ne 6, 3) := by decide +kernel
theorem dX10_kind_20 : decode cX10_kind 20 = .ok (.ldc 171, 2) := by decide +kernel
theorem dX10_kind_22 : decode cX10_kind 22 = .ok (.ireturn, 1) := by decide +kernel
theorem dX10_kind_23 : decode cX10_kind 23 = .ok (.iload_n 2, 1) := by decide +kernel
theorem dX10_kind_24 : decode cX10_kind 24 = .ok (.iconst 0, 1) := by decide +kernel
theorem dX10_kind_25 : decode cX10_kind 25 = .ok (.aload_n 0, 1) := by decide +kernel
theorem dX10_kind_26 : decode cX10_kind 26 = .ok (.getfield 34, 3) := by decide +kernel
theorem dX10_kind_29 : decode cX10_kind 29 = .ok (.iload_n 1, 1) := by decide +kernel
theorem dX10_kind_30 : decode cX10_kind 30 = .ok (.iaload, 1) := by decide +kernel
theorem dX10_kind_31 : decode cX10_kind 31 = .ok (.iconst 1, 1) := by decide +kernel
theorem dX10_kind_32 : decode cX10_kind 32 = .ok (.isub, 1) := by decide +kernel
theorem dX10_kind_33 : decode cX10_kind 33 = .ok (.invokestatic 155, 3) := by decide +kernel
theorem dX10_kind_36 : decode cX10_kind 36 = .ok (.ifCond .eq 17, 3) := by decide +kernel
theorem dX10_kind_39 : decode cX10_kind 39 = .ok (.aload_n 0, 1) := by decide +kernel
theorem dX10_kind_40 : decode cX10_kind 40 = .ok (.getfield 37, 3) := by decide +kernel
theorem dX10_kind_43 : decode cX10_kind 43 = .ok (.bipush 20, 2) := by decide +kernel
theorem dX10_kind_45 : decode cX10_kind 45 = .ok (.iload_n 1, 1) := by decide +kernel
theorem dX10_kind_46 : decode cX10_kind 46 = .ok (.imul, 1) := by decide +kernel
theorem dX10_kind_47 : decode cX10_kind 47 = .ok (.iload_n 2, 1) := by decide +kernel
theorem dX10_kind_48 : decode cX10_kind 48 = .ok (.iadd, 1) := by decide +kernel
theorem dX10_kind_49 : decode cX10_kind 49 = .ok (.iaload, 1) := by decide +kernel
theorem dX10_kind_50 : decode cX10_kind 50 = .ok (.goto 5, 3) := by decide +kernel
theorem dX10_kind_53 : decode cX10_kind 53 = .ok (.ldc 159, 2) := by decide +kernel
theorem dX10_kind_55 : decode cX10_kind 55 = .ok (.ireturn, 1) := by decide +kernel
theorem dX10_share_0 : decode cX10_share 0 = .ok (.aload_n 0, 1) := by decide +kernel
theorem dX10_share_1 : decode cX10_share 1 = .ok (.iload_n 1, 1) := by decide +kernel
theorem dX10_share_2 : decode cX10_share 2 = .ok (.invokevirtual 168, 3) := by decide +kernel
theorem dX10_share_5 : decode cX10_share 5 = .ok (.ifCond .ne 6, 3) := by decide +kernel
theorem dX10_share_8 : decode cX10_share 8 = .ok (.ldc 159, 2) := by decide +kernel
theorem dX10_share_10 : decode cX10_share 10 = .ok (.ireturn, 1) := by decide +kernel
theorem dX10_share_11 : decode cX10_share 11 = .ok (.lconst 0, 1) := by decide +kernel
theorem dX10_share_12 : decode cX10_share 12 = .ok (.lstore_n 2, 1) := by decide +kernel
theorem dX10_share_13 : decode cX10_share 13 = .ok (.iconst 0, 1) := by decide +kernel
theorem dX10_share_14 : decode cX10_share 14 = .ok (.istore 4, 2) := by decide +kernel
theorem dX10_share_16 : decode cX10_share 16 = .ok (.iload 4, 2) := by decide +kernel
theorem dX10_share_18 : decode cX10_share 18 = .ok (.aload_n 0, 1) := by decide +kernel
theorem dX10_share_19 : decode cX10_share 19 = .ok (.getfield 127, 3) := by decide +kernel
theorem dX10_share_22 : decode cX10_share 22 = .ok (.if_icmp .ge 20, 3) := by decide +kernel
theorem dX10_share_25 : decode cX10_share 25 = .ok (.lload_n 2, 1) := by decide +kernel
theorem dX10_share_26 : decode cX10_share 26 = .ok (.aload_n 0, 1) := by decide +kernel
theorem dX10_share_27 : decode cX10_share 27 = .ok (.getfield 34, 3) := by decide +kernel
theorem dX10_share_30 : decode cX10_share 30 = .ok (.iload 4, 2) := by decide +kernel
theorem dX10_share_32 : decode cX10_share 32 = .ok (.iaload, 1) := by decide +kernel
theorem dX10_share_33 : decode cX10_share 33 = .ok (.i2l, 1) := by decide +kernel
theorem dX10_share_34 : decode cX10_share 34 = .ok (.ladd, 1) := by decide +kernel
theorem dX10_share_35 : decode cX10_share 35 = .ok (.lstore_n 2, 1) := by decide +kernel
theorem dX10_share_36 : decode cX10_share 36 = .ok (.iinc 4 1, 3) := by decide +kernel
theorem dX10_share_39 : decode cX10_share 39 = .ok (.goto (-23), 3) := by decide +kernel
theorem dX10_share_42 : decode cX10_share 42 = .ok (.lload_n 2, 1) := by decide +kernel
theorem dX10_share_43 : decode cX10_share 43 = .ok (.lconst 0, 1) := by decide +kernel
theorem dX10_share_44 : decode cX10_share 44 = .ok (.lcmp, 1) := by decide +kernel
theorem dX10_share_45 : decode cX10_share 45 = .ok (.ifCond .ne 8, 3) := by decide +kernel
theorem dX10_share_48 : decode cX10_share 48 = .ok (.ldc 171, 2) := by decide +kernel
theorem dX10_share_50 : decode cX10_share 50 = .ok (.goto 17, 3) := by decide +kernel
theorem dX10_share_53 : decode cX10_share 53 = .ok (.ldc2_w 173, 3) := by decide +kernel
theorem dX10_share_56 : decode cX10_share 56 = .ok (.aload_n 0, 1) := by decide +kernel
theorem dX10_share_57 : decode cX10_share 57 = .ok (.getfield 34, 3) := by decide +kernel
theorem dX10_share_60 : decode cX10_share 60 = .ok (.iload_n 1, 1) := by decide +kernel
theorem dX10_share_61 : decode cX10_share 61 = .ok (.iaload, 1) := by decide +kernel
theorem dX10_share_62 : decode cX10_share 62 = .ok (.i2l, 1) := by decide +kernel
theorem dX10_share_63 : decode cX10_share 63 = .ok (.lmul, 1) := by decide +kernel
theorem dX10_share_64 : decode cX10_share 64 = .ok (.lload_n 2, 1) := by decide +kernel
theorem dX10_share_65 : decode cX10_share 65 = .ok (.ldiv, 1) := by decide +kernel
theorem dX10_share_66 : decode cX10_share 66 = .ok (.l2i, 1) := by decide +kernel
theorem dX10_share_67 : decode cX10_share 67 = .ok (.ireturn, 1) := by decide +kernel
theorem dX10_isOfKind_0 : decode cX10_isOfKind 0 = .ok (.iload_n 1, 1) := by decide +kernel
theorem dX10_isOfKind_1 : decode cX10_isOfKind 1 = .ok (.ifCond .eq 18, 3) := by decide +kernel
theorem dX10_isOfKind_4 : decode cX10_isOfKind 4 = .ok (.iload_n 0, 1) := by decide +kernel
theorem dX10_isOfKind_5 : decode cX10_isOfKind 5 = .ok (.iload_n 1, 1) := by decide +kernel
theorem dX10_isOfKind_6 : decode cX10_isOfKind 6 = .ok (.if_icmp .eq 13, 3) := by decide +kernel
theorem dX10_isOfKind_9 : decode cX10_isOfKind 9 = .ok (.iload_n 1, 1) := by decide +kernel
theorem dX10_isOfKind_10 : decode cX10_isOfKind 10 = .ok (.iconst 1, 1) := by decide +kernel
theorem dX10_isOfKind_11 : decode cX10_isOfKind 11 = .ok (.if_icmp .ne 12, 3) := by decide +kernel
theorem dX10_isOfKind_14 : decode cX10_isOfKind 14 = .ok (.iload_n 0, 1) := by decide +kernel
theorem dX10_isOfKind_15 : decode cX10_isOfKind 15 = .ok (.iconst 2, 1) := by decide +kernel
theorem dX10_isOfKind_16 : decode cX10_isOfKind 16 = .ok (.if_icmp .ne 7, 3) := by decide +kernel
theorem dX10_isOfKind_19 : decode cX10_isOfKind 19 = .ok (.iconst 1, 1) := by decide +kernel
theorem dX10_isOfKind_20 : decode cX10_isOfKind 20 = .ok (.goto 4, 3) := by decide +kernel
theorem dX10_isOfKind_23 : decode cX10_isOfKind 23 = .ok (.iconst 0, 1) := by decide +kernel
theorem dX10_isOfKind_24 : decode cX10_isOfKind 24 = .ok (.ireturn, 1) := by decide +kernel
theorem dX10_lets_0 : decode cX10_lets 0 = .ok (.bipush 16, 2) := by decide +kernel
theorem dX10_lets_2 : decode cX10_lets 2 = .ok (.iload_n 1, 1) := by decide +kernel
theorem dX10_lets_3 : decode cX10_lets 3 = .ok (.imul, 1) := by decide +kernel
theorem dX10_lets_4 : decode cX10_lets 4 = .ok (.iload_n 2, 1) := by decide +kernel
theorem dX10_lets_5 : decode cX10_lets 5 = .ok (.iadd, 1) := by decide +kernel
theorem dX10_lets_6 : decode cX10_lets 6 = .ok (.istore 5, 2) := by decide +kernel
theorem dX10_lets_8 : decode cX10_lets 8 = .ok (.aload_n 3, 1) := by decide +kernel
theorem dX10_lets_9 : decode cX10_lets 9 = .ok (.iload 4, 2) := by decide +kernel
theorem dX10_lets_11 : decode cX10_lets 11 = .ok (.iload_n 2, 1) := by decide +kernel
theorem dX10_lets_12 : decode cX10_lets 12 = .ok (.iadd, 1) := by decide +kernel
theorem dX10_lets_13 : decode cX10_lets 13 = .ok (.iaload, 1) := by decide +kernel
theorem dX10_lets_14 : decode cX10_lets 14 = .ok (.istore 6, 2) := by decide +kernel
theorem dX10_lets_16 : decode cX10_lets 16 = .ok (.iload 6, 2) := by decide +kernel
theorem dX10_lets_18 : decode cX10_lets 18 = .ok (.aload_n 0, 1) := by decide +kernel
theorem dX10_lets_19 : decode cX10_lets 19 = .ok (.getfield 16, 3) := by decide +kernel
theorem dX10_lets_22 : decode cX10_lets 22 = .ok (.iload 5, 2) := by decide +kernel
theorem dX10_lets_24 : decode cX10_lets 24 = .ok (.iaload, 1) := by decide +kernel
theorem dX10_lets_25 : decode cX10_lets 25 = .ok (.if_icmp .lt 34, 3) := by decide +kernel
theorem dX10_lets_28 : decode cX10_lets 28 = .ok (.iload 6, 2) := by decide +kernel
theorem dX10_lets_30 : decode cX10_lets 30 = .ok (.aload_n 0, 1) := by decide +kernel
theorem dX10_lets_31 : decode cX10_lets 31 = .ok (.getfield 22, 3) := by decide +kernel
theorem dX10_lets_34 : decode cX10_lets 34 = .ok (.iload 5, 2) := by decide +kernel
theorem dX10_lets_36 : decode cX10_lets 36 = .ok (.iaload, 1) := by decide +kernel
theorem dX10_lets_37 : decode cX10_lets 37 = .ok (.if_icmp .lt 22, 3) := by decide +kernel
theorem dX10_lets_40 : decode cX10_lets 40 = .ok (.aload_n 0, 1) := by decide +kernel
theorem dX10_lets_41 : decode cX10_lets 41 = .ok (.getfield 25, 3) := by decide +kernel
theorem dX10_lets_44 : decode cX10_lets 44 = .ok (.iload 5, 2) := by decide +kernel
theorem dX10_lets_46 : decode cX10_lets 46 = .ok (.iaload, 1) := by decide +kernel
theorem dX10_lets_47 : decode cX10_lets 47 = .ok (.ifCond .eq 8, 3) := by decide +kernel
theorem dX10_lets_50 : decode cX10_lets 50 = .ok (.iload 6, 2) := by decide +kernel
theorem dX10_lets_52 : decode cX10_lets 52 = .ok (.ifCond .ne 7, 3) := by decide +kernel
theorem dX10_lets_55 : decode cX10_lets 55 = .ok (.iconst 1, 1) := by decide +kernel
theorem dX10_lets_56 : decode cX10_lets 56 = .ok (.goto 4, 3) := by decide +kernel
theorem dX10_lets_59 : decode cX10_lets 59 = .ok (.iconst 0, 1) := by decide +kernel
theorem dX10_lets_60 : decode cX10_lets 60 = .ok (.ireturn, 1) := by decide +kernel
theorem dX10_mayIn_0 : decode cX10_mayIn 0 = .ok (.iconst 1, 1) := by decide +kernel
theorem dX10_mayIn_1 : decode cX10_mayIn 1 = .ok (.istore 4, 2) := by decide +kernel
theorem dX10_mayIn_3 : decode cX10_mayIn 3 = .ok (.iconst 0, 1) := by decide +kernel
theorem dX10_mayIn_4 : decode cX10_mayIn 4 = .ok (.istore 5, 2) := by decide +kernel
theorem dX10_mayIn_6 : decode cX10_mayIn 6 = .ok (.iload 5, 2) := by decide +kernel
theorem dX10_mayIn_8 : decode cX10_mayIn 8 = .ok (.aload_n 0, 1) := by decide +kernel
theorem dX10_mayIn_9 : decode cX10_mayIn 9 = .ok (.getfield 127, 3) := by decide +kernel
theorem dX10_mayIn_12 : decode cX10_mayIn 12 = .ok (.if_icmp .ge 33, 3) := by decide +kernel
theorem dX10_mayIn_15 : decode cX10_mayIn 15 = .ok (.iload 4, 2) := by decide +kernel
theorem dX10_mayIn_17 : decode cX10_mayIn 17 = .ok (.ifCond .eq 19, 3) := by decide +kernel
theorem dX10_mayIn_20 : decode cX10_mayIn 20 = .ok (.aload_n 0, 1) := by decide +kernel
theorem dX10_mayIn_21 : decode cX10_mayIn 21 = .ok (.iload_n 1, 1) := by decide +kernel
theorem dX10_mayIn_22 : decode cX10_mayIn 22 = .ok (.iload 5, 2) := by decide +kernel
theorem dX10_mayIn_24 : decode cX10_mayIn 24 = .ok (.aload_n 2, 1) := by decide +kernel
theorem dX10_mayIn_25 : decode cX10_mayIn 25 = .ok (.iload_n 3, 1) := by decide +kernel
theorem dX10_mayIn_26 : decode cX10_mayIn 26 = .ok (.invokevirtual 175, 3) := by decide +kernel
theorem dX10_mayIn_29 : decode cX10_mayIn 29 = .ok (.ifCond .eq 7, 3) := by decide +kernel
theorem dX10_mayIn_32 : decode cX10_mayIn 32 = .ok (.iconst 1, 1) := by decide +kernel
theorem dX10_mayIn_33 : decode cX10_mayIn 33 = .ok (.goto 4, 3) := by decide +kernel
theorem dX10_mayIn_36 : decode cX10_mayIn 36 = .ok (.iconst 0, 1) := by decide +kernel
theorem dX10_mayIn_37 : decode cX10_mayIn 37 = .ok (.istore 4, 2) := by decide +kernel
theorem dX10_mayIn_39 : decode cX10_mayIn 39 = .ok (.iinc 5 1, 3) := by decide +kernel
theorem dX10_mayIn_42 : decode cX10_mayIn 42 = .ok (.goto (-36), 3) := by decide +kernel
theorem dX10_mayIn_45 : decode cX10_mayIn 45 = .ok (.iload 4, 2) := by decide +kernel
theorem dX10_mayIn_47 : decode cX10_mayIn 47 = .ok (.ireturn, 1) := by decide +kernel
theorem dX10_hasWanted_0 : decode cX10_hasWanted 0 = .ok (.iconst 1, 1) := by decide +kernel
theorem dX10_hasWanted_1 : decode cX10_hasWanted 1 = .ok (.istore_n 2, 1) := by decide +kernel
theorem dX10_hasWanted_2 : decode cX10_hasWanted 2 = .ok (.iconst 0, 1) := by decide +kernel
theorem dX10_hasWanted_3 : decode cX10_hasWanted 3 = .ok (.istore_n 3, 1) := by decide +kernel
theorem dX10_hasWanted_4 : decode cX10_hasWanted 4 = .ok (.iload_n 3, 1) := by decide +kernel
theorem dX10_hasWanted_5 : decode cX10_hasWanted 5 = .ok (.aload_n 0, 1) := by decide +kernel
theorem dX10_hasWanted_6 : decode cX10_hasWanted 6 = .ok (.getfield 127, 3) := by decide +kernel
theorem dX10_hasWanted_9 : decode cX10_hasWanted 9 = .ok (.if_icmp .ge 116, 3) := by decide +kernel
theorem dX10_hasWanted_12 : decode cX10_hasWanted 12 = .ok (.iconst 0, 1) := by decide +kernel
theorem dX10_hasWanted_13 : decode cX10_hasWanted 13 = .ok (.istore 4, 2) := by decide +kernel
theorem dX10_hasWanted_15 : decode cX10_hasWanted 15 = .ok (.iconst 0, 1) := by decide +kernel
theorem dX10_hasWanted_16 : decode cX10_hasWanted 16 = .ok (.istore 5, 2) := by decide +kernel
theorem dX10_hasWanted_18 : decode cX10_hasWanted 18 = .ok (.iload 5, 2) := by decide +kernel
theorem dX10_hasWanted_20 : decode cX10_hasWanted 20 = .ok (.aload_n 0, 1) := by decide +kernel
theorem dX10_hasWanted_21 : decode cX10_hasWanted 21 = .ok (.getfield 34, 3) := by decide +kernel
theorem dX10_hasWanted_24 : decode cX10_hasWanted 24 = .ok (.iload_n 3, 1) := by decide +kernel
theorem dX10_hasWanted_25 : decode cX10_hasWanted 25 = .ok (.iaload, 1) := by decide +kernel
theorem dX10_hasWanted_26 : decode cX10_hasWanted 26 = .ok (.if_icmp .ge 58, 3) := by decide +kernel
theorem dX10_hasWanted_29 : decode cX10_hasWanted 29 = .ok (.aload_n 0, 1) := by decide +kernel
theorem dX10_hasWanted_30 : decode cX10_hasWanted 30 = .ok (.getfield 7, 3) := by decide +kernel
theorem dX10_hasWanted_33 : decode cX10_hasWanted 33 = .ok (.iload_n 3, 1) := by decide +kernel
theorem dX10_hasWanted_34 : decode cX10_hasWanted 34 = .ok (.iaload, 1) := by decide +kernel
theorem dX10_hasWanted_35 : decode cX10_hasWanted 35 = .ok (.iconst 1, 1) := by decide +kernel
theorem dX10_hasWanted_36 : decode cX10_hasWanted 36 = .ok (.if_icmp .ne 48, 3) := by decide +kernel
theorem dX10_hasWanted_39 : decode cX10_hasWanted 39 = .ok (.iload 4, 2) := by decide +kernel
theorem dX10_hasWanted_41 : decode cX10_hasWanted 41 = .ok (.aload_n 0, 1) := by decide +kernel
theorem dX10_hasWanted_42 : decode cX10_hasWanted 42 = .ok (.getfield 37, 3) := by decide +kernel
theorem dX10_hasWanted_45 : decode cX10_hasWanted 45 = .ok (.bipush 20, 2) := by decide +kernel
theorem dX10_hasWanted_47 : decode cX10_hasWanted 47 = .ok (.iload_n 3, 1) := by decide +kernel
theorem dX10_hasWanted_48 : decode cX10_hasWanted 48 = .ok (.imul, 1) := by decide +kernel
theorem dX10_hasWanted_49 : decode cX10_hasWanted 49 = .ok (.iload 5, 2) := by decide +kernel
theorem dX10_hasWanted_51 : decode cX10_hasWanted 51 = .ok (.iadd, 1) := by decide +kernel
theorem dX10_hasWanted_52 : decode cX10_hasWanted 52 = .ok (.iaload, 1) := by decide +kernel
theorem dX10_hasWanted_53 : decode cX10_hasWanted 53 = .ok (.aload_n 0, 1) := by decide +kernel
theorem dX10_hasWanted_54 : decode cX10_hasWanted 54 = .ok (.getfield 28, 3) := by decide +kernel
theorem dX10_hasWanted_57 : decode cX10_hasWanted 57 = .ok (.bipush 16, 2) := by decide +kernel
theorem dX10_hasWanted_59 : decode cX10_hasWanted 59 = .ok (.iload_n 1, 1) := by decide +kernel
theorem dX10_hasWanted_60 : decode cX10_hasWanted 60 = .ok (.imul, 1) := by decide +kernel
theorem dX10_hasWanted_61 : decode cX10_hasWanted 61 = .ok (.iload_n 3, 1) := by decide +kernel
theorem dX10_hasWanted_62 : decode cX10_hasWanted 62 = .ok (.iadd, 1) := by decide +kernel
theorem dX10_hasWanted_63 : decode cX10_hasWanted 63 = .ok (.iaload, 1) := by decide +kernel
theorem dX10_hasWanted_64 : decode cX10_hasWanted 64 = .ok (.invokestatic 179, 3) := by decide +kernel
theorem dX10_hasWanted_67 : decode cX10_hasWanted 67 = .ok (.ifCond .eq 7, 3) := by decide +kernel
theorem dX10_hasWanted_70 : decode cX10_hasWanted 70 = .ok (.iconst 1, 1) := by decide +kernel
theorem dX10_hasWanted_71 : decode cX10_hasWanted 71 = .ok (.goto 4, 3) := by decide +kernel
theorem dX10_hasWanted_74 : decode cX10_hasWanted 74 = .ok (.iconst 0, 1) := by decide +kernel
theorem dX10_hasWanted_75 : decode cX10_hasWanted 75 = .ok (.iadd, 1) := by decide +kernel
theorem dX10_hasWanted_76 : decode cX10_hasWanted 76 = .ok (.istore 4, 2) := by decide +kernel
theorem dX10_hasWanted_78 : decode cX10_hasWanted 78 = .ok (.iinc 5 1, 3) := by decide +kernel
theorem dX10_hasWanted_81 : decode cX10_hasWanted 81 = .ok (.goto (-63), 3) := by decide +kernel
theorem dX10_hasWanted_84 : decode cX10_hasWanted 84 = .ok (.iload_n 2, 1) := by decide +kernel
theorem dX10_hasWanted_85 : decode cX10_hasWanted 85 = .ok (.ifCond .eq 32, 3) := by decide +kernel
theorem dX10_hasWanted_88 : decode cX10_hasWanted 88 = .ok (.aload_n 0, 1) := by decide +kernel
theorem dX10_hasWanted_89 : decode cX10_hasWanted 89 = .ok (.getfield 7, 3) := by decide +kernel
theorem dX10_hasWanted_92 : decode cX10_hasWanted 92 = .ok (.iload_n 3, 1) := by decide +kernel
theorem dX10_hasWanted_93 : decode cX10_hasWanted 93 = .ok (.iaload, 1) := by decide +kernel
theorem dX10_hasWanted_94 : decode cX10_hasWanted 94 = .ok (.ifCond .eq 19, 3) := by decide +kernel
theorem dX10_hasWanted_97 : decode cX10_hasWanted 97 = .ok (.iload 4, 2) := by decide +kernel
theorem dX10_hasWanted_99 : decode cX10_hasWanted 99 = .ok (.aload_n 0, 1) := by decide +kernel
theorem dX10_hasWanted_100 : decode cX10_hasWanted 100 = .ok (.getfield 16, 3) := by decide +kernel
theorem dX10_hasWanted_103 : decode cX10_hasWanted 103 = .ok (.bipush 16, 2) := by decide +kernel
theorem dX10_hasWanted_105 : decode cX10_hasWanted 105 = .ok (.iload_n 1, 1) := by decide +kernel
theorem dX10_hasWanted_106 : decode cX10_hasWanted 106 = .ok (.imul, 1) := by decide +kernel
theorem dX10_hasWanted_107 : decode cX10_hasWanted 107 = .ok (.iload_n 3, 1) := by decide +kernel
theorem dX10_hasWanted_108 : decode cX10_hasWanted 108 = .ok (.iadd, 1) := by decide +kernel
theorem dX10_hasWanted_109 : decode cX10_hasWanted 109 = .ok (.iaload, 1) := by decide +kernel
theorem dX10_hasWanted_110 : decode cX10_hasWanted 110 = .ok (.if_icmp .lt 7, 3) := by decide +kernel
theorem dX10_hasWanted_113 : decode cX10_hasWanted 113 = .ok (.iconst 1, 1) := by decide +kernel
theorem dX10_hasWanted_114 : decode cX10_hasWanted 114 = .ok (.goto 4, 3) := by decide +kernel
theorem dX10_hasWanted_117 : decode cX10_hasWanted 117 = .ok (.iconst 0, 1) := by decide +kernel
theorem dX10_hasWanted_118 : decode cX10_hasWanted 118 = .ok (.istore_n 2, 1) := by decide +kernel
theorem dX10_hasWanted_119 : decode cX10_hasWanted 119 = .ok (.iinc 3 1, 3) := by decide +kernel
theorem dX10_hasWanted_122 : decode cX10_hasWanted 122 = .ok (.goto (-118), 3) := by decide +kernel
theorem dX10_hasWanted_125 : decode cX10_hasWanted 125 = .ok (.iload_n 2, 1) := by decide +kernel
theorem dX10_hasWanted_126 : decode cX10_hasWanted 126 = .ok (.ireturn, 1) := by decide +kernel
theorem dX10_mayNow_0 : decode cX10_mayNow 0 = .ok (.aload_n 0, 1) := by decide +kernel
theorem dX10_mayNow_1 : decode cX10_mayNow 1 = .ok (.iload_n 1, 1) := by decide +kernel
theorem dX10_mayNow_2 : decode cX10_mayNow 2 = .ok (.aload_n 0, 1) := by decide +kernel
theorem dX10_mayNow_3 : decode cX10_mayNow 3 = .ok (.getfield 34, 3) := by decide +kernel
theorem dX10_mayNow_6 : decode cX10_mayNow 6 = .ok (.iconst 0, 1) := by decide +kernel
theorem dX10_mayNow_7 : decode cX10_mayNow 7 = .ok (.invokevirtual 183, 3) := by decide +kernel
theorem dX10_mayNow_10 : decode cX10_mayNow 10 = .ok (.ifCond .eq 15, 3) := by decide +kernel
theorem dX10_mayNow_13 : decode cX10_mayNow 13 = .ok (.aload_n 0, 1) := by decide +kernel
theorem dX10_mayNow_14 : decode cX10_mayNow 14 = .ok (.iload_n 1, 1) := by decide +kernel
theorem dX10_mayNow_15 : decode cX10_mayNow 15 = .ok (.invokevirtual 187, 3) := by decide +kernel
theorem dX10_mayNow_18 : decode cX10_mayNow 18 = .ok (.ifCond .eq 7, 3) := by decide +kernel
theorem dX10_mayNow_21 : decode cX10_mayNow 21 = .ok (.iconst 1, 1) := by decide +kernel
theorem dX10_mayNow_22 : decode cX10_mayNow 22 = .ok (.goto 4, 3) := by decide +kernel
theorem dX10_mayNow_25 : decode cX10_mayNow 25 = .ok (.iconst 0, 1) := by decide +kernel
theorem dX10_mayNow_26 : decode cX10_mayNow 26 = .ok (.ireturn, 1) := by decide +kernel
theorem dX10_isUrgentNow_0 : decode cX10_isUrgentNow 0 = .ok (.iconst 0, 1) := by decide +kernel
theorem dX10_isUrgentNow_1 : decode cX10_isUrgentNow 1 = .ok (.istore_n 1, 1) := by decide +kernel
theorem dX10_isUrgentNow_2 : decode cX10_isUrgentNow 2 = .ok (.iconst 0, 1) := by decide +kernel
theorem dX10_isUrgentNow_3 : decode cX10_isUrgentNow 3 = .ok (.istore_n 2, 1) := by decide +kernel
theorem dX10_isUrgentNow_4 : decode cX10_isUrgentNow 4 = .ok (.iload_n 2, 1) := by decide +kernel
theorem dX10_isUrgentNow_5 : decode cX10_isUrgentNow 5 = .ok (.aload_n 0, 1) := by decide +kernel
theorem dX10_isUrgentNow_6 : decode cX10_isUrgentNow 6 = .ok (.getfield 130, 3) := by decide +kernel
theorem dX10_isUrgentNow_9 : decode cX10_isUrgentNow 9 = .ok (.if_icmp .ge 37, 3) := by decide +kernel
theorem dX10_isUrgentNow_12 : decode cX10_isUrgentNow 12 = .ok (.iload_n 1, 1) := by decide +kernel
theorem dX10_isUrgentNow_13 : decode cX10_isUrgentNow 13 = .ok (.ifCond .ne 21, 3) := by decide +kernel
theorem dX10_isUrgentNow_16 : decode cX10_isUrgentNow 16 = .ok (.aload_n 0, 1) := by decide +kernel
theorem dX10_isUrgentNow_17 : decode cX10_isUrgentNow 17 = .ok (.getfield 13, 3) := by decide +kernel
theorem dX10_isUrgentNow_20 : decode cX10_isUrgentNow 20 = .ok (.iload_n 2, 1) := by decide +kernel
theorem dX10_isUrgentNow_21 : decode cX10_isUrgentNow 21 = .ok (.iaload, 1) := by decide +kernel
theorem dX10_isUrgentNow_22 : decode cX10_isUrgentNow 22 = .ok (.iconst 3, 1) := by decide +kernel
theorem dX10_isUrgentNow_23 : decode cX10_isUrgentNow 23 = .ok (.if_icmp .ne 15, 3) := by decide +kernel
theorem dX10_isUrgentNow_26 : decode cX10_isUrgentNow 26 = .ok (.aload_n 0, 1) := by decide +kernel
theorem dX10_isUrgentNow_27 : decode cX10_isUrgentNow 27 = .ok (.iload_n 2, 1) := by decide +kernel
theorem dX10_isUrgentNow_28 : decode cX10_isUrgentNow 28 = .ok (.invokevirtual 190, 3) := by decide +kernel
theorem dX10_isUrgentNow_31 : decode cX10_isUrgentNow 31 = .ok (.ifCond .eq 7, 3) := by decide +kernel
theorem dX10_isUrgentNow_34 : decode cX10_isUrgentNow 34 = .ok (.iconst 1, 1) := by decide +kernel
theorem dX10_isUrgentNow_35 : decode cX10_isUrgentNow 35 = .ok (.goto 4, 3) := by decide +kernel
theorem dX10_isUrgentNow_38 : decode cX10_isUrgentNow 38 = .ok (.iconst 0, 1) := by decide +kernel
theorem dX10_isUrgentNow_39 : decode cX10_isUrgentNow 39 = .ok (.istore_n 1, 1) := by decide +kernel
theorem dX10_isUrgentNow_40 : decode cX10_isUrgentNow 40 = .ok (.iinc 2 1, 3) := by decide +kernel
theorem dX10_isUrgentNow_43 : decode cX10_isUrgentNow 43 = .ok (.goto (-39), 3) := by decide +kernel
theorem dX10_isUrgentNow_46 : decode cX10_isUrgentNow 46 = .ok (.iload_n 1, 1) := by decide +kernel
theorem dX10_isUrgentNow_47 : decode cX10_isUrgentNow 47 = .ok (.ireturn, 1) := by decide +kernel
theorem dX10_goesNow_0 : decode cX10_goesNow 0 = .ok (.aload_n 0, 1) := by decide +kernel
theorem dX10_goesNow_1 : decode cX10_goesNow 1 = .ok (.iload_n 1, 1) := by decide +kernel
theorem dX10_goesNow_2 : decode cX10_goesNow 2 = .ok (.invokevirtual 190, 3) := by decide +kernel
theorem dX10_goesNow_5 : decode cX10_goesNow 5 = .ok (.ifCond .eq 24, 3) := by decide +kernel
theorem dX10_goesNow_8 : decode cX10_goesNow 8 = .ok (.aload_n 0, 1) := by decide +kernel
theorem dX10_goesNow_9 : decode cX10_goesNow 9 = .ok (.getfield 13, 3) := by decide +kernel
theorem dX10_goesNow_12 : decode cX10_goesNow 12 = .ok (.iload_n 1, 1) := by decide +kernel
theorem dX10_goesNow_13 : decode cX10_goesNow 13 = .ok (.iaload, 1) := by decide +kernel
theorem dX10_goesNow_14 : decode cX10_goesNow 14 = .ok (.iconst 3, 1) := by decide +kernel
theorem dX10_goesNow_15 : decode cX10_goesNow 15 = .ok (.if_icmp .eq 10, 3) := by decide +kernel
theorem dX10_goesNow_18 : decode cX10_goesNow 18 = .ok (.aload_n 0, 1) := by decide +kernel
theorem dX10_goesNow_19 : decode cX10_goesNow 19 = .ok (.invokevirtual 193, 3) := by decide +kernel
theorem dX10_goesNow_22 : decode cX10_goesNow 22 = .ok (.ifCond .ne 7, 3) := by decide +kernel
theorem dX10_goesNow_25 : decode cX10_goesNow 25 = .ok (.iconst 1, 1) := by decide +kernel
theorem dX10_goesNow_26 : decode cX10_goesNow 26 = .ok (.goto 4, 3) := by decide +kernel
theorem dX10_goesNow_29 : decode cX10_goesNow 29 = .ok (.iconst 0, 1) := by decide +kernel
theorem dX10_goesNow_30 : decode cX10_goesNow 30 = .ok (.ireturn, 1) := by decide +kernel
theorem dX10_may_0 : decode cX10_may 0 = .ok (.aload_n 0, 1) := by decide +kernel
theorem dX10_may_1 : decode cX10_may 1 = .ok (.iload_n 1, 1) := by decide +kernel
theorem dX10_may_2 : decode cX10_may 2 = .ok (.invokevirtual 164, 3) := by decide +kernel
theorem dX10_may_5 : decode cX10_may 5 = .ok (.ifCond .ne 6, 3) := by decide +kernel
theorem dX10_may_8 : decode cX10_may 8 = .ok (.ldc 159, 2) := by decide +kernel
theorem dX10_may_10 : decode cX10_may 10 = .ok (.ireturn, 1) := by decide +kernel
theorem dX10_may_11 : decode cX10_may 11 = .ok (.aload_n 0, 1) := by decide +kernel
theorem dX10_may_12 : decode cX10_may 12 = .ok (.iload_n 1, 1) := by decide +kernel
theorem dX10_may_13 : decode cX10_may 13 = .ok (.invokevirtual 197, 3) := by decide +kernel
theorem dX10_may_16 : decode cX10_may 16 = .ok (.ifCond .eq 7, 3) := by decide +kernel
theorem dX10_may_19 : decode cX10_may 19 = .ok (.iconst 1, 1) := by decide +kernel
theorem dX10_may_20 : decode cX10_may 20 = .ok (.goto 16, 3) := by decide +kernel
theorem dX10_may_23 : decode cX10_may 23 = .ok (.aload_n 0, 1) := by decide +kernel
theorem dX10_may_24 : decode cX10_may 24 = .ok (.iload_n 1, 1) := by decide +kernel
theorem dX10_may_25 : decode cX10_may 25 = .ok (.invokevirtual 190, 3) := by decide +kernel
theorem dX10_may_28 : decode cX10_may 28 = .ok (.ifCond .eq 7, 3) := by decide +kernel
theorem dX10_may_31 : decode cX10_may 31 = .ok (.iconst 2, 1) := by decide +kernel
theorem dX10_may_32 : decode cX10_may 32 = .ok (.goto 4, 3) := by decide +kernel
theorem dX10_may_35 : decode cX10_may 35 = .ok (.iconst 0, 1) := by decide +kernel
theorem dX10_may_36 : decode cX10_may 36 = .ok (.ireturn, 1) := by decide +kernel
theorem dX10_isFull_0 : decode cX10_isFull 0 = .ok (.iconst 0, 1) := by decide +kernel
theorem dX10_isFull_1 : decode cX10_isFull 1 = .ok (.istore_n 2, 1) := by decide +kernel
theorem dX10_isFull_2 : decode cX10_isFull 2 = .ok (.iconst 0, 1) := by decide +kernel
theorem dX10_isFull_3 : decode cX10_isFull 3 = .ok (.istore_n 3, 1) := by decide +kernel
theorem dX10_isFull_4 : decode cX10_isFull 4 = .ok (.iload_n 3, 1) := by decide +kernel
theorem dX10_isFull_5 : decode cX10_isFull 5 = .ok (.aload_n 0, 1) := by decide +kernel
theorem dX10_isFull_6 : decode cX10_isFull 6 = .ok (.getfield 127, 3) := by decide +kernel
theorem dX10_isFull_9 : decode cX10_isFull 9 = .ok (.if_icmp .ge 73, 3) := by decide +kernel
theorem dX10_isFull_12 : decode cX10_isFull 12 = .ok (.bipush 16, 2) := by decide +kernel
theorem dX10_isFull_14 : decode cX10_isFull 14 = .ok (.iload_n 1, 1) := by decide +kernel
theorem dX10_isFull_15 : decode cX10_isFull 15 = .ok (.imul, 1) := by decide +kernel
theorem dX10_isFull_16 : decode cX10_isFull 16 = .ok (.iload_n 3, 1) := by decide +kernel
theorem dX10_isFull_17 : decode cX10_isFull 17 = .ok (.iadd, 1) := by decide +kernel
theorem dX10_isFull_18 : decode cX10_isFull 18 = .ok (.istore 4, 2) := by decide +kernel
theorem dX10_isFull_20 : decode cX10_isFull 20 = .ok (.aload_n 0, 1) := by decide +kernel
theorem dX10_isFull_21 : decode cX10_isFull 21 = .ok (.getfield 34, 3) := by decide +kernel
theorem dX10_isFull_24 : decode cX10_isFull 24 = .ok (.iload_n 3, 1) := by decide +kernel
theorem dX10_isFull_25 : decode cX10_isFull 25 = .ok (.iaload, 1) := by decide +kernel
theorem dX10_isFull_26 : decode cX10_isFull 26 = .ok (.aload_n 0, 1) := by decide +kernel
theorem dX10_isFull_27 : decode cX10_isFull 27 = .ok (.getfield 16, 3) := by decide +kernel
theorem dX10_isFull_30 : decode cX10_isFull 30 = .ok (.iload 4, 2) := by decide +kernel
theorem dX10_isFull_32 : decode cX10_isFull 32 = .ok (.iaload, 1) := by decide +kernel
theorem dX10_isFull_33 : decode cX10_isFull 33 = .ok (.isub, 1) := by decide +kernel
theorem dX10_isFull_34 : decode cX10_isFull 34 = .ok (.aload_n 0, 1) := by decide +kernel
theorem dX10_isFull_35 : decode cX10_isFull 35 = .ok (.getfield 19, 3) := by decide +kernel
theorem dX10_isFull_38 : decode cX10_isFull 38 = .ok (.iload 4, 2) := by decide +kernel
theorem dX10_isFull_40 : decode cX10_isFull 40 = .ok (.iaload, 1) := by decide +kernel
theorem dX10_isFull_41 : decode cX10_isFull 41 = .ok (.iadd, 1) := by decide +kernel
theorem dX10_isFull_42 : decode cX10_isFull 42 = .ok (.istore 5, 2) := by decide +kernel
theorem dX10_isFull_44 : decode cX10_isFull 44 = .ok (.iload_n 2, 1) := by decide +kernel
theorem dX10_isFull_45 : decode cX10_isFull 45 = .ok (.ifCond .ne 25, 3) := by decide +kernel
theorem dX10_isFull_48 : decode cX10_isFull 48 = .ok (.iload 5, 2) := by decide +kernel
theorem dX10_isFull_50 : decode cX10_isFull 50 = .ok (.aload_n 0, 1) := by decide +kernel
theorem dX10_isFull_51 : decode cX10_isFull 51 = .ok (.getfield 7, 3) := by decide +kernel
theorem dX10_isFull_54 : decode cX10_isFull 54 = .ok (.iload_n 3, 1) := by decide +kernel
theorem dX10_isFull_55 : decode cX10_isFull 55 = .ok (.iaload, 1) := by decide +kernel
theorem dX10_isFull_56 : decode cX10_isFull 56 = .ok (.iconst 1, 1) := by decide +kernel
theorem dX10_isFull_57 : decode cX10_isFull 57 = .ok (.if_icmp .ne 8, 3) := by decide +kernel
theorem dX10_isFull_60 : decode cX10_isFull 60 = .ok (.bipush 20, 2) := by decide +kernel
theorem dX10_isFull_62 : decode cX10_isFull 62 = .ok (.goto 5, 3) := by decide +kernel
theorem dX10_isFull_65 : decode cX10_isFull 65 = .ok (.ldc 200, 2) := by decide +kernel
theorem dX10_isFull_67 : decode cX10_isFull 67 = .ok (.if_icmp .le 7, 3) := by decide +kernel
theorem dX10_isFull_70 : decode cX10_isFull 70 = .ok (.iconst 1, 1) := by decide +kernel
theorem dX10_isFull_71 : decode cX10_isFull 71 = .ok (.goto 4, 3) := by decide +kernel
theorem dX10_isFull_74 : decode cX10_isFull 74 = .ok (.iconst 0, 1) := by decide +kernel
theorem dX10_isFull_75 : decode cX10_isFull 75 = .ok (.istore_n 2, 1) := by decide +kernel
theorem dX10_isFull_76 : decode cX10_isFull 76 = .ok (.iinc 3 1, 3) := by decide +kernel
theorem dX10_isFull_79 : decode cX10_isFull 79 = .ok (.goto (-75), 3) := by decide +kernel
theorem dX10_isFull_82 : decode cX10_isFull 82 = .ok (.iload_n 2, 1) := by decide +kernel
theorem dX10_isFull_83 : decode cX10_isFull 83 = .ok (.ireturn, 1) := by decide +kernel
theorem dX10_keep_0 : decode cX10_keep 0 = .ok (.aload_n 0, 1) := by decide +kernel
theorem dX10_keep_1 : decode cX10_keep 1 = .ok (.getfield 152, 3) := by decide +kernel
theorem dX10_keep_4 : decode cX10_keep 4 = .ok (.sipush 256, 3) := by decide +kernel
theorem dX10_keep_7 : decode cX10_keep 7 = .ok (.if_icmp .ne 27, 3) := by decide +kernel
theorem dX10_keep_10 : decode cX10_keep 10 = .ok (.aload_n 0, 1) := by decide +kernel
theorem dX10_keep_11 : decode cX10_keep 11 = .ok (.aload_n 0, 1) := by decide +kernel
theorem dX10_keep_12 : decode cX10_keep 12 = .ok (.getfield 201, 3) := by decide +kernel
theorem dX10_keep_15 : decode cX10_keep 15 = .ok (.iconst 1, 1) := by decide +kernel
theorem dX10_keep_16 : decode cX10_keep 16 = .ok (.iadd, 1) := by decide +kernel
theorem dX10_keep_17 : decode cX10_keep 17 = .ok (.sipush 256, 3) := by decide +kernel
theorem dX10_keep_20 : decode cX10_keep 20 = .ok (.irem, 1) := by decide +kernel
theorem dX10_keep_21 : decode cX10_keep 21 = .ok (.putfield 201, 3) := by decide +kernel
theorem dX10_keep_24 : decode cX10_keep 24 = .ok (.aload_n 0, 1) := by decide +kernel
theorem dX10_keep_25 : decode cX10_keep 25 = .ok (.dup, 1) := by decide +kernel
theorem dX10_keep_26 : decode cX10_keep 26 = .ok (.getfield 152, 3) := by decide +kernel
theorem dX10_keep_29 : decode cX10_keep 29 = .ok (.iconst 1, 1) := by decide +kernel
theorem dX10_keep_30 : decode cX10_keep 30 = .ok (.isub, 1) := by decide +kernel
theorem dX10_keep_31 : decode cX10_keep 31 = .ok (.putfield 152, 3) := by decide +kernel
theorem dX10_keep_34 : decode cX10_keep 34 = .ok (.aload_n 0, 1) := by decide +kernel
theorem dX10_keep_35 : decode cX10_keep 35 = .ok (.getfield 201, 3) := by decide +kernel
theorem dX10_keep_38 : decode cX10_keep 38 = .ok (.aload_n 0, 1) := by decide +kernel
theorem dX10_keep_39 : decode cX10_keep 39 = .ok (.getfield 152, 3) := by decide +kernel
theorem dX10_keep_42 : decode cX10_keep 42 = .ok (.iadd, 1) := by decide +kernel
theorem dX10_keep_43 : decode cX10_keep 43 = .ok (.sipush 256, 3) := by decide +kernel
theorem dX10_keep_46 : decode cX10_keep 46 = .ok (.irem, 1) := by decide +kernel
theorem dX10_keep_47 : decode cX10_keep 47 = .ok (.istore_n 2, 1) := by decide +kernel
theorem dX10_keep_48 : decode cX10_keep 48 = .ok (.aload_n 0, 1) := by decide +kernel
theorem dX10_keep_49 : decode cX10_keep 49 = .ok (.dup, 1) := by decide +kernel
theorem dX10_keep_50 : decode cX10_keep 50 = .ok (.getfield 152, 3) := by decide +kernel
theorem dX10_keep_53 : decode cX10_keep 53 = .ok (.iconst 1, 1) := by decide +kernel
theorem dX10_keep_54 : decode cX10_keep 54 = .ok (.iadd, 1) := by decide +kernel
theorem dX10_keep_55 : decode cX10_keep 55 = .ok (.putfield 152, 3) := by decide +kernel
theorem dX10_keep_58 : decode cX10_keep 58 = .ok (.aload_n 0, 1) := by decide +kernel
theorem dX10_keep_59 : decode cX10_keep 59 = .ok (.getfield 40, 3) := by decide +kernel
theorem dX10_keep_62 : decode cX10_keep 62 = .ok (.iload_n 2, 1) := by decide +kernel
theorem dX10_keep_63 : decode cX10_keep 63 = .ok (.iload_n 1, 1) := by decide +kernel
theorem dX10_keep_64 : decode cX10_keep 64 = .ok (.iastore, 1) := by decide +kernel
theorem dX10_keep_65 : decode cX10_keep 65 = .ok (.iconst 0, 1) := by decide +kernel
theorem dX10_keep_66 : decode cX10_keep 66 = .ok (.istore_n 3, 1) := by decide +kernel
theorem dX10_keep_67 : decode cX10_keep 67 = .ok (.iload_n 3, 1) := by decide +kernel
theorem dX10_keep_68 : decode cX10_keep 68 = .ok (.bipush 16, 2) := by decide +kernel
theorem dX10_keep_70 : decode cX10_keep 70 = .ok (.if_icmp .ge 26, 3) := by decide +kernel
theorem dX10_keep_73 : decode cX10_keep 73 = .ok (.aload_n 0, 1) := by decide +kernel
theorem dX10_keep_74 : decode cX10_keep 74 = .ok (.getfield 43, 3) := by decide +kernel
theorem dX10_keep_77 : decode cX10_keep 77 = .ok (.bipush 16, 2) := by decide +kernel
theorem dX10_keep_79 : decode cX10_keep 79 = .ok (.iload_n 2, 1) := by decide +kernel
theorem dX10_keep_80 : decode cX10_keep 80 = .ok (.imul, 1) := by decide +kernel
theorem dX10_keep_81 : decode cX10_keep 81 = .ok (.iload_n 3, 1) := by decide +kernel
theorem dX10_keep_82 : decode cX10_keep 82 = .ok (.iadd, 1) := by decide +kernel
theorem dX10_keep_83 : decode cX10_keep 83 = .ok (.aload_n 0, 1) := by decide +kernel
theorem dX10_keep_84 : decode cX10_keep 84 = .ok (.getfield 34, 3) := by decide +kernel
theorem dX10_keep_87 : decode cX10_keep 87 = .ok (.iload_n 3, 1) := by decide +kernel
theorem dX10_keep_88 : decode cX10_keep 88 = .ok (.iaload, 1) := by decide +kernel
theorem dX10_keep_89 : decode cX10_keep 89 = .ok (.iastore, 1) := by decide +kernel
theorem dX10_keep_90 : decode cX10_keep 90 = .ok (.iinc 3 1, 3) := by decide +kernel
theorem dX10_keep_93 : decode cX10_keep 93 = .ok (.goto (-26), 3) := by decide +kernel
theorem dX10_keep_96 : decode cX10_keep 96 = .ok (.iconst 0, 1) := by decide +kernel
theorem dX10_keep_97 : decode cX10_keep 97 = .ok (.istore_n 3, 1) := by decide +kernel
theorem dX10_keep_98 : decode cX10_keep 98 = .ok (.iload_n 3, 1) := by decide +kernel
theorem dX10_keep_99 : decode cX10_keep 99 = .ok (.sipush 320, 3) := by decide +kernel
theorem dX10_keep_102 : decode cX10_keep 102 = .ok (.if_icmp .ge 27, 3) := by decide +kernel
theorem dX10_keep_105 : decode cX10_keep 105 = .ok (.aload_n 0, 1) := by decide +kernel
theorem dX10_keep_106 : decode cX10_keep 106 = .ok (.getfield 47, 3) := by decide +kernel
theorem dX10_keep_109 : decode cX10_keep 109 = .ok (.sipush 320, 3) := by decide +kernel
theorem dX10_keep_112 : decode cX10_keep 112 = .ok (.iload_n 2, 1) := by decide +kernel
theorem dX10_keep_113 : decode cX10_keep 113 = .ok (.imul, 1) := by decide +kernel
theorem dX10_keep_114 : decode cX10_keep 114 = .ok (.iload_n 3, 1) := by decide +kernel
theorem dX10_keep_115 : decode cX10_keep 115 = .ok (.iadd, 1) := by decide +kernel
theorem dX10_keep_116 : decode cX10_keep 116 = .ok (.aload_n 0, 1) := by decide +kernel
theorem dX10_keep_117 : decode cX10_keep 117 = .ok (.getfield 37, 3) := by decide +kernel
theorem dX10_keep_120 : decode cX10_keep 120 = .ok (.iload_n 3, 1) := by decide +kernel
theorem dX10_keep_121 : decode cX10_keep 121 = .ok (.iaload, 1) := by decide +kernel
theorem dX10_keep_122 : decode cX10_keep 122 = .ok (.iastore, 1) := by decide +kernel
theorem dX10_keep_123 : decode cX10_keep 123 = .ok (.iinc 3 1, 3) := by decide +kernel
theorem dX10_keep_126 : decode cX10_keep 126 = .ok (.goto (-28), 3) := by decide +kernel
theorem dX10_keep_129 : decode cX10_keep 129 = .ok (.return_, 1) := by decide +kernel
theorem dX10_move_0 : decode cX10_move 0 = .ok (.bipush 16, 2) := by decide +kernel
theorem dX10_move_2 : decode cX10_move 2 = .ok (.iload_n 1, 1) := by decide +kernel
theorem dX10_move_3 : decode cX10_move 3 = .ok (.imul, 1) := by decide +kernel
theorem dX10_move_4 : decode cX10_move 4 = .ok (.iload_n 2, 1) := by decide +kernel
theorem dX10_move_5 : decode cX10_move 5 = .ok (.iadd, 1) := by decide +kernel
theorem dX10_move_6 : decode cX10_move 6 = .ok (.istore_n 3, 1) := by decide +kernel
theorem dX10_move_7 : decode cX10_move 7 = .ok (.aload_n 0, 1) := by decide +kernel
theorem dX10_move_8 : decode cX10_move 8 = .ok (.getfield 16, 3) := by decide +kernel
theorem dX10_move_11 : decode cX10_move 11 = .ok (.iload_n 3, 1) := by decide +kernel
theorem dX10_move_12 : decode cX10_move 12 = .ok (.iaload, 1) := by decide +kernel
theorem dX10_move_13 : decode cX10_move 13 = .ok (.istore 4, 2) := by decide +kernel
theorem dX10_move_15 : decode cX10_move 15 = .ok (.iconst 0, 1) := by decide +kernel
theorem dX10_move_16 : decode cX10_move 16 = .ok (.istore 5, 2) := by decide +kernel
theorem dX10_move_18 : decode cX10_move 18 = .ok (.iconst 0, 1) := by decide +kernel
theorem dX10_move_19 : decode cX10_move 19 = .ok (.istore 6, 2) := by decide +kernel
theorem dX10_move_21 : decode cX10_move 21 = .ok (.iload 6, 2) := by decide +kernel
theorem dX10_move_23 : decode cX10_move 23 = .ok (.aload_n 0, 1) := by decide +kernel
theorem dX10_move_24 : decode cX10_move 24 = .ok (.getfield 34, 3) := by decide +kernel
theorem dX10_move_27 : decode cX10_move 27 = .ok (.iload_n 2, 1) := by decide +kernel
theorem dX10_move_28 : decode cX10_move 28 = .ok (.iaload, 1) := by decide +kernel
theorem dX10_move_29 : decode cX10_move 29 = .ok (.if_icmp .ge 65, 3) := by decide +kernel
theorem dX10_move_32 : decode cX10_move 32 = .ok (.aload_n 0, 1) := by decide +kernel
theorem dX10_move_33 : decode cX10_move 33 = .ok (.getfield 37, 3) := by decide +kernel
theorem dX10_move_36 : decode cX10_move 36 = .ok (.bipush 20, 2) := by decide +kernel
theorem dX10_move_38 : decode cX10_move 38 = .ok (.iload_n 2, 1) := by decide +kernel
theorem dX10_move_39 : decode cX10_move 39 = .ok (.imul, 1) := by decide +kernel
theorem dX10_move_40 : decode cX10_move 40 = .ok (.iload 6, 2) := by decide +kernel
theorem dX10_move_42 : decode cX10_move 42 = .ok (.iadd, 1) := by decide +kernel
theorem dX10_move_43 : decode cX10_move 43 = .ok (.iaload, 1) := by decide +kernel
theorem dX10_move_44 : decode cX10_move 44 = .ok (.istore 7, 2) := by decide +kernel
theorem dX10_move_46 : decode cX10_move 46 = .ok (.iload 4, 2) := by decide +kernel
theorem dX10_move_48 : decode cX10_move 48 = .ok (.ifCond .le 23, 3) := by decide +kernel
theorem dX10_move_51 : decode cX10_move 51 = .ok (.iload 7, 2) := by decide +kernel
theorem dX10_move_53 : decode cX10_move 53 = .ok (.aload_n 0, 1) := by decide +kernel
theorem dX10_move_54 : decode cX10_move 54 = .ok (.getfield 28, 3) := by decide +kernel
theorem dX10_move_57 : decode cX10_move 57 = .ok (.iload_n 3, 1) := by decide +kernel
theorem dX10_move_58 : decode cX10_move 58 = .ok (.iaload, 1) := by decide +kernel
theorem dX10_move_59 : decode cX10_move 59 = .ok (.invokestatic 179, 3) := by decide +kernel
theorem dX10_move_62 : decode cX10_move 62 = .ok (.ifCond .eq 9, 3) := by decide +kernel
theorem dX10_move_65 : decode cX10_move 65 = .ok (.iinc 4 (-1), 3) := by decide +kernel
theorem dX10_move_68 : decode cX10_move 68 = .ok (.goto 20, 3) := by decide +kernel
theorem dX10_move_71 : decode cX10_move 71 = .ok (.aload_n 0, 1) := by decide +kernel
theorem dX10_move_72 : decode cX10_move 72 = .ok (.getfield 37, 3) := by decide +kernel
theorem dX10_move_75 : decode cX10_move 75 = .ok (.bipush 20, 2) := by decide +kernel
theorem dX10_move_77 : decode cX10_move 77 = .ok (.iload_n 2, 1) := by decide +kernel
theorem dX10_move_78 : decode cX10_move 78 = .ok (.imul, 1) := by decide +kernel
theorem dX10_move_79 : decode cX10_move 79 = .ok (.iload 5, 2) := by decide +kernel
theorem dX10_move_81 : decode cX10_move 81 = .ok (.iadd, 1) := by decide +kernel
theorem dX10_move_82 : decode cX10_move 82 = .ok (.iload 7, 2) := by decide +kernel
theorem dX10_move_84 : decode cX10_move 84 = .ok (.iastore, 1) := by decide +kernel
theorem dX10_move_85 : decode cX10_move 85 = .ok (.iinc 5 1, 3) := by decide +kernel
theorem dX10_move_88 : decode cX10_move 88 = .ok (.iinc 6 1, 3) := by decide +kernel
theorem dX10_move_91 : decode cX10_move 91 = .ok (.goto (-70), 3) := by decide +kernel
theorem dX10_move_94 : decode cX10_move 94 = .ok (.iconst 0, 1) := by decide +kernel
theorem dX10_move_95 : decode cX10_move 95 = .ok (.istore 6, 2) := by decide +kernel
theorem dX10_move_97 : decode cX10_move 97 = .ok (.iload 6, 2) := by decide +kernel
theorem dX10_move_99 : decode cX10_move 99 = .ok (.aload_n 0, 1) := by decide +kernel
theorem dX10_move_100 : decode cX10_move 100 = .ok (.getfield 19, 3) := by decide +kernel
theorem dX10_move_103 : decode cX10_move 103 = .ok (.iload_n 3, 1) := by decide +kernel
theorem dX10_move_104 : decode cX10_move 104 = .ok (.iaload, 1) := by decide +kernel
theorem dX10_move_105 : decode cX10_move 105 = .ok (.if_icmp .ge 30, 3) := by decide +kernel
theorem dX10_move_108 : decode cX10_move 108 = .ok (.aload_n 0, 1) := by decide +kernel
theorem dX10_move_109 : decode cX10_move 109 = .ok (.getfield 37, 3) := by decide +kernel
theorem dX10_move_112 : decode cX10_move 112 = .ok (.bipush 20, 2) := by decide +kernel
theorem dX10_move_114 : decode cX10_move 114 = .ok (.iload_n 2, 1) := by decide +kernel
theorem dX10_move_115 : decode cX10_move 115 = .ok (.imul, 1) := by decide +kernel
theorem dX10_move_116 : decode cX10_move 116 = .ok (.iload 5, 2) := by decide +kernel
theorem dX10_move_118 : decode cX10_move 118 = .ok (.iadd, 1) := by decide +kernel
theorem dX10_move_119 : decode cX10_move 119 = .ok (.aload_n 0, 1) := by decide +kernel
theorem dX10_move_120 : decode cX10_move 120 = .ok (.getfield 31, 3) := by decide +kernel
theorem dX10_move_123 : decode cX10_move 123 = .ok (.iload_n 3, 1) := by decide +kernel
theorem dX10_move_124 : decode cX10_move 124 = .ok (.iaload, 1) := by decide +kernel
theorem dX10_move_125 : decode cX10_move 125 = .ok (.iastore, 1) := by decide +kernel
theorem dX10_move_126 : decode cX10_move 126 = .ok (.iinc 5 1, 3) := by decide +kernel
theorem dX10_move_129 : decode cX10_move 129 = .ok (.iinc 6 1, 3) := by decide +kernel
theorem dX10_move_132 : decode cX10_move 132 = .ok (.goto (-35), 3) := by decide +kernel
theorem dX10_move_135 : decode cX10_move 135 = .ok (.aload_n 0, 1) := by decide +kernel
theorem dX10_move_136 : decode cX10_move 136 = .ok (.getfield 34, 3) := by decide +kernel
theorem dX10_move_139 : decode cX10_move 139 = .ok (.iload_n 2, 1) := by decide +kernel
theorem dX10_move_140 : decode cX10_move 140 = .ok (.iload 5, 2) := by decide +kernel
theorem dX10_move_142 : decode cX10_move 142 = .ok (.iastore, 1) := by decide +kernel
theorem dX10_move_143 : decode cX10_move 143 = .ok (.return_, 1) := by decide +kernel
theorem dX10_goNow_0 : decode cX10_goNow 0 = .ok (.aload_n 0, 1) := by decide +kernel
theorem dX10_goNow_1 : decode cX10_goNow 1 = .ok (.iload_n 1, 1) := by decide +kernel
theorem dX10_goNow_2 : decode cX10_goNow 2 = .ok (.invokevirtual 204, 3) := by decide +kernel
theorem dX10_goNow_5 : decode cX10_goNow 5 = .ok (.aload_n 0, 1) := by decide +kernel
theorem dX10_goNow_6 : decode cX10_goNow 6 = .ok (.dup, 1) := by decide +kernel
theorem dX10_goNow_7 : decode cX10_goNow 7 = .ok (.getfield 208, 3) := by decide +kernel
theorem dX10_goNow_10 : decode cX10_goNow 10 = .ok (.iconst 1, 1) := by decide +kernel
theorem dX10_goNow_11 : decode cX10_goNow 11 = .ok (.iadd, 1) := by decide +kernel
theorem dX10_goNow_12 : decode cX10_goNow 12 = .ok (.putfield 208, 3) := by decide +kernel
theorem dX10_goNow_15 : decode cX10_goNow 15 = .ok (.iconst 0, 1) := by decide +kernel
theorem dX10_goNow_16 : decode cX10_goNow 16 = .ok (.istore_n 2, 1) := by decide +kernel
theorem dX10_goNow_17 : decode cX10_goNow 17 = .ok (.iload_n 2, 1) := by decide +kernel
theorem dX10_goNow_18 : decode cX10_goNow 18 = .ok (.aload_n 0, 1) := by decide +kernel
theorem dX10_goNow_19 : decode cX10_goNow 19 = .ok (.getfield 127, 3) := by decide +kernel
theorem dX10_goNow_22 : decode cX10_goNow 22 = .ok (.if_icmp .ge 60, 3) := by decide +kernel
theorem dX10_goNow_25 : decode cX10_goNow 25 = .ok (.aload_n 0, 1) := by decide +kernel
theorem dX10_goNow_26 : decode cX10_goNow 26 = .ok (.getfield 7, 3) := by decide +kernel
theorem dX10_goNow_29 : decode cX10_goNow 29 = .ok (.iload_n 2, 1) := by decide +kernel
theorem dX10_goNow_30 : decode cX10_goNow 30 = .ok (.iaload, 1) := by decide +kernel
theorem dX10_goNow_31 : decode cX10_goNow 31 = .ok (.iconst 1, 1) := by decide +kernel
theorem dX10_goNow_32 : decode cX10_goNow 32 = .ok (.if_icmp .ne 12, 3) := by decide +kernel
theorem dX10_goNow_35 : decode cX10_goNow 35 = .ok (.aload_n 0, 1) := by decide +kernel
theorem dX10_goNow_36 : decode cX10_goNow 36 = .ok (.iload_n 1, 1) := by decide +kernel
theorem dX10_goNow_37 : decode cX10_goNow 37 = .ok (.iload_n 2, 1) := by decide +kernel
theorem dX10_goNow_38 : decode cX10_goNow 38 = .ok (.invokevirtual 211, 3) := by decide +kernel
theorem dX10_goNow_41 : decode cX10_goNow 41 = .ok (.goto 35, 3) := by decide +kernel
theorem dX10_goNow_44 : decode cX10_goNow 44 = .ok (.aload_n 0, 1) := by decide +kernel
theorem dX10_goNow_45 : decode cX10_goNow 45 = .ok (.getfield 34, 3) := by decide +kernel
theorem dX10_goNow_48 : decode cX10_goNow 48 = .ok (.iload_n 2, 1) := by decide +kernel
theorem dX10_goNow_49 : decode cX10_goNow 49 = .ok (.dup2, 1) := by decide +kernel
theorem dX10_goNow_50 : decode cX10_goNow 50 = .ok (.iaload, 1) := by decide +kernel
theorem dX10_goNow_51 : decode cX10_goNow 51 = .ok (.aload_n 0, 1) := by decide +kernel
theorem dX10_goNow_52 : decode cX10_goNow 52 = .ok (.getfield 19, 3) := by decide +kernel
theorem dX10_goNow_55 : decode cX10_goNow 55 = .ok (.bipush 16, 2) := by decide +kernel
theorem dX10_goNow_57 : decode cX10_goNow 57 = .ok (.iload_n 1, 1) := by decide +kernel
theorem dX10_goNow_58 : decode cX10_goNow 58 = .ok (.imul, 1) := by decide +kernel
theorem dX10_goNow_59 : decode cX10_goNow 59 = .ok (.iload_n 2, 1) := by decide +kernel
theorem dX10_goNow_60 : decode cX10_goNow 60 = .ok (.iadd, 1) := by decide +kernel
theorem dX10_goNow_61 : decode cX10_goNow 61 = .ok (.iaload, 1) := by decide +kernel
theorem dX10_goNow_62 : decode cX10_goNow 62 = .ok (.aload_n 0, 1) := by decide +kernel
theorem dX10_goNow_63 : decode cX10_goNow 63 = .ok (.getfield 16, 3) := by decide +kernel
theorem dX10_goNow_66 : decode cX10_goNow 66 = .ok (.bipush 16, 2) := by decide +kernel
theorem dX10_goNow_68 : decode cX10_goNow 68 = .ok (.iload_n 1, 1) := by decide +kernel
theorem dX10_goNow_69 : decode cX10_goNow 69 = .ok (.imul, 1) := by decide +kernel
theorem dX10_goNow_70 : decode cX10_goNow 70 = .ok (.iload_n 2, 1) := by decide +kernel
theorem dX10_goNow_71 : decode cX10_goNow 71 = .ok (.iadd, 1) := by decide +kernel
theorem dX10_goNow_72 : decode cX10_goNow 72 = .ok (.iaload, 1) := by decide +kernel
theorem dX10_goNow_73 : decode cX10_goNow 73 = .ok (.isub, 1) := by decide +kernel
theorem dX10_goNow_74 : decode cX10_goNow 74 = .ok (.iadd, 1) := by decide +kernel
theorem dX10_goNow_75 : decode cX10_goNow 75 = .ok (.iastore, 1) := by decide +kernel
theorem dX10_goNow_76 : decode cX10_goNow 76 = .ok (.iinc 2 1, 3) := by decide +kernel
theorem dX10_goNow_79 : decode cX10_goNow 79 = .ok (.goto (-62), 3) := by decide +kernel
theorem dX10_goNow_82 : decode cX10_goNow 82 = .ok (.return_, 1) := by decide +kernel
theorem dX10_go_0 : decode cX10_go 0 = .ok (.aload_n 0, 1) := by decide +kernel
theorem dX10_go_1 : decode cX10_go 1 = .ok (.iload_n 1, 1) := by decide +kernel
theorem dX10_go_2 : decode cX10_go 2 = .ok (.invokevirtual 164, 3) := by decide +kernel
theorem dX10_go_5 : decode cX10_go 5 = .ok (.ifCond .ne 6, 3) := by decide +kernel
theorem dX10_go_8 : decode cX10_go 8 = .ok (.ldc 159, 2) := by decide +kernel
theorem dX10_go_10 : decode cX10_go 10 = .ok (.ireturn, 1) := by decide +kernel
theorem dX10_go_11 : decode cX10_go 11 = .ok (.aload_n 0, 1) := by decide +kernel
theorem dX10_go_12 : decode cX10_go 12 = .ok (.iload_n 1, 1) := by decide +kernel
theorem dX10_go_13 : decode cX10_go 13 = .ok (.invokevirtual 197, 3) := by decide +kernel
theorem dX10_go_16 : decode cX10_go 16 = .ok (.ifCond .ne 6, 3) := by decide +kernel
theorem dX10_go_19 : decode cX10_go 19 = .ok (.ldc 171, 2) := by decide +kernel
theorem dX10_go_21 : decode cX10_go 21 = .ok (.ireturn, 1) := by decide +kernel
theorem dX10_go_22 : decode cX10_go 22 = .ok (.aload_n 0, 1) := by decide +kernel
theorem dX10_go_23 : decode cX10_go 23 = .ok (.iload_n 1, 1) := by decide +kernel
theorem dX10_go_24 : decode cX10_go 24 = .ok (.invokevirtual 215, 3) := by decide +kernel
theorem dX10_go_27 : decode cX10_go 27 = .ok (.ifCond .eq 6, 3) := by decide +kernel
theorem dX10_go_30 : decode cX10_go 30 = .ok (.ldc 160, 2) := by decide +kernel
theorem dX10_go_32 : decode cX10_go 32 = .ok (.ireturn, 1) := by decide +kernel
theorem dX10_go_33 : decode cX10_go 33 = .ok (.aload_n 0, 1) := by decide +kernel
theorem dX10_go_34 : decode cX10_go 34 = .ok (.iload_n 1, 1) := by decide +kernel
theorem dX10_go_35 : decode cX10_go 35 = .ok (.invokevirtual 218, 3) := by decide +kernel
theorem dX10_go_38 : decode cX10_go 38 = .ok (.iconst 0, 1) := by decide +kernel
theorem dX10_go_39 : decode cX10_go 39 = .ok (.ireturn, 1) := by decide +kernel
theorem dX10_run_0 : decode cX10_run 0 = .ok (.iload_n 1, 1) := by decide +kernel
theorem dX10_run_1 : decode cX10_run 1 = .ok (.iconst 1, 1) := by decide +kernel
theorem dX10_run_2 : decode cX10_run 2 = .ok (.sipush 1000, 3) := by decide +kernel
theorem dX10_run_5 : decode cX10_run 5 = .ok (.invokestatic 155, 3) := by decide +kernel
theorem dX10_run_8 : decode cX10_run 8 = .ok (.ifCond .ne 6, 3) := by decide +kernel
theorem dX10_run_11 : decode cX10_run 11 = .ok (.ldc 159, 2) := by decide +kernel
theorem dX10_run_13 : decode cX10_run 13 = .ok (.ireturn, 1) := by decide +kernel
theorem dX10_run_14 : decode cX10_run 14 = .ok (.iconst 0, 1) := by decide +kernel
theorem dX10_run_15 : decode cX10_run 15 = .ok (.istore_n 2, 1) := by decide +kernel
theorem dX10_run_16 : decode cX10_run 16 = .ok (.iconst 1, 1) := by decide +kernel
theorem dX10_run_17 : decode cX10_run 17 = .ok (.istore_n 3, 1) := by decide +kernel
theorem dX10_run_18 : decode cX10_run 18 = .ok (.iload_n 3, 1) := by decide +kernel
theorem dX10_run_19 : decode cX10_run 19 = .ok (.ifCond .eq 75, 3) := by decide +kernel
theorem dX10_run_22 : decode cX10_run 22 = .ok (.iload_n 2, 1) := by decide +kernel
theorem dX10_run_23 : decode cX10_run 23 = .ok (.iload_n 1, 1) := by decide +kernel
theorem dX10_run_24 : decode cX10_run 24 = .ok (.if_icmp .ge 70, 3) := by decide +kernel
theorem dX10_run_27 : decode cX10_run 27 = .ok (.iconst 0, 1) := by decide +kernel
theorem dX10_run_28 : decode cX10_run 28 = .ok (.istore 4, 2) := by decide +kernel
theorem dX10_run_30 : decode cX10_run 30 = .ok (.iload 4, 2) := by decide +kernel
theorem dX10_run_32 : decode cX10_run 32 = .ok (.aload_n 0, 1) := by decide +kernel
theorem dX10_run_33 : decode cX10_run 33 = .ok (.getfield 130, 3) := by decide +kernel
theorem dX10_run_36 : decode cX10_run 36 = .ok (.if_icmp .ge 18, 3) := by decide +kernel
theorem dX10_run_39 : decode cX10_run 39 = .ok (.aload_n 0, 1) := by decide +kernel
theorem dX10_run_40 : decode cX10_run 40 = .ok (.iload 4, 2) := by decide +kernel
theorem dX10_run_42 : decode cX10_run 42 = .ok (.invokevirtual 197, 3) := by decide +kernel
theorem dX10_run_45 : decode cX10_run 45 = .ok (.ifCond .ne 9, 3) := by decide +kernel
theorem dX10_run_48 : decode cX10_run 48 = .ok (.iinc 4 1, 3) := by decide +kernel
theorem dX10_run_51 : decode cX10_run 51 = .ok (.goto (-21), 3) := by decide +kernel
theorem dX10_run_54 : decode cX10_run 54 = .ok (.iload 4, 2) := by decide +kernel
theorem dX10_run_56 : decode cX10_run 56 = .ok (.aload_n 0, 1) := by decide +kernel
theorem dX10_run_57 : decode cX10_run 57 = .ok (.getfield 130, 3) := by decide +kernel
theorem dX10_run_60 : decode cX10_run 60 = .ok (.if_icmp .ge 16, 3) := by decide +kernel
theorem dX10_run_63 : decode cX10_run 63 = .ok (.aload_n 0, 1) := by decide +kernel
theorem dX10_run_64 : decode cX10_run 64 = .ok (.iload 4, 2) := by decide +kernel
theorem dX10_run_66 : decode cX10_run 66 = .ok (.invokevirtual 215, 3) := by decide +kernel
theorem dX10_run_69 : decode cX10_run 69 = .ok (.ifCond .ne 7, 3) := by decide +kernel
theorem dX10_run_72 : decode cX10_run 72 = .ok (.iconst 1, 1) := by decide +kernel
theorem dX10_run_73 : decode cX10_run 73 = .ok (.goto 4, 3) := by decide +kernel
theorem dX10_run_76 : decode cX10_run 76 = .ok (.iconst 0, 1) := by decide +kernel
theorem dX10_run_77 : decode cX10_run 77 = .ok (.istore_n 3, 1) := by decide +kernel
theorem dX10_run_78 : decode cX10_run 78 = .ok (.iload_n 3, 1) := by decide +kernel
theorem dX10_run_79 : decode cX10_run 79 = .ok (.ifCond .eq 12, 3) := by decide +kernel
theorem dX10_run_82 : decode cX10_run 82 = .ok (.aload_n 0, 1) := by decide +kernel
theorem dX10_run_83 : decode cX10_run 83 = .ok (.iload 4, 2) := by decide +kernel
theorem dX10_run_85 : decode cX10_run 85 = .ok (.invokevirtual 218, 3) := by decide +kernel
theorem dX10_run_88 : decode cX10_run 88 = .ok (.iinc 2 1, 3) := by decide +kernel
theorem dX10_run_91 : decode cX10_run 91 = .ok (.goto (-73), 3) := by decide +kernel
theorem dX10_run_94 : decode cX10_run 94 = .ok (.iload_n 2, 1) := by decide +kernel
theorem dX10_run_95 : decode cX10_run 95 = .ok (.ireturn, 1) := by decide +kernel
theorem dX10_back_0 : decode cX10_back 0 = .ok (.aload_n 0, 1) := by decide +kernel
theorem dX10_back_1 : decode cX10_back 1 = .ok (.getfield 152, 3) := by decide +kernel
theorem dX10_back_4 : decode cX10_back 4 = .ok (.ifCond .ne 6, 3) := by decide +kernel
theorem dX10_back_7 : decode cX10_back 7 = .ok (.ldc 171, 2) := by decide +kernel
theorem dX10_back_9 : decode cX10_back 9 = .ok (.ireturn, 1) := by decide +kernel
theorem dX10_back_10 : decode cX10_back 10 = .ok (.aload_n 0, 1) := by decide +kernel
theorem dX10_back_11 : decode cX10_back 11 = .ok (.dup, 1) := by decide +kernel
theorem dX10_back_12 : decode cX10_back 12 = .ok (.getfield 152, 3) := by decide +kernel
theorem dX10_back_15 : decode cX10_back 15 = .ok (.iconst 1, 1) := by decide +kernel
theorem dX10_back_16 : decode cX10_back 16 = .ok (.isub, 1) := by decide +kernel
theorem dX10_back_17 : decode cX10_back 17 = .ok (.putfield 152, 3) := by decide +kernel
theorem dX10_back_20 : decode cX10_back 20 = .ok (.aload_n 0, 1) := by decide +kernel
theorem dX10_back_21 : decode cX10_back 21 = .ok (.getfield 201, 3) := by decide +kernel
theorem dX10_back_24 : decode cX10_back 24 = .ok (.aload_n 0, 1) := by decide +kernel
theorem dX10_back_25 : decode cX10_back 25 = .ok (.getfield 152, 3) := by decide +kernel
theorem dX10_back_28 : decode cX10_back 28 = .ok (.iadd, 1) := by decide +kernel
theorem dX10_back_29 : decode cX10_back 29 = .ok (.sipush 256, 3) := by decide +kernel
theorem dX10_back_32 : decode cX10_back 32 = .ok (.irem, 1) := by decide +kernel
theorem dX10_back_33 : decode cX10_back 33 = .ok (.istore_n 1, 1) := by decide +kernel
theorem dX10_back_34 : decode cX10_back 34 = .ok (.iconst 0, 1) := by decide +kernel
theorem dX10_back_35 : decode cX10_back 35 = .ok (.istore_n 2, 1) := by decide +kernel
theorem dX10_back_36 : decode cX10_back 36 = .ok (.iload_n 2, 1) := by decide +kernel
theorem dX10_back_37 : decode cX10_back 37 = .ok (.bipush 16, 2) := by decide +kernel
theorem dX10_back_39 : decode cX10_back 39 = .ok (.if_icmp .ge 26, 3) := by decide +kernel
theorem dX10_back_42 : decode cX10_back 42 = .ok (.aload_n 0, 1) := by decide +kernel
theorem dX10_back_43 : decode cX10_back 43 = .ok (.getfield 34, 3) := by decide +kernel
theorem dX10_back_46 : decode cX10_back 46 = .ok (.iload_n 2, 1) := by decide +kernel
theorem dX10_back_47 : decode cX10_back 47 = .ok (.aload_n 0, 1) := by decide +kernel
theorem dX10_back_48 : decode cX10_back 48 = .ok (.getfield 43, 3) := by decide +kernel
theorem dX10_back_51 : decode cX10_back 51 = .ok (.bipush 16, 2) := by decide +kernel
theorem dX10_back_53 : decode cX10_back 53 = .ok (.iload_n 1, 1) := by decide +kernel
theorem dX10_back_54 : decode cX10_back 54 = .ok (.imul, 1) := by decide +kernel
theorem dX10_back_55 : decode cX10_back 55 = .ok (.iload_n 2, 1) := by decide +kernel
theorem dX10_back_56 : decode cX10_back 56 = .ok (.iadd, 1) := by decide +kernel
theorem dX10_back_57 : decode cX10_back 57 = .ok (.iaload, 1) := by decide +kernel
theorem dX10_back_58 : decode cX10_back 58 = .ok (.iastore, 1) := by decide +kernel
theorem dX10_back_59 : decode cX10_back 59 = .ok (.iinc 2 1, 3) := by decide +kernel
theorem dX10_back_62 : decode cX10_back 62 = .ok (.goto (-26), 3) := by decide +kernel
theorem dX10_back_65 : decode cX10_back 65 = .ok (.iconst 0, 1) := by decide +kernel
theorem dX10_back_66 : decode cX10_back 66 = .ok (.istore_n 2, 1) := by decide +kernel
theorem dX10_back_67 : decode cX10_back 67 = .ok (.iload_n 2, 1) := by decide +kernel
theorem dX10_back_68 : decode cX10_back 68 = .ok (.sipush 320, 3) := by decide +kernel
theorem dX10_back_71 : decode cX10_back 71 = .ok (.if_icmp .ge 27, 3) := by decide +kernel
theorem dX10_back_74 : decode cX10_back 74 = .ok (.aload_n 0, 1) := by decide +kernel
theorem dX10_back_75 : decode cX10_back 75 = .ok (.getfield 37, 3) := by decide +kernel
theorem dX10_back_78 : decode cX10_back 78 = .ok (.iload_n 2, 1) := by decide +kernel
theorem dX10_back_79 : decode cX10_back 79 = .ok (.aload_n 0, 1) := by decide +kernel
theorem dX10_back_80 : decode cX10_back 80 = .ok (.getfield 47, 3) := by decide +kernel
theorem dX10_back_83 : decode cX10_back 83 = .ok (.sipush 320, 3) := by decide +kernel
theorem dX10_back_86 : decode cX10_back 86 = .ok (.iload_n 1, 1) := by decide +kernel
theorem dX10_back_87 : decode cX10_back 87 = .ok (.imul, 1) := by decide +kernel
theorem dX10_back_88 : decode cX10_back 88 = .ok (.iload_n 2, 1) := by decide +kernel
theorem dX10_back_89 : decode cX10_back 89 = .ok (.iadd, 1) := by decide +kernel
theorem dX10_back_90 : decode cX10_back 90 = .ok (.iaload, 1) := by decide +kernel
theorem dX10_back_91 : decode cX10_back 91 = .ok (.iastore, 1) := by decide +kernel
theorem dX10_back_92 : decode cX10_back 92 = .ok (.iinc 2 1, 3) := by decide +kernel
theorem dX10_back_95 : decode cX10_back 95 = .ok (.goto (-28), 3) := by decide +kernel
theorem dX10_back_98 : decode cX10_back 98 = .ok (.aload_n 0, 1) := by decide +kernel
theorem dX10_back_99 : decode cX10_back 99 = .ok (.getfield 40, 3) := by decide +kernel
theorem dX10_back_102 : decode cX10_back 102 = .ok (.iload_n 1, 1) := by decide +kernel
theorem dX10_back_103 : decode cX10_back 103 = .ok (.iaload, 1) := by decide +kernel
theorem dX10_back_104 : decode cX10_back 104 = .ok (.ireturn, 1) := by decide +kernel
theorem dX10_row_0 : decode cX10_row 0 = .ok (.iload_n 1, 1) := by decide +kernel
theorem dX10_row_1 : decode cX10_row 1 = .ok (.iconst 0, 1) := by decide +kernel
theorem dX10_row_2 : decode cX10_row 2 = .ok (.bipush 16, 2) := by decide +kernel
theorem dX10_row_4 : decode cX10_row 4 = .ok (.invokestatic 155, 3) := by decide +kernel
theorem dX10_row_7 : decode cX10_row 7 = .ok (.ifCond .ne 6, 3) := by decide +kernel
theorem dX10_row_10 : decode cX10_row 10 = .ok (.ldc 159, 2) := by decide +kernel
theorem dX10_row_12 : decode cX10_row 12 = .ok (.ireturn, 1) := by decide +kernel
theorem dX10_row_13 : decode cX10_row 13 = .ok (.aload_n 0, 1) := by decide +kernel
theorem dX10_row_14 : decode cX10_row 14 = .ok (.iload_n 1, 1) := by decide +kernel
theorem dX10_row_15 : decode cX10_row 15 = .ok (.putfield 221, 3) := by decide +kernel
theorem dX10_row_18 : decode cX10_row 18 = .ok (.iconst 0, 1) := by decide +kernel
theorem dX10_row_19 : decode cX10_row 19 = .ok (.istore_n 2, 1) := by decide +kernel
theorem dX10_row_20 : decode cX10_row 20 = .ok (.iload_n 2, 1) := by decide +kernel
theorem dX10_row_21 : decode cX10_row 21 = .ok (.bipush 16, 2) := by decide +kernel
theorem dX10_row_23 : decode cX10_row 23 = .ok (.if_icmp .ge 16, 3) := by decide +kernel
theorem dX10_row_26 : decode cX10_row 26 = .ok (.aload_n 0, 1) := by decide +kernel
theorem dX10_row_27 : decode cX10_row 27 = .ok (.getfield 50, 3) := by decide +kernel
theorem dX10_row_30 : decode cX10_row 30 = .ok (.iload_n 2, 1) := by decide +kernel
theorem dX10_row_31 : decode cX10_row 31 = .ok (.iconst 0, 1) := by decide +kernel
theorem dX10_row_32 : decode cX10_row 32 = .ok (.iastore, 1) := by decide +kernel
theorem dX10_row_33 : decode cX10_row 33 = .ok (.iinc 2 1, 3) := by decide +kernel
theorem dX10_row_36 : decode cX10_row 36 = .ok (.goto (-16), 3) := by decide +kernel
theorem dX10_row_39 : decode cX10_row 39 = .ok (.iload_n 1, 1) := by decide +kernel
theorem dX10_row_40 : decode cX10_row 40 = .ok (.ireturn, 1) := by decide +kernel
theorem dX10_set_0 : decode cX10_set 0 = .ok (.iload_n 1, 1) := by decide +kernel
theorem dX10_set_1 : decode cX10_set 1 = .ok (.iconst 0, 1) := by decide +kernel
theorem dX10_set_2 : decode cX10_set 2 = .ok (.aload_n 0, 1) := by decide +kernel
theorem dX10_set_3 : decode cX10_set 3 = .ok (.getfield 221, 3) := by decide +kernel
theorem dX10_set_6 : decode cX10_set 6 = .ok (.iconst 1, 1) := by decide +kernel
theorem dX10_set_7 : decode cX10_set 7 = .ok (.isub, 1) := by decide +kernel
theorem dX10_set_8 : decode cX10_set 8 = .ok (.invokestatic 155, 3) := by decide +kernel
theorem dX10_set_11 : decode cX10_set 11 = .ok (.ifCond .eq 14, 3) := by decide +kernel
theorem dX10_set_14 : decode cX10_set 14 = .ok (.iload_n 2, 1) := by decide +kernel
theorem dX10_set_15 : decode cX10_set 15 = .ok (.ldc 224, 2) := by decide +kernel
theorem dX10_set_17 : decode cX10_set 17 = .ok (.ldc 200, 2) := by decide +kernel
theorem dX10_set_19 : decode cX10_set 19 = .ok (.invokestatic 155, 3) := by decide +kernel
theorem dX10_set_22 : decode cX10_set 22 = .ok (.ifCond .ne 6, 3) := by decide +kernel
theorem dX10_set_25 : decode cX10_set 25 = .ok (.ldc 159, 2) := by decide +kernel
theorem dX10_set_27 : decode cX10_set 27 = .ok (.ireturn, 1) := by decide +kernel
theorem dX10_set_28 : decode cX10_set 28 = .ok (.aload_n 0, 1) := by decide +kernel
theorem dX10_set_29 : decode cX10_set 29 = .ok (.getfield 50, 3) := by decide +kernel
theorem dX10_set_32 : decode cX10_set 32 = .ok (.iload_n 1, 1) := by decide +kernel
theorem dX10_set_33 : decode cX10_set 33 = .ok (.iaload, 1) := by decide +kernel
theorem dX10_set_34 : decode cX10_set 34 = .ok (.istore_n 3, 1) := by decide +kernel
theorem dX10_set_35 : decode cX10_set 35 = .ok (.aload_n 0, 1) := by decide +kernel
theorem dX10_set_36 : decode cX10_set 36 = .ok (.getfield 50, 3) := by decide +kernel
theorem dX10_set_39 : decode cX10_set 39 = .ok (.iload_n 1, 1) := by decide +kernel
theorem dX10_set_40 : decode cX10_set 40 = .ok (.iload_n 2, 1) := by decide +kernel
theorem dX10_set_41 : decode cX10_set 41 = .ok (.iastore, 1) := by decide +kernel
theorem dX10_set_42 : decode cX10_set 42 = .ok (.iload_n 3, 1) := by decide +kernel
theorem dX10_set_43 : decode cX10_set 43 = .ok (.ireturn, 1) := by decide +kernel
theorem dX10_get_0 : decode cX10_get 0 = .ok (.iload_n 1, 1) := by decide +kernel
theorem dX10_get_1 : decode cX10_get 1 = .ok (.iconst 0, 1) := by decide +kernel
theorem dX10_get_2 : decode cX10_get 2 = .ok (.aload_n 0, 1) := by decide +kernel
theorem dX10_get_3 : decode cX10_get 3 = .ok (.getfield 221, 3) := by decide +kernel
theorem dX10_get_6 : decode cX10_get 6 = .ok (.iconst 1, 1) := by decide +kernel
theorem dX10_get_7 : decode cX10_get 7 = .ok (.isub, 1) := by decide +kernel
theorem dX10_get_8 : decode cX10_get 8 = .ok (.invokestatic 155, 3) := by decide +kernel
theorem dX10_get_11 : decode cX10_get 11 = .ok (.ifCond .eq 12, 3) := by decide +kernel
theorem dX10_get_14 : decode cX10_get 14 = .ok (.aload_n 0, 1) := by decide +kernel
theorem dX10_get_15 : decode cX10_get 15 = .ok (.getfield 50, 3) := by decide +kernel
theorem dX10_get_18 : decode cX10_get 18 = .ok (.iload_n 1, 1) := by decide +kernel
theorem dX10_get_19 : decode cX10_get 19 = .ok (.iaload, 1) := by decide +kernel
theorem dX10_get_20 : decode cX10_get 20 = .ok (.goto 5, 3) := by decide +kernel
theorem dX10_get_23 : decode cX10_get 23 = .ok (.ldc 159, 2) := by decide +kernel
theorem dX10_get_25 : decode cX10_get 25 = .ok (.ireturn, 1) := by decide +kernel
theorem dX10_copy_0 : decode cX10_copy 0 = .ok (.iload_n 3, 1) := by decide +kernel
theorem dX10_copy_1 : decode cX10_copy 1 = .ok (.iconst 0, 1) := by decide +kernel
theorem dX10_copy_2 : decode cX10_copy 2 = .ok (.aload_n 0, 1) := by decide +kernel
theorem dX10_copy_3 : decode cX10_copy 3 = .ok (.getfield 221, 3) := by decide +kernel
theorem dX10_copy_6 : decode cX10_copy 6 = .ok (.invokestatic 155, 3) := by decide +kernel
theorem dX10_copy_9 : decode cX10_copy 9 = .ok (.ifCond .eq 31, 3) := by decide +kernel
theorem dX10_copy_12 : decode cX10_copy 12 = .ok (.iload_n 1, 1) := by decide +kernel
theorem dX10_copy_13 : decode cX10_copy 13 = .ok (.iconst 0, 1) := by decide +kernel
theorem dX10_copy_14 : decode cX10_copy 14 = .ok (.aload_n 0, 1) := by decide +kernel
theorem dX10_copy_15 : decode cX10_copy 15 = .ok (.getfield 221, 3) := by decide +kernel
theorem dX10_copy_18 : decode cX10_copy 18 = .ok (.iload_n 3, 1) := by decide +kernel
theorem dX10_copy_19 : decode cX10_copy 19 = .ok (.isub, 1) := by decide +kernel
theorem dX10_copy_20 : decode cX10_copy 20 = .ok (.invokestatic 155, 3) := by decide +kernel
theorem dX10_copy_23 : decode cX10_copy 23 = .ok (.ifCond .eq 17, 3) := by decide +kernel
theorem dX10_copy_26 : decode cX10_copy 26 = .ok (.iload_n 2, 1) := by decide +kernel
theorem dX10_copy_27 : decode cX10_copy 27 = .ok (.iconst 0, 1) := by decide +kernel
theorem dX10_copy_28 : decode cX10_copy 28 = .ok (.aload_n 0, 1) := by decide +kernel
theorem dX10_copy_29 : decode cX10_copy 29 = .ok (.getfield 221, 3) := by decide +kernel
theorem dX10_copy_32 : decode cX10_copy 32 = .ok (.iload_n 3, 1) := by decide +kernel
theorem dX10_copy_33 : decode cX10_copy 33 = .ok (.isub, 1) := by decide +kernel
theorem dX10_copy_34 : decode cX10_copy 34 = .ok (.invokestatic 155, 3) := by decide +kernel
theorem dX10_copy_37 : decode cX10_copy 37 = .ok (.ifCond .ne 6, 3) := by decide +kernel
theorem dX10_copy_40 : decode cX10_copy 40 = .ok (.ldc 159, 2) := by decide +kernel
theorem dX10_copy_42 : decode cX10_copy 42 = .ok (.ireturn, 1) := by decide +kernel
theorem dX10_copy_43 : decode cX10_copy 43 = .ok (.iconst 0, 1) := by decide +kernel
theorem dX10_copy_44 : decode cX10_copy 44 = .ok (.istore 4, 2) := by decide +kernel
theorem dX10_copy_46 : decode cX10_copy 46 = .ok (.iload 4, 2) := by decide +kernel
theorem dX10_copy_48 : decode cX10_copy 48 = .ok (.iload_n 3, 1) := by decide +kernel
theorem dX10_copy_49 : decode cX10_copy 49 = .ok (.if_icmp .ge 25, 3) := by decide +kernel
theorem dX10_copy_52 : decode cX10_copy 52 = .ok (.aload_n 0, 1) := by decide +kernel
theorem dX10_copy_53 : decode cX10_copy 53 = .ok (.getfield 53, 3) := by decide +kernel
theorem dX10_copy_56 : decode cX10_copy 56 = .ok (.iload 4, 2) := by decide +kernel
theorem dX10_copy_58 : decode cX10_copy 58 = .ok (.aload_n 0, 1) := by decide +kernel
theorem dX10_copy_59 : decode cX10_copy 59 = .ok (.getfield 50, 3) := by decide +kernel
theorem dX10_copy_62 : decode cX10_copy 62 = .ok (.iload_n 1, 1) := by decide +kernel
theorem dX10_copy_63 : decode cX10_copy 63 = .ok (.iload 4, 2) := by decide +kernel
theorem dX10_copy_65 : decode cX10_copy 65 = .ok (.iadd, 1) := by decide +kernel
theorem dX10_copy_66 : decode cX10_copy 66 = .ok (.iaload, 1) := by decide +kernel
theorem dX10_copy_67 : decode cX10_copy 67 = .ok (.iastore, 1) := by decide +kernel
theorem dX10_copy_68 : decode cX10_copy 68 = .ok (.iinc 4 1, 3) := by decide +kernel
theorem dX10_copy_71 : decode cX10_copy 71 = .ok (.goto (-25), 3) := by decide +kernel
theorem dX10_copy_74 : decode cX10_copy 74 = .ok (.iconst 0, 1) := by decide +kernel
theorem dX10_copy_75 : decode cX10_copy 75 = .ok (.istore 4, 2) := by decide +kernel
theorem dX10_copy_77 : decode cX10_copy 77 = .ok (.iload 4, 2) := by decide +kernel
theorem dX10_copy_79 : decode cX10_copy 79 = .ok (.iload_n 3, 1) := by decide +kernel
theorem dX10_copy_80 : decode cX10_copy 80 = .ok (.if_icmp .ge 25, 3) := by decide +kernel
theorem dX10_copy_83 : decode cX10_copy 83 = .ok (.aload_n 0, 1) := by decide +kernel
theorem dX10_copy_84 : decode cX10_copy 84 = .ok (.getfield 50, 3) := by decide +kernel
theorem dX10_copy_87 : decode cX10_copy 87 = .ok (.iload_n 2, 1) := by decide +kernel
theorem dX10_copy_88 : decode cX10_copy 88 = .ok (.iload 4, 2) := by decide +kernel
theorem dX10_copy_90 : decode cX10_copy 90 = .ok (.iadd, 1) := by decide +kernel
theorem dX10_copy_91 : decode cX10_copy 91 = .ok (.aload_n 0, 1) := by decide +kernel
theorem dX10_copy_92 : decode cX10_copy 92 = .ok (.getfield 53, 3) := by decide +kernel
theorem dX10_copy_95 : decode cX10_copy 95 = .ok (.iload 4, 2) := by decide +kernel
theorem dX10_copy_97 : decode cX10_copy 97 = .ok (.iaload, 1) := by decide +kernel
theorem dX10_copy_98 : decode cX10_copy 98 = .ok (.iastore, 1) := by decide +kernel
theorem dX10_copy_99 : decode cX10_copy 99 = .ok (.iinc 4 1, 3) := by decide +kernel
theorem dX10_copy_102 : decode cX10_copy 102 = .ok (.goto (-25), 3) := by decide +kernel
theorem dX10_copy_105 : decode cX10_copy 105 = .ok (.iconst 0, 1) := by decide +kernel
theorem dX10_copy_106 : decode cX10_copy 106 = .ok (.ireturn, 1) := by decide +kernel
theorem dX10_told_0 : decode cX10_told 0 = .ok (.iload_n 1, 1) := by decide +kernel
theorem dX10_told_1 : decode cX10_told 1 = .ok (.aload_n 0, 1) := by decide +kernel
theorem dX10_told_2 : decode cX10_told 2 = .ok (.getfield 221, 3) := by decide +kernel
theorem dX10_told_5 : decode cX10_told 5 = .ok (.if_icmp .ge 12, 3) := by decide +kernel
theorem dX10_told_8 : decode cX10_told 8 = .ok (.aload_n 0, 1) := by decide +kernel
theorem dX10_told_9 : decode cX10_told 9 = .ok (.getfield 50, 3) := by decide +kernel
theorem dX10_told_12 : decode cX10_told 12 = .ok (.iload_n 1, 1) := by decide +kernel
theorem dX10_told_13 : decode cX10_told 13 = .ok (.iaload, 1) := by decide +kernel
theorem dX10_told_14 : decode cX10_told 14 = .ok (.goto 4, 3) := by decide +kernel
theorem dX10_told_17 : decode cX10_told 17 = .ok (.iconst 0, 1) := by decide +kernel
theorem dX10_told_18 : decode cX10_told 18 = .ok (.ireturn, 1) := by decide +kernel
theorem dX10_lay_0 : decode cX10_lay 0 = .ok (.aload_n 0, 1) := by decide +kernel
theorem dX10_lay_1 : decode cX10_lay 1 = .ok (.iload_n 1, 1) := by decide +kernel
theorem dX10_lay_2 : decode cX10_lay 2 = .ok (.invokevirtual 164, 3) := by decide +kernel
theorem dX10_lay_5 : decode cX10_lay 5 = .ok (.ifCond .ne 6, 3) := by decide +kernel
theorem dX10_lay_8 : decode cX10_lay 8 = .ok (.ldc 159, 2) := by decide +kernel
theorem dX10_lay_10 : decode cX10_lay 10 = .ok (.ireturn, 1) := by decide +kernel
theorem dX10_lay_11 : decode cX10_lay 11 = .ok (.aload_n 0, 1) := by decide +kernel
theorem dX10_lay_12 : decode cX10_lay 12 = .ok (.getfield 225, 3) := by decide +kernel
theorem dX10_lay_15 : decode cX10_lay 15 = .ok (.sipush 8000, 3) := by decide +kernel
theorem dX10_lay_18 : decode cX10_lay 18 = .ok (.if_icmp .ne 6, 3) := by decide +kernel
theorem dX10_lay_21 : decode cX10_lay 21 = .ok (.ldc 160, 2) := by decide +kernel
theorem dX10_lay_23 : decode cX10_lay 23 = .ok (.ireturn, 1) := by decide +kernel
theorem dX10_lay_24 : decode cX10_lay 24 = .ok (.aload_n 0, 1) := by decide +kernel
theorem dX10_lay_25 : decode cX10_lay 25 = .ok (.getfield 56, 3) := by decide +kernel
theorem dX10_lay_28 : decode cX10_lay 28 = .ok (.aload_n 0, 1) := by decide +kernel
theorem dX10_lay_29 : decode cX10_lay 29 = .ok (.getfield 225, 3) := by decide +kernel
theorem dX10_lay_32 : decode cX10_lay 32 = .ok (.iload_n 1, 1) := by decide +kernel
theorem dX10_lay_33 : decode cX10_lay 33 = .ok (.iastore, 1) := by decide +kernel
theorem dX10_lay_34 : decode cX10_lay 34 = .ok (.aload_n 0, 1) := by decide +kernel
theorem dX10_lay_35 : decode cX10_lay 35 = .ok (.dup, 1) := by decide +kernel
theorem dX10_lay_36 : decode cX10_lay 36 = .ok (.getfield 225, 3) := by decide +kernel
theorem dX10_lay_39 : decode cX10_lay 39 = .ok (.iconst 1, 1) := by decide +kernel
theorem dX10_lay_40 : decode cX10_lay 40 = .ok (.iadd, 1) := by decide +kernel
theorem dX10_lay_41 : decode cX10_lay 41 = .ok (.putfield 225, 3) := by decide +kernel
theorem dX10_lay_44 : decode cX10_lay 44 = .ok (.aload_n 0, 1) := by decide +kernel
theorem dX10_lay_45 : decode cX10_lay 45 = .ok (.getfield 225, 3) := by decide +kernel
theorem dX10_lay_48 : decode cX10_lay 48 = .ok (.ireturn, 1) := by decide +kernel
theorem dX10_lift_0 : decode cX10_lift 0 = .ok (.aload_n 0, 1) := by decide +kernel
theorem dX10_lift_1 : decode cX10_lift 1 = .ok (.getfield 225, 3) := by decide +kernel
theorem dX10_lift_4 : decode cX10_lift 4 = .ok (.istore_n 1, 1) := by decide +kernel
