theorem dX10_turns_77 : decode cX10_turns 77 = .ok (.ladd, 1) := by decide +kernel
theorem dX10_turns_78 : decode cX10_turns 78 = .ok (.lstore_n 3, 1) := by decide +kernel
theorem dX10_turns_79 : decode cX10_turns 79 = .ok (.iinc 5 1, 3) := by decide +kernel
theorem dX10_turns_82 : decode cX10_turns 82 = .ok (.goto (-31), 3) := by decide +kernel
theorem dX10_turns_85 : decode cX10_turns 85 = .ok (.iload_n 1, 1) := by decide +kernel
theorem dX10_turns_86 : decode cX10_turns 86 = .ok (.ifCond .eq 13, 3) := by decide +kernel
theorem dX10_turns_89 : decode cX10_turns 89 = .ok (.lload_n 3, 1) := by decide +kernel
theorem dX10_turns_90 : decode cX10_turns 90 = .ok (.lconst 0, 1) := by decide +kernel
theorem dX10_turns_91 : decode cX10_turns 91 = .ok (.lcmp, 1) := by decide +kernel
theorem dX10_turns_92 : decode cX10_turns 92 = .ok (.ifCond .ne 7, 3) := by decide +kernel
theorem dX10_turns_95 : decode cX10_turns 95 = .ok (.iconst 1, 1) := by decide +kernel
theorem dX10_turns_96 : decode cX10_turns 96 = .ok (.goto 4, 3) := by decide +kernel
theorem dX10_turns_99 : decode cX10_turns 99 = .ok (.iconst 0, 1) := by decide +kernel
theorem dX10_turns_100 : decode cX10_turns 100 = .ok (.istore_n 1, 1) := by decide +kernel
theorem dX10_turns_101 : decode cX10_turns 101 = .ok (.iinc 2 1, 3) := by decide +kernel
theorem dX10_turns_104 : decode cX10_turns 104 = .ok (.goto (-66), 3) := by decide +kernel
theorem dX10_turns_107 : decode cX10_turns 107 = .ok (.iload_n 1, 1) := by decide +kernel
theorem dX10_turns_108 : decode cX10_turns 108 = .ok (.ifCond .eq 7, 3) := by decide +kernel
theorem dX10_turns_111 : decode cX10_turns 111 = .ok (.iconst 1, 1) := by decide +kernel
theorem dX10_turns_112 : decode cX10_turns 112 = .ok (.goto 4, 3) := by decide +kernel
theorem dX10_turns_115 : decode cX10_turns 115 = .ok (.iconst 0, 1) := by decide +kernel
theorem dX10_turns_116 : decode cX10_turns 116 = .ok (.ireturn, 1) := by decide +kernel
theorem dX10_bitsOf_0 : decode cX10_bitsOf 0 = .ok (.iconst 0, 1) := by decide +kernel
theorem dX10_bitsOf_1 : decode cX10_bitsOf 1 = .ok (.istore_n 3, 1) := by decide +kernel
theorem dX10_bitsOf_2 : decode cX10_bitsOf 2 = .ok (.iconst 0, 1) := by decide +kernel
theorem dX10_bitsOf_3 : decode cX10_bitsOf 3 = .ok (.istore 4, 2) := by decide +kernel
theorem dX10_bitsOf_5 : decode cX10_bitsOf 5 = .ok (.iload 4, 2) := by decide +kernel
theorem dX10_bitsOf_7 : decode cX10_bitsOf 7 = .ok (.aload_n 0, 1) := by decide +kernel
theorem dX10_bitsOf_8 : decode cX10_bitsOf 8 = .ok (.getfield 127, 3) := by decide +kernel
theorem dX10_bitsOf_11 : decode cX10_bitsOf 11 = .ok (.if_icmp .ge 58, 3) := by decide +kernel
theorem dX10_bitsOf_14 : decode cX10_bitsOf 14 = .ok (.iload_n 2, 1) := by decide +kernel
theorem dX10_bitsOf_15 : decode cX10_bitsOf 15 = .ok (.ifCond .eq 18, 3) := by decide +kernel
theorem dX10_bitsOf_18 : decode cX10_bitsOf 18 = .ok (.aload_n 0, 1) := by decide +kernel
theorem dX10_bitsOf_19 : decode cX10_bitsOf 19 = .ok (.getfield 16, 3) := by decide +kernel
theorem dX10_bitsOf_22 : decode cX10_bitsOf 22 = .ok (.bipush 16, 2) := by decide +kernel
theorem dX10_bitsOf_24 : decode cX10_bitsOf 24 = .ok (.iload_n 1, 1) := by decide +kernel
theorem dX10_bitsOf_25 : decode cX10_bitsOf 25 = .ok (.imul, 1) := by decide +kernel
theorem dX10_bitsOf_26 : decode cX10_bitsOf 26 = .ok (.iload 4, 2) := by decide +kernel
theorem dX10_bitsOf_28 : decode cX10_bitsOf 28 = .ok (.iadd, 1) := by decide +kernel
theorem dX10_bitsOf_29 : decode cX10_bitsOf 29 = .ok (.iaload, 1) := by decide +kernel
theorem dX10_bitsOf_30 : decode cX10_bitsOf 30 = .ok (.goto 15, 3) := by decide +kernel
theorem dX10_bitsOf_33 : decode cX10_bitsOf 33 = .ok (.aload_n 0, 1) := by decide +kernel
theorem dX10_bitsOf_34 : decode cX10_bitsOf 34 = .ok (.getfield 19, 3) := by decide +kernel
theorem dX10_bitsOf_37 : decode cX10_bitsOf 37 = .ok (.bipush 16, 2) := by decide +kernel
theorem dX10_bitsOf_39 : decode cX10_bitsOf 39 = .ok (.iload_n 1, 1) := by decide +kernel
theorem dX10_bitsOf_40 : decode cX10_bitsOf 40 = .ok (.imul, 1) := by decide +kernel
theorem dX10_bitsOf_41 : decode cX10_bitsOf 41 = .ok (.iload 4, 2) := by decide +kernel
theorem dX10_bitsOf_43 : decode cX10_bitsOf 43 = .ok (.iadd, 1) := by decide +kernel
theorem dX10_bitsOf_44 : decode cX10_bitsOf 44 = .ok (.iaload, 1) := by decide +kernel
theorem dX10_bitsOf_45 : decode cX10_bitsOf 45 = .ok (.istore 5, 2) := by decide +kernel
theorem dX10_bitsOf_47 : decode cX10_bitsOf 47 = .ok (.iload_n 3, 1) := by decide +kernel
theorem dX10_bitsOf_48 : decode cX10_bitsOf 48 = .ok (.iload 5, 2) := by decide +kernel
theorem dX10_bitsOf_50 : decode cX10_bitsOf 50 = .ok (.ifCond .le 10, 3) := by decide +kernel
theorem dX10_bitsOf_53 : decode cX10_bitsOf 53 = .ok (.iconst 1, 1) := by decide +kernel
theorem dX10_bitsOf_54 : decode cX10_bitsOf 54 = .ok (.iload 4, 2) := by decide +kernel
theorem dX10_bitsOf_56 : decode cX10_bitsOf 56 = .ok (.ishl, 1) := by decide +kernel
theorem dX10_bitsOf_57 : decode cX10_bitsOf 57 = .ok (.goto 4, 3) := by decide +kernel
theorem dX10_bitsOf_60 : decode cX10_bitsOf 60 = .ok (.iconst 0, 1) := by decide +kernel
theorem dX10_bitsOf_61 : decode cX10_bitsOf 61 = .ok (.ior, 1) := by decide +kernel
theorem dX10_bitsOf_62 : decode cX10_bitsOf 62 = .ok (.istore_n 3, 1) := by decide +kernel
theorem dX10_bitsOf_63 : decode cX10_bitsOf 63 = .ok (.iinc 4 1, 3) := by decide +kernel
theorem dX10_bitsOf_66 : decode cX10_bitsOf 66 = .ok (.goto (-61), 3) := by decide +kernel
theorem dX10_bitsOf_69 : decode cX10_bitsOf 69 = .ok (.iload_n 3, 1) := by decide +kernel
theorem dX10_bitsOf_70 : decode cX10_bitsOf 70 = .ok (.ireturn, 1) := by decide +kernel
theorem dX10_readSteps_0 : decode cX10_readSteps 0 = .ok (.iconst 0, 1) := by decide +kernel
theorem dX10_readSteps_1 : decode cX10_readSteps 1 = .ok (.istore_n 2, 1) := by decide +kernel
theorem dX10_readSteps_2 : decode cX10_readSteps 2 = .ok (.iload_n 2, 1) := by decide +kernel
theorem dX10_readSteps_3 : decode cX10_readSteps 3 = .ok (.aload_n 0, 1) := by decide +kernel
theorem dX10_readSteps_4 : decode cX10_readSteps 4 = .ok (.getfield 130, 3) := by decide +kernel
theorem dX10_readSteps_7 : decode cX10_readSteps 7 = .ok (.if_icmp .ge 50, 3) := by decide +kernel
theorem dX10_readSteps_10 : decode cX10_readSteps 10 = .ok (.aload_n 0, 1) := by decide +kernel
theorem dX10_readSteps_11 : decode cX10_readSteps 11 = .ok (.getfield 118, 3) := by decide +kernel
theorem dX10_readSteps_14 : decode cX10_readSteps 14 = .ok (.iload_n 2, 1) := by decide +kernel
theorem dX10_readSteps_15 : decode cX10_readSteps 15 = .ok (.aload_n 0, 1) := by decide +kernel
theorem dX10_readSteps_16 : decode cX10_readSteps 16 = .ok (.iload_n 2, 1) := by decide +kernel
theorem dX10_readSteps_17 : decode cX10_readSteps 17 = .ok (.iload_n 1, 1) := by decide +kernel
theorem dX10_readSteps_18 : decode cX10_readSteps 18 = .ok (.iconst 1, 1) := by decide +kernel
theorem dX10_readSteps_19 : decode cX10_readSteps 19 = .ok (.if_icmp .ne 7, 3) := by decide +kernel
theorem dX10_readSteps_22 : decode cX10_readSteps 22 = .ok (.iconst 1, 1) := by decide +kernel
theorem dX10_readSteps_23 : decode cX10_readSteps 23 = .ok (.goto 4, 3) := by decide +kernel
theorem dX10_readSteps_26 : decode cX10_readSteps 26 = .ok (.iconst 0, 1) := by decide +kernel
theorem dX10_readSteps_27 : decode cX10_readSteps 27 = .ok (.invokevirtual 351, 3) := by decide +kernel
theorem dX10_readSteps_30 : decode cX10_readSteps 30 = .ok (.iastore, 1) := by decide +kernel
theorem dX10_readSteps_31 : decode cX10_readSteps 31 = .ok (.aload_n 0, 1) := by decide +kernel
theorem dX10_readSteps_32 : decode cX10_readSteps 32 = .ok (.getfield 121, 3) := by decide +kernel
theorem dX10_readSteps_35 : decode cX10_readSteps 35 = .ok (.iload_n 2, 1) := by decide +kernel
theorem dX10_readSteps_36 : decode cX10_readSteps 36 = .ok (.aload_n 0, 1) := by decide +kernel
theorem dX10_readSteps_37 : decode cX10_readSteps 37 = .ok (.iload_n 2, 1) := by decide +kernel
theorem dX10_readSteps_38 : decode cX10_readSteps 38 = .ok (.iload_n 1, 1) := by decide +kernel
theorem dX10_readSteps_39 : decode cX10_readSteps 39 = .ok (.ifCond .ne 7, 3) := by decide +kernel
theorem dX10_readSteps_42 : decode cX10_readSteps 42 = .ok (.iconst 1, 1) := by decide +kernel
theorem dX10_readSteps_43 : decode cX10_readSteps 43 = .ok (.goto 4, 3) := by decide +kernel
theorem dX10_readSteps_46 : decode cX10_readSteps 46 = .ok (.iconst 0, 1) := by decide +kernel
theorem dX10_readSteps_47 : decode cX10_readSteps 47 = .ok (.invokevirtual 351, 3) := by decide +kernel
theorem dX10_readSteps_50 : decode cX10_readSteps 50 = .ok (.iastore, 1) := by decide +kernel
theorem dX10_readSteps_51 : decode cX10_readSteps 51 = .ok (.iinc 2 1, 3) := by decide +kernel
theorem dX10_readSteps_54 : decode cX10_readSteps 54 = .ok (.goto (-52), 3) := by decide +kernel
theorem dX10_readSteps_57 : decode cX10_readSteps 57 = .ok (.return_, 1) := by decide +kernel
theorem dX10_isKept_0 : decode cX10_isKept 0 = .ok (.iload_n 1, 1) := by decide +kernel
theorem dX10_isKept_1 : decode cX10_isKept 1 = .ok (.ifCond .eq 7, 3) := by decide +kernel
theorem dX10_isKept_4 : decode cX10_isKept 4 = .ok (.iconst 1, 1) := by decide +kernel
theorem dX10_isKept_5 : decode cX10_isKept 5 = .ok (.goto 4, 3) := by decide +kernel
theorem dX10_isKept_8 : decode cX10_isKept 8 = .ok (.iconst 0, 1) := by decide +kernel
theorem dX10_isKept_9 : decode cX10_isKept 9 = .ok (.istore_n 2, 1) := by decide +kernel
theorem dX10_isKept_10 : decode cX10_isKept 10 = .ok (.iconst 0, 1) := by decide +kernel
theorem dX10_isKept_11 : decode cX10_isKept 11 = .ok (.istore_n 3, 1) := by decide +kernel
theorem dX10_isKept_12 : decode cX10_isKept 12 = .ok (.iload_n 3, 1) := by decide +kernel
theorem dX10_isKept_13 : decode cX10_isKept 13 = .ok (.aload_n 0, 1) := by decide +kernel
theorem dX10_isKept_14 : decode cX10_isKept 14 = .ok (.getfield 130, 3) := by decide +kernel
theorem dX10_isKept_17 : decode cX10_isKept 17 = .ok (.if_icmp .ge 41, 3) := by decide +kernel
theorem dX10_isKept_20 : decode cX10_isKept 20 = .ok (.iload_n 2, 1) := by decide +kernel
theorem dX10_isKept_21 : decode cX10_isKept 21 = .ok (.ifCond .eq 29, 3) := by decide +kernel
theorem dX10_isKept_24 : decode cX10_isKept 24 = .ok (.iload_n 1, 1) := by decide +kernel
theorem dX10_isKept_25 : decode cX10_isKept 25 = .ok (.aload_n 0, 1) := by decide +kernel
theorem dX10_isKept_26 : decode cX10_isKept 26 = .ok (.getfield 118, 3) := by decide +kernel
theorem dX10_isKept_29 : decode cX10_isKept 29 = .ok (.iload_n 3, 1) := by decide +kernel
theorem dX10_isKept_30 : decode cX10_isKept 30 = .ok (.iaload, 1) := by decide +kernel
theorem dX10_isKept_31 : decode cX10_isKept 31 = .ok (.iand, 1) := by decide +kernel
theorem dX10_isKept_32 : decode cX10_isKept 32 = .ok (.ifCond .eq 14, 3) := by decide +kernel
theorem dX10_isKept_35 : decode cX10_isKept 35 = .ok (.iload_n 1, 1) := by decide +kernel
theorem dX10_isKept_36 : decode cX10_isKept 36 = .ok (.aload_n 0, 1) := by decide +kernel
theorem dX10_isKept_37 : decode cX10_isKept 37 = .ok (.getfield 121, 3) := by decide +kernel
theorem dX10_isKept_40 : decode cX10_isKept 40 = .ok (.iload_n 3, 1) := by decide +kernel
theorem dX10_isKept_41 : decode cX10_isKept 41 = .ok (.iaload, 1) := by decide +kernel
theorem dX10_isKept_42 : decode cX10_isKept 42 = .ok (.iand, 1) := by decide +kernel
theorem dX10_isKept_43 : decode cX10_isKept 43 = .ok (.ifCond .eq 7, 3) := by decide +kernel
theorem dX10_isKept_46 : decode cX10_isKept 46 = .ok (.iconst 1, 1) := by decide +kernel
theorem dX10_isKept_47 : decode cX10_isKept 47 = .ok (.goto 4, 3) := by decide +kernel
theorem dX10_isKept_50 : decode cX10_isKept 50 = .ok (.iconst 0, 1) := by decide +kernel
theorem dX10_isKept_51 : decode cX10_isKept 51 = .ok (.istore_n 2, 1) := by decide +kernel
theorem dX10_isKept_52 : decode cX10_isKept 52 = .ok (.iinc 3 1, 3) := by decide +kernel
theorem dX10_isKept_55 : decode cX10_isKept 55 = .ok (.goto (-43), 3) := by decide +kernel
theorem dX10_isKept_58 : decode cX10_isKept 58 = .ok (.iload_n 2, 1) := by decide +kernel
theorem dX10_isKept_59 : decode cX10_isKept 59 = .ok (.ireturn, 1) := by decide +kernel
theorem dX10_greatestIn_0 : decode cX10_greatestIn 0 = .ok (.iload_n 1, 1) := by decide +kernel
theorem dX10_greatestIn_1 : decode cX10_greatestIn 1 = .ok (.istore_n 2, 1) := by decide +kernel
theorem dX10_greatestIn_2 : decode cX10_greatestIn 2 = .ok (.iload_n 1, 1) := by decide +kernel
theorem dX10_greatestIn_3 : decode cX10_greatestIn 3 = .ok (.iconst (-1), 1) := by decide +kernel
theorem dX10_greatestIn_4 : decode cX10_greatestIn 4 = .ok (.ixor, 1) := by decide +kernel
theorem dX10_greatestIn_5 : decode cX10_greatestIn 5 = .ok (.istore_n 3, 1) := by decide +kernel
theorem dX10_greatestIn_6 : decode cX10_greatestIn 6 = .ok (.iload_n 2, 1) := by decide +kernel
theorem dX10_greatestIn_7 : decode cX10_greatestIn 7 = .ok (.iload_n 3, 1) := by decide +kernel
theorem dX10_greatestIn_8 : decode cX10_greatestIn 8 = .ok (.if_icmp .eq 54, 3) := by decide +kernel
theorem dX10_greatestIn_11 : decode cX10_greatestIn 11 = .ok (.iload_n 2, 1) := by decide +kernel
theorem dX10_greatestIn_12 : decode cX10_greatestIn 12 = .ok (.istore_n 3, 1) := by decide +kernel
theorem dX10_greatestIn_13 : decode cX10_greatestIn 13 = .ok (.iconst 0, 1) := by decide +kernel
theorem dX10_greatestIn_14 : decode cX10_greatestIn 14 = .ok (.istore 4, 2) := by decide +kernel
theorem dX10_greatestIn_16 : decode cX10_greatestIn 16 = .ok (.iload 4, 2) := by decide +kernel
theorem dX10_greatestIn_18 : decode cX10_greatestIn 18 = .ok (.aload_n 0, 1) := by decide +kernel
theorem dX10_greatestIn_19 : decode cX10_greatestIn 19 = .ok (.getfield 130, 3) := by decide +kernel
theorem dX10_greatestIn_22 : decode cX10_greatestIn 22 = .ok (.if_icmp .ge 37, 3) := by decide +kernel
theorem dX10_greatestIn_25 : decode cX10_greatestIn 25 = .ok (.iload_n 2, 1) := by decide +kernel
theorem dX10_greatestIn_26 : decode cX10_greatestIn 26 = .ok (.aload_n 0, 1) := by decide +kernel
theorem dX10_greatestIn_27 : decode cX10_greatestIn 27 = .ok (.getfield 121, 3) := by decide +kernel
theorem dX10_greatestIn_30 : decode cX10_greatestIn 30 = .ok (.iload 4, 2) := by decide +kernel
theorem dX10_greatestIn_32 : decode cX10_greatestIn 32 = .ok (.iaload, 1) := by decide +kernel
theorem dX10_greatestIn_33 : decode cX10_greatestIn 33 = .ok (.iand, 1) := by decide +kernel
theorem dX10_greatestIn_34 : decode cX10_greatestIn 34 = .ok (.ifCond .ne 17, 3) := by decide +kernel
theorem dX10_greatestIn_37 : decode cX10_greatestIn 37 = .ok (.iload_n 2, 1) := by decide +kernel
theorem dX10_greatestIn_38 : decode cX10_greatestIn 38 = .ok (.aload_n 0, 1) := by decide +kernel
theorem dX10_greatestIn_39 : decode cX10_greatestIn 39 = .ok (.getfield 118, 3) := by decide +kernel
theorem dX10_greatestIn_42 : decode cX10_greatestIn 42 = .ok (.iload 4, 2) := by decide +kernel
theorem dX10_greatestIn_44 : decode cX10_greatestIn 44 = .ok (.iaload, 1) := by decide +kernel
theorem dX10_greatestIn_45 : decode cX10_greatestIn 45 = .ok (.iconst (-1), 1) := by decide +kernel
theorem dX10_greatestIn_46 : decode cX10_greatestIn 46 = .ok (.ixor, 1) := by decide +kernel
theorem dX10_greatestIn_47 : decode cX10_greatestIn 47 = .ok (.iand, 1) := by decide +kernel
theorem dX10_greatestIn_48 : decode cX10_greatestIn 48 = .ok (.goto 4, 3) := by decide +kernel
theorem dX10_greatestIn_51 : decode cX10_greatestIn 51 = .ok (.iload_n 2, 1) := by decide +kernel
theorem dX10_greatestIn_52 : decode cX10_greatestIn 52 = .ok (.istore_n 2, 1) := by decide +kernel
theorem dX10_greatestIn_53 : decode cX10_greatestIn 53 = .ok (.iinc 4 1, 3) := by decide +kernel
theorem dX10_greatestIn_56 : decode cX10_greatestIn 56 = .ok (.goto (-40), 3) := by decide +kernel
theorem dX10_greatestIn_59 : decode cX10_greatestIn 59 = .ok (.goto (-53), 3) := by decide +kernel
theorem dX10_greatestIn_62 : decode cX10_greatestIn 62 = .ok (.iload_n 2, 1) := by decide +kernel
theorem dX10_greatestIn_63 : decode cX10_greatestIn 63 = .ok (.ireturn, 1) := by decide +kernel
theorem dX10_isLeast_0 : decode cX10_isLeast 0 = .ok (.aload_n 0, 1) := by decide +kernel
theorem dX10_isLeast_1 : decode cX10_isLeast 1 = .ok (.iload_n 1, 1) := by decide +kernel
theorem dX10_isLeast_2 : decode cX10_isLeast 2 = .ok (.invokevirtual 355, 3) := by decide +kernel
theorem dX10_isLeast_5 : decode cX10_isLeast 5 = .ok (.istore_n 2, 1) := by decide +kernel
theorem dX10_isLeast_6 : decode cX10_isLeast 6 = .ok (.iconst 0, 1) := by decide +kernel
theorem dX10_isLeast_7 : decode cX10_isLeast 7 = .ok (.istore_n 3, 1) := by decide +kernel
theorem dX10_isLeast_8 : decode cX10_isLeast 8 = .ok (.iload_n 3, 1) := by decide +kernel
theorem dX10_isLeast_9 : decode cX10_isLeast 9 = .ok (.aload_n 0, 1) := by decide +kernel
theorem dX10_isLeast_10 : decode cX10_isLeast 10 = .ok (.getfield 127, 3) := by decide +kernel
theorem dX10_isLeast_13 : decode cX10_isLeast 13 = .ok (.if_icmp .ge 41, 3) := by decide +kernel
theorem dX10_isLeast_16 : decode cX10_isLeast 16 = .ok (.iload_n 2, 1) := by decide +kernel
theorem dX10_isLeast_17 : decode cX10_isLeast 17 = .ok (.ifCond .eq 37, 3) := by decide +kernel
theorem dX10_isLeast_20 : decode cX10_isLeast 20 = .ok (.iload_n 1, 1) := by decide +kernel
theorem dX10_isLeast_21 : decode cX10_isLeast 21 = .ok (.iload_n 3, 1) := by decide +kernel
theorem dX10_isLeast_22 : decode cX10_isLeast 22 = .ok (.ishr, 1) := by decide +kernel
theorem dX10_isLeast_23 : decode cX10_isLeast 23 = .ok (.iconst 1, 1) := by decide +kernel
theorem dX10_isLeast_24 : decode cX10_isLeast 24 = .ok (.iand, 1) := by decide +kernel
theorem dX10_isLeast_25 : decode cX10_isLeast 25 = .ok (.ifCond .eq 17, 3) := by decide +kernel
theorem dX10_isLeast_28 : decode cX10_isLeast 28 = .ok (.aload_n 0, 1) := by decide +kernel
theorem dX10_isLeast_29 : decode cX10_isLeast 29 = .ok (.iload_n 1, 1) := by decide +kernel
theorem dX10_isLeast_30 : decode cX10_isLeast 30 = .ok (.iconst 1, 1) := by decide +kernel
theorem dX10_isLeast_31 : decode cX10_isLeast 31 = .ok (.iload_n 3, 1) := by decide +kernel
theorem dX10_isLeast_32 : decode cX10_isLeast 32 = .ok (.ishl, 1) := by decide +kernel
theorem dX10_isLeast_33 : decode cX10_isLeast 33 = .ok (.iconst (-1), 1) := by decide +kernel
theorem dX10_isLeast_34 : decode cX10_isLeast 34 = .ok (.ixor, 1) := by decide +kernel
theorem dX10_isLeast_35 : decode cX10_isLeast 35 = .ok (.iand, 1) := by decide +kernel
theorem dX10_isLeast_36 : decode cX10_isLeast 36 = .ok (.invokevirtual 358, 3) := by decide +kernel
theorem dX10_isLeast_39 : decode cX10_isLeast 39 = .ok (.ifCond .ne 7, 3) := by decide +kernel
theorem dX10_isLeast_42 : decode cX10_isLeast 42 = .ok (.iconst 1, 1) := by decide +kernel
theorem dX10_isLeast_43 : decode cX10_isLeast 43 = .ok (.goto 4, 3) := by decide +kernel
theorem dX10_isLeast_46 : decode cX10_isLeast 46 = .ok (.iconst 0, 1) := by decide +kernel
theorem dX10_isLeast_47 : decode cX10_isLeast 47 = .ok (.istore_n 2, 1) := by decide +kernel
theorem dX10_isLeast_48 : decode cX10_isLeast 48 = .ok (.iinc 3 1, 3) := by decide +kernel
theorem dX10_isLeast_51 : decode cX10_isLeast 51 = .ok (.goto (-43), 3) := by decide +kernel
theorem dX10_isLeast_54 : decode cX10_isLeast 54 = .ok (.iload_n 2, 1) := by decide +kernel
theorem dX10_isLeast_55 : decode cX10_isLeast 55 = .ok (.ireturn, 1) := by decide +kernel
theorem dX10_sets_0 : decode cX10_sets 0 = .ok (.iload_n 1, 1) := by decide +kernel
theorem dX10_sets_1 : decode cX10_sets 1 = .ok (.iconst 0, 1) := by decide +kernel
theorem dX10_sets_2 : decode cX10_sets 2 = .ok (.iconst 1, 1) := by decide +kernel
theorem dX10_sets_3 : decode cX10_sets 3 = .ok (.invokestatic 155, 3) := by decide +kernel
theorem dX10_sets_6 : decode cX10_sets 6 = .ok (.ifCond .eq 14, 3) := by decide +kernel
theorem dX10_sets_9 : decode cX10_sets 9 = .ok (.iload_n 2, 1) := by decide +kernel
theorem dX10_sets_10 : decode cX10_sets 10 = .ok (.iconst 1, 1) := by decide +kernel
theorem dX10_sets_11 : decode cX10_sets 11 = .ok (.sipush 500, 3) := by decide +kernel
theorem dX10_sets_14 : decode cX10_sets 14 = .ok (.invokestatic 155, 3) := by decide +kernel
theorem dX10_sets_17 : decode cX10_sets 17 = .ok (.ifCond .ne 6, 3) := by decide +kernel
theorem dX10_sets_20 : decode cX10_sets 20 = .ok (.ldc 159, 2) := by decide +kernel
theorem dX10_sets_22 : decode cX10_sets 22 = .ok (.ireturn, 1) := by decide +kernel
theorem dX10_sets_23 : decode cX10_sets 23 = .ok (.aload_n 0, 1) := by decide +kernel
theorem dX10_sets_24 : decode cX10_sets 24 = .ok (.iload_n 1, 1) := by decide +kernel
theorem dX10_sets_25 : decode cX10_sets 25 = .ok (.invokevirtual 361, 3) := by decide +kernel
theorem dX10_sets_28 : decode cX10_sets 28 = .ok (.aload_n 0, 1) := by decide +kernel
theorem dX10_sets_29 : decode cX10_sets 29 = .ok (.iconst 0, 1) := by decide +kernel
theorem dX10_sets_30 : decode cX10_sets 30 = .ok (.putfield 149, 3) := by decide +kernel
theorem dX10_sets_33 : decode cX10_sets 33 = .ok (.iconst 1, 1) := by decide +kernel
theorem dX10_sets_34 : decode cX10_sets 34 = .ok (.istore_n 3, 1) := by decide +kernel
theorem dX10_sets_35 : decode cX10_sets 35 = .ok (.iload_n 3, 1) := by decide +kernel
theorem dX10_sets_36 : decode cX10_sets 36 = .ok (.iconst 1, 1) := by decide +kernel
theorem dX10_sets_37 : decode cX10_sets 37 = .ok (.aload_n 0, 1) := by decide +kernel
theorem dX10_sets_38 : decode cX10_sets 38 = .ok (.getfield 127, 3) := by decide +kernel
theorem dX10_sets_41 : decode cX10_sets 41 = .ok (.ishl, 1) := by decide +kernel
theorem dX10_sets_42 : decode cX10_sets 42 = .ok (.if_icmp .ge 45, 3) := by decide +kernel
theorem dX10_sets_45 : decode cX10_sets 45 = .ok (.aload_n 0, 1) := by decide +kernel
theorem dX10_sets_46 : decode cX10_sets 46 = .ok (.getfield 149, 3) := by decide +kernel
theorem dX10_sets_49 : decode cX10_sets 49 = .ok (.iload_n 2, 1) := by decide +kernel
theorem dX10_sets_50 : decode cX10_sets 50 = .ok (.if_icmp .ge 37, 3) := by decide +kernel
theorem dX10_sets_53 : decode cX10_sets 53 = .ok (.aload_n 0, 1) := by decide +kernel
theorem dX10_sets_54 : decode cX10_sets 54 = .ok (.iload_n 3, 1) := by decide +kernel
theorem dX10_sets_55 : decode cX10_sets 55 = .ok (.invokevirtual 364, 3) := by decide +kernel
theorem dX10_sets_58 : decode cX10_sets 58 = .ok (.ifCond .eq 23, 3) := by decide +kernel
theorem dX10_sets_61 : decode cX10_sets 61 = .ok (.aload_n 0, 1) := by decide +kernel
theorem dX10_sets_62 : decode cX10_sets 62 = .ok (.getfield 115, 3) := by decide +kernel
theorem dX10_sets_65 : decode cX10_sets 65 = .ok (.aload_n 0, 1) := by decide +kernel
theorem dX10_sets_66 : decode cX10_sets 66 = .ok (.getfield 149, 3) := by decide +kernel
theorem dX10_sets_69 : decode cX10_sets 69 = .ok (.iload_n 3, 1) := by decide +kernel
theorem dX10_sets_70 : decode cX10_sets 70 = .ok (.iastore, 1) := by decide +kernel
theorem dX10_sets_71 : decode cX10_sets 71 = .ok (.aload_n 0, 1) := by decide +kernel
theorem dX10_sets_72 : decode cX10_sets 72 = .ok (.dup, 1) := by decide +kernel
theorem dX10_sets_73 : decode cX10_sets 73 = .ok (.getfield 149, 3) := by decide +kernel
theorem dX10_sets_76 : decode cX10_sets 76 = .ok (.iconst 1, 1) := by decide +kernel
theorem dX10_sets_77 : decode cX10_sets 77 = .ok (.iadd, 1) := by decide +kernel
theorem dX10_sets_78 : decode cX10_sets 78 = .ok (.putfield 149, 3) := by decide +kernel
theorem dX10_sets_81 : decode cX10_sets 81 = .ok (.iinc 3 1, 3) := by decide +kernel
theorem dX10_sets_84 : decode cX10_sets 84 = .ok (.goto (-49), 3) := by decide +kernel
theorem dX10_sets_87 : decode cX10_sets 87 = .ok (.aload_n 0, 1) := by decide +kernel
theorem dX10_sets_88 : decode cX10_sets 88 = .ok (.getfield 149, 3) := by decide +kernel
theorem dX10_sets_91 : decode cX10_sets 91 = .ok (.ireturn, 1) := by decide +kernel
theorem dX10_bits_0 : decode cX10_bits 0 = .ok (.iload_n 1, 1) := by decide +kernel
theorem dX10_bits_1 : decode cX10_bits 1 = .ok (.iconst 0, 1) := by decide +kernel
theorem dX10_bits_2 : decode cX10_bits 2 = .ok (.aload_n 0, 1) := by decide +kernel
theorem dX10_bits_3 : decode cX10_bits 3 = .ok (.getfield 149, 3) := by decide +kernel
theorem dX10_bits_6 : decode cX10_bits 6 = .ok (.iconst 1, 1) := by decide +kernel
theorem dX10_bits_7 : decode cX10_bits 7 = .ok (.isub, 1) := by decide +kernel
theorem dX10_bits_8 : decode cX10_bits 8 = .ok (.invokestatic 155, 3) := by decide +kernel
theorem dX10_bits_11 : decode cX10_bits 11 = .ok (.ifCond .eq 12, 3) := by decide +kernel
theorem dX10_bits_14 : decode cX10_bits 14 = .ok (.aload_n 0, 1) := by decide +kernel
theorem dX10_bits_15 : decode cX10_bits 15 = .ok (.getfield 115, 3) := by decide +kernel
theorem dX10_bits_18 : decode cX10_bits 18 = .ok (.iload_n 1, 1) := by decide +kernel
theorem dX10_bits_19 : decode cX10_bits 19 = .ok (.iaload, 1) := by decide +kernel
theorem dX10_bits_20 : decode cX10_bits 20 = .ok (.goto 5, 3) := by decide +kernel
theorem dX10_bits_23 : decode cX10_bits 23 = .ok (.ldc 159, 2) := by decide +kernel
theorem dX10_bits_25 : decode cX10_bits 25 = .ok (.ireturn, 1) := by decide +kernel
theorem dX10_areBits_0 : decode cX10_areBits 0 = .ok (.iload_n 2, 1) := by decide +kernel
theorem dX10_areBits_1 : decode cX10_areBits 1 = .ok (.iconst 0, 1) := by decide +kernel
theorem dX10_areBits_2 : decode cX10_areBits 2 = .ok (.iconst 1, 1) := by decide +kernel
theorem dX10_areBits_3 : decode cX10_areBits 3 = .ok (.invokestatic 155, 3) := by decide +kernel
theorem dX10_areBits_6 : decode cX10_areBits 6 = .ok (.ifCond .eq 23, 3) := by decide +kernel
theorem dX10_areBits_9 : decode cX10_areBits 9 = .ok (.iload_n 1, 1) := by decide +kernel
theorem dX10_areBits_10 : decode cX10_areBits 10 = .ok (.iconst 0, 1) := by decide +kernel
theorem dX10_areBits_11 : decode cX10_areBits 11 = .ok (.iconst 1, 1) := by decide +kernel
theorem dX10_areBits_12 : decode cX10_areBits 12 = .ok (.aload_n 0, 1) := by decide +kernel
theorem dX10_areBits_13 : decode cX10_areBits 13 = .ok (.getfield 127, 3) := by decide +kernel
theorem dX10_areBits_16 : decode cX10_areBits 16 = .ok (.ishl, 1) := by decide +kernel
theorem dX10_areBits_17 : decode cX10_areBits 17 = .ok (.iconst 1, 1) := by decide +kernel
theorem dX10_areBits_18 : decode cX10_areBits 18 = .ok (.isub, 1) := by decide +kernel
theorem dX10_areBits_19 : decode cX10_areBits 19 = .ok (.invokestatic 155, 3) := by decide +kernel
theorem dX10_areBits_22 : decode cX10_areBits 22 = .ok (.ifCond .eq 7, 3) := by decide +kernel
theorem dX10_areBits_25 : decode cX10_areBits 25 = .ok (.iconst 1, 1) := by decide +kernel
theorem dX10_areBits_26 : decode cX10_areBits 26 = .ok (.goto 4, 3) := by decide +kernel
theorem dX10_areBits_29 : decode cX10_areBits 29 = .ok (.iconst 0, 1) := by decide +kernel
theorem dX10_areBits_30 : decode cX10_areBits 30 = .ok (.ireturn, 1) := by decide +kernel
theorem dX10_isSet_0 : decode cX10_isSet 0 = .ok (.aload_n 0, 1) := by decide +kernel
theorem dX10_isSet_1 : decode cX10_isSet 1 = .ok (.iload_n 1, 1) := by decide +kernel
theorem dX10_isSet_2 : decode cX10_isSet 2 = .ok (.iload_n 2, 1) := by decide +kernel
theorem dX10_isSet_3 : decode cX10_isSet 3 = .ok (.invokevirtual 367, 3) := by decide +kernel
theorem dX10_isSet_6 : decode cX10_isSet 6 = .ok (.ifCond .ne 6, 3) := by decide +kernel
theorem dX10_isSet_9 : decode cX10_isSet 9 = .ok (.ldc 159, 2) := by decide +kernel
theorem dX10_isSet_11 : decode cX10_isSet 11 = .ok (.ireturn, 1) := by decide +kernel
theorem dX10_isSet_12 : decode cX10_isSet 12 = .ok (.aload_n 0, 1) := by decide +kernel
theorem dX10_isSet_13 : decode cX10_isSet 13 = .ok (.iload_n 2, 1) := by decide +kernel
theorem dX10_isSet_14 : decode cX10_isSet 14 = .ok (.invokevirtual 361, 3) := by decide +kernel
theorem dX10_isSet_17 : decode cX10_isSet 17 = .ok (.aload_n 0, 1) := by decide +kernel
theorem dX10_isSet_18 : decode cX10_isSet 18 = .ok (.iload_n 1, 1) := by decide +kernel
theorem dX10_isSet_19 : decode cX10_isSet 19 = .ok (.invokevirtual 355, 3) := by decide +kernel
theorem dX10_isSet_22 : decode cX10_isSet 22 = .ok (.ifCond .eq 7, 3) := by decide +kernel
theorem dX10_isSet_25 : decode cX10_isSet 25 = .ok (.iconst 1, 1) := by decide +kernel
theorem dX10_isSet_26 : decode cX10_isSet 26 = .ok (.goto 4, 3) := by decide +kernel
theorem dX10_isSet_29 : decode cX10_isSet 29 = .ok (.iconst 0, 1) := by decide +kernel
theorem dX10_isSet_30 : decode cX10_isSet 30 = .ok (.ireturn, 1) := by decide +kernel
theorem dX10_greatest_0 : decode cX10_greatest 0 = .ok (.aload_n 0, 1) := by decide +kernel
theorem dX10_greatest_1 : decode cX10_greatest 1 = .ok (.iload_n 1, 1) := by decide +kernel
theorem dX10_greatest_2 : decode cX10_greatest 2 = .ok (.iload_n 2, 1) := by decide +kernel
theorem dX10_greatest_3 : decode cX10_greatest 3 = .ok (.invokevirtual 367, 3) := by decide +kernel
theorem dX10_greatest_6 : decode cX10_greatest 6 = .ok (.ifCond .ne 6, 3) := by decide +kernel
theorem dX10_greatest_9 : decode cX10_greatest 9 = .ok (.ldc 159, 2) := by decide +kernel
theorem dX10_greatest_11 : decode cX10_greatest 11 = .ok (.ireturn, 1) := by decide +kernel
theorem dX10_greatest_12 : decode cX10_greatest 12 = .ok (.aload_n 0, 1) := by decide +kernel
theorem dX10_greatest_13 : decode cX10_greatest 13 = .ok (.iload_n 2, 1) := by decide +kernel
theorem dX10_greatest_14 : decode cX10_greatest 14 = .ok (.invokevirtual 361, 3) := by decide +kernel
theorem dX10_greatest_17 : decode cX10_greatest 17 = .ok (.aload_n 0, 1) := by decide +kernel
theorem dX10_greatest_18 : decode cX10_greatest 18 = .ok (.iload_n 1, 1) := by decide +kernel
theorem dX10_greatest_19 : decode cX10_greatest 19 = .ok (.invokevirtual 358, 3) := by decide +kernel
theorem dX10_greatest_22 : decode cX10_greatest 22 = .ok (.ireturn, 1) := by decide +kernel
theorem dX10_manyBits_0 : decode cX10_manyBits 0 = .ok (.iconst 0, 1) := by decide +kernel
theorem dX10_manyBits_1 : decode cX10_manyBits 1 = .ok (.istore_n 2, 1) := by decide +kernel
theorem dX10_manyBits_2 : decode cX10_manyBits 2 = .ok (.iconst 0, 1) := by decide +kernel
theorem dX10_manyBits_3 : decode cX10_manyBits 3 = .ok (.istore_n 3, 1) := by decide +kernel
theorem dX10_manyBits_4 : decode cX10_manyBits 4 = .ok (.iload_n 3, 1) := by decide +kernel
theorem dX10_manyBits_5 : decode cX10_manyBits 5 = .ok (.bipush 16, 2) := by decide +kernel
theorem dX10_manyBits_7 : decode cX10_manyBits 7 = .ok (.if_icmp .ge 17, 3) := by decide +kernel
theorem dX10_manyBits_10 : decode cX10_manyBits 10 = .ok (.iload_n 2, 1) := by decide +kernel
theorem dX10_manyBits_11 : decode cX10_manyBits 11 = .ok (.iload_n 1, 1) := by decide +kernel
theorem dX10_manyBits_12 : decode cX10_manyBits 12 = .ok (.iload_n 3, 1) := by decide +kernel
theorem dX10_manyBits_13 : decode cX10_manyBits 13 = .ok (.ishr, 1) := by decide +kernel
theorem dX10_manyBits_14 : decode cX10_manyBits 14 = .ok (.iconst 1, 1) := by decide +kernel
theorem dX10_manyBits_15 : decode cX10_manyBits 15 = .ok (.iand, 1) := by decide +kernel
theorem dX10_manyBits_16 : decode cX10_manyBits 16 = .ok (.iadd, 1) := by decide +kernel
theorem dX10_manyBits_17 : decode cX10_manyBits 17 = .ok (.istore_n 2, 1) := by decide +kernel
theorem dX10_manyBits_18 : decode cX10_manyBits 18 = .ok (.iinc 3 1, 3) := by decide +kernel
theorem dX10_manyBits_21 : decode cX10_manyBits 21 = .ok (.goto (-17), 3) := by decide +kernel
theorem dX10_manyBits_24 : decode cX10_manyBits 24 = .ok (.iload_n 2, 1) := by decide +kernel
theorem dX10_manyBits_25 : decode cX10_manyBits 25 = .ok (.ireturn, 1) := by decide +kernel
theorem dX10_isSimple_0 : decode cX10_isSimple 0 = .ok (.aload_n 0, 1) := by decide +kernel
theorem dX10_isSimple_1 : decode cX10_isSimple 1 = .ok (.invokevirtual 228, 3) := by decide +kernel
theorem dX10_isSimple_4 : decode cX10_isSimple 4 = .ok (.ifCond .ne 7, 3) := by decide +kernel
theorem dX10_isSimple_7 : decode cX10_isSimple 7 = .ok (.iconst 1, 1) := by decide +kernel
theorem dX10_isSimple_8 : decode cX10_isSimple 8 = .ok (.goto 4, 3) := by decide +kernel
theorem dX10_isSimple_11 : decode cX10_isSimple 11 = .ok (.iconst 0, 1) := by decide +kernel
theorem dX10_isSimple_12 : decode cX10_isSimple 12 = .ok (.istore_n 1, 1) := by decide +kernel
theorem dX10_isSimple_13 : decode cX10_isSimple 13 = .ok (.iconst 0, 1) := by decide +kernel
theorem dX10_isSimple_14 : decode cX10_isSimple 14 = .ok (.istore_n 2, 1) := by decide +kernel
theorem dX10_isSimple_15 : decode cX10_isSimple 15 = .ok (.iload_n 2, 1) := by decide +kernel
theorem dX10_isSimple_16 : decode cX10_isSimple 16 = .ok (.aload_n 0, 1) := by decide +kernel
theorem dX10_isSimple_17 : decode cX10_isSimple 17 = .ok (.getfield 130, 3) := by decide +kernel
theorem dX10_isSimple_20 : decode cX10_isSimple 20 = .ok (.if_icmp .ge 84, 3) := by decide +kernel
theorem dX10_isSimple_23 : decode cX10_isSimple 23 = .ok (.iload_n 1, 1) := by decide +kernel
theorem dX10_isSimple_24 : decode cX10_isSimple 24 = .ok (.ifCond .eq 16, 3) := by decide +kernel
theorem dX10_isSimple_27 : decode cX10_isSimple 27 = .ok (.aload_n 0, 1) := by decide +kernel
theorem dX10_isSimple_28 : decode cX10_isSimple 28 = .ok (.getfield 13, 3) := by decide +kernel
theorem dX10_isSimple_31 : decode cX10_isSimple 31 = .ok (.iload_n 2, 1) := by decide +kernel
theorem dX10_isSimple_32 : decode cX10_isSimple 32 = .ok (.iaload, 1) := by decide +kernel
theorem dX10_isSimple_33 : decode cX10_isSimple 33 = .ok (.ifCond .ne 7, 3) := by decide +kernel
theorem dX10_isSimple_36 : decode cX10_isSimple 36 = .ok (.iconst 1, 1) := by decide +kernel
theorem dX10_isSimple_37 : decode cX10_isSimple 37 = .ok (.goto 4, 3) := by decide +kernel
theorem dX10_isSimple_40 : decode cX10_isSimple 40 = .ok (.iconst 0, 1) := by decide +kernel
theorem dX10_isSimple_41 : decode cX10_isSimple 41 = .ok (.istore_n 1, 1) := by decide +kernel
theorem dX10_isSimple_42 : decode cX10_isSimple 42 = .ok (.iconst 0, 1) := by decide +kernel
theorem dX10_isSimple_43 : decode cX10_isSimple 43 = .ok (.istore_n 3, 1) := by decide +kernel
theorem dX10_isSimple_44 : decode cX10_isSimple 44 = .ok (.iload_n 3, 1) := by decide +kernel
theorem dX10_isSimple_45 : decode cX10_isSimple 45 = .ok (.aload_n 0, 1) := by decide +kernel
theorem dX10_isSimple_46 : decode cX10_isSimple 46 = .ok (.getfield 127, 3) := by decide +kernel
theorem dX10_isSimple_49 : decode cX10_isSimple 49 = .ok (.if_icmp .ge 49, 3) := by decide +kernel
theorem dX10_isSimple_52 : decode cX10_isSimple 52 = .ok (.iload_n 1, 1) := by decide +kernel
theorem dX10_isSimple_53 : decode cX10_isSimple 53 = .ok (.ifCond .eq 37, 3) := by decide +kernel
theorem dX10_isSimple_56 : decode cX10_isSimple 56 = .ok (.aload_n 0, 1) := by decide +kernel
theorem dX10_isSimple_57 : decode cX10_isSimple 57 = .ok (.getfield 16, 3) := by decide +kernel
theorem dX10_isSimple_60 : decode cX10_isSimple 60 = .ok (.bipush 16, 2) := by decide +kernel
theorem dX10_isSimple_62 : decode cX10_isSimple 62 = .ok (.iload_n 2, 1) := by decide +kernel
theorem dX10_isSimple_63 : decode cX10_isSimple 63 = .ok (.imul, 1) := by decide +kernel
theorem dX10_isSimple_64 : decode cX10_isSimple 64 = .ok (.iload_n 3, 1) := by decide +kernel
theorem dX10_isSimple_65 : decode cX10_isSimple 65 = .ok (.iadd, 1) := by decide +kernel
theorem dX10_isSimple_66 : decode cX10_isSimple 66 = .ok (.iaload, 1) := by decide +kernel
theorem dX10_isSimple_67 : decode cX10_isSimple 67 = .ok (.iconst 1, 1) := by decide +kernel
theorem dX10_isSimple_68 : decode cX10_isSimple 68 = .ok (.if_icmp .gt 22, 3) := by decide +kernel
theorem dX10_isSimple_71 : decode cX10_isSimple 71 = .ok (.aload_n 0, 1) := by decide +kernel
theorem dX10_isSimple_72 : decode cX10_isSimple 72 = .ok (.getfield 19, 3) := by decide +kernel
theorem dX10_isSimple_75 : decode cX10_isSimple 75 = .ok (.bipush 16, 2) := by decide +kernel
theorem dX10_isSimple_77 : decode cX10_isSimple 77 = .ok (.iload_n 2, 1) := by decide +kernel
theorem dX10_isSimple_78 : decode cX10_isSimple 78 = .ok (.imul, 1) := by decide +kernel
theorem dX10_isSimple_79 : decode cX10_isSimple 79 = .ok (.iload_n 3, 1) := by decide +kernel
theorem dX10_isSimple_80 : decode cX10_isSimple 80 = .ok (.iadd, 1) := by decide +kernel
theorem dX10_isSimple_81 : decode cX10_isSimple 81 = .ok (.iaload, 1) := by decide +kernel
theorem dX10_isSimple_82 : decode cX10_isSimple 82 = .ok (.iconst 1, 1) := by decide +kernel
theorem dX10_isSimple_83 : decode cX10_isSimple 83 = .ok (.if_icmp .gt 7, 3) := by decide +kernel
theorem dX10_isSimple_86 : decode cX10_isSimple 86 = .ok (.iconst 1, 1) := by decide +kernel
theorem dX10_isSimple_87 : decode cX10_isSimple 87 = .ok (.goto 4, 3) := by decide +kernel
theorem dX10_isSimple_90 : decode cX10_isSimple 90 = .ok (.iconst 0, 1) := by decide +kernel
theorem dX10_isSimple_91 : decode cX10_isSimple 91 = .ok (.istore_n 1, 1) := by decide +kernel
theorem dX10_isSimple_92 : decode cX10_isSimple 92 = .ok (.iinc 3 1, 3) := by decide +kernel
theorem dX10_isSimple_95 : decode cX10_isSimple 95 = .ok (.goto (-51), 3) := by decide +kernel
theorem dX10_isSimple_98 : decode cX10_isSimple 98 = .ok (.iinc 2 1, 3) := by decide +kernel
theorem dX10_isSimple_101 : decode cX10_isSimple 101 = .ok (.goto (-86), 3) := by decide +kernel
theorem dX10_isSimple_104 : decode cX10_isSimple 104 = .ok (.iload_n 1, 1) := by decide +kernel
theorem dX10_isSimple_105 : decode cX10_isSimple 105 = .ok (.ireturn, 1) := by decide +kernel
theorem dX10_free_0 : decode cX10_free 0 = .ok (.aload_n 0, 1) := by decide +kernel
theorem dX10_free_1 : decode cX10_free 1 = .ok (.invokevirtual 370, 3) := by decide +kernel
theorem dX10_free_4 : decode cX10_free 4 = .ok (.istore_n 1, 1) := by decide +kernel
theorem dX10_free_5 : decode cX10_free 5 = .ok (.iconst 0, 1) := by decide +kernel
theorem dX10_free_6 : decode cX10_free 6 = .ok (.istore_n 2, 1) := by decide +kernel
theorem dX10_free_7 : decode cX10_free 7 = .ok (.iload_n 2, 1) := by decide +kernel
theorem dX10_free_8 : decode cX10_free 8 = .ok (.aload_n 0, 1) := by decide +kernel
theorem dX10_free_9 : decode cX10_free 9 = .ok (.getfield 127, 3) := by decide +kernel
theorem dX10_free_12 : decode cX10_free 12 = .ok (.if_icmp .ge 101, 3) := by decide +kernel
theorem dX10_free_15 : decode cX10_free 15 = .ok (.iconst 0, 1) := by decide +kernel
theorem dX10_free_16 : decode cX10_free 16 = .ok (.istore_n 3, 1) := by decide +kernel
theorem dX10_free_17 : decode cX10_free 17 = .ok (.iconst 1, 1) := by decide +kernel
theorem dX10_free_18 : decode cX10_free 18 = .ok (.istore 4, 2) := by decide +kernel
theorem dX10_free_20 : decode cX10_free 20 = .ok (.iconst 0, 1) := by decide +kernel
theorem dX10_free_21 : decode cX10_free 21 = .ok (.istore 5, 2) := by decide +kernel
theorem dX10_free_23 : decode cX10_free 23 = .ok (.iload 5, 2) := by decide +kernel
theorem dX10_free_25 : decode cX10_free 25 = .ok (.aload_n 0, 1) := by decide +kernel
theorem dX10_free_26 : decode cX10_free 26 = .ok (.getfield 130, 3) := by decide +kernel
theorem dX10_free_29 : decode cX10_free 29 = .ok (.if_icmp .ge 54, 3) := by decide +kernel
theorem dX10_free_32 : decode cX10_free 32 = .ok (.aload_n 0, 1) := by decide +kernel
theorem dX10_free_33 : decode cX10_free 33 = .ok (.getfield 16, 3) := by decide +kernel
theorem dX10_free_36 : decode cX10_free 36 = .ok (.bipush 16, 2) := by decide +kernel
theorem dX10_free_38 : decode cX10_free 38 = .ok (.iload 5, 2) := by decide +kernel
theorem dX10_free_40 : decode cX10_free 40 = .ok (.imul, 1) := by decide +kernel
theorem dX10_free_41 : decode cX10_free 41 = .ok (.iload_n 2, 1) := by decide +kernel
theorem dX10_free_42 : decode cX10_free 42 = .ok (.iadd, 1) := by decide +kernel
theorem dX10_free_43 : decode cX10_free 43 = .ok (.iaload, 1) := by decide +kernel
theorem dX10_free_44 : decode cX10_free 44 = .ok (.ifCond .le 33, 3) := by decide +kernel
theorem dX10_free_47 : decode cX10_free 47 = .ok (.iinc 3 1, 3) := by decide +kernel
theorem dX10_free_50 : decode cX10_free 50 = .ok (.iload 4, 2) := by decide +kernel
theorem dX10_free_52 : decode cX10_free 52 = .ok (.ifCond .eq 22, 3) := by decide +kernel
theorem dX10_free_55 : decode cX10_free 55 = .ok (.aload_n 0, 1) := by decide +kernel
theorem dX10_free_56 : decode cX10_free 56 = .ok (.aload_n 0, 1) := by decide +kernel
theorem dX10_free_57 : decode cX10_free 57 = .ok (.iload 5, 2) := by decide +kernel
theorem dX10_free_59 : decode cX10_free 59 = .ok (.iconst 1, 1) := by decide +kernel
theorem dX10_free_60 : decode cX10_free 60 = .ok (.invokevirtual 351, 3) := by decide +kernel
theorem dX10_free_63 : decode cX10_free 63 = .ok (.invokevirtual 373, 3) := by decide +kernel
theorem dX10_free_66 : decode cX10_free 66 = .ok (.iconst 1, 1) := by decide +kernel
theorem dX10_free_67 : decode cX10_free 67 = .ok (.if_icmp .ne 7, 3) := by decide +kernel
theorem dX10_free_70 : decode cX10_free 70 = .ok (.iconst 1, 1) := by decide +kernel
theorem dX10_free_71 : decode cX10_free 71 = .ok (.goto 4, 3) := by decide +kernel
theorem dX10_free_74 : decode cX10_free 74 = .ok (.iconst 0, 1) := by decide +kernel
theorem dX10_free_75 : decode cX10_free 75 = .ok (.istore 4, 2) := by decide +kernel
theorem dX10_free_77 : decode cX10_free 77 = .ok (.iinc 5 1, 3) := by decide +kernel
theorem dX10_free_80 : decode cX10_free 80 = .ok (.goto (-57), 3) := by decide +kernel
theorem dX10_free_83 : decode cX10_free 83 = .ok (.iload_n 1, 1) := by decide +kernel
theorem dX10_free_84 : decode cX10_free 84 = .ok (.ifCond .eq 21, 3) := by decide +kernel
theorem dX10_free_87 : decode cX10_free 87 = .ok (.iload_n 3, 1) := by decide +kernel
theorem dX10_free_88 : decode cX10_free 88 = .ok (.ifCond .le 17, 3) := by decide +kernel
theorem dX10_free_91 : decode cX10_free 91 = .ok (.iload_n 3, 1) := by decide +kernel
theorem dX10_free_92 : decode cX10_free 92 = .ok (.iconst 1, 1) := by decide +kernel
theorem dX10_free_93 : decode cX10_free 93 = .ok (.if_icmp .eq 8, 3) := by decide +kernel
theorem dX10_free_96 : decode cX10_free 96 = .ok (.iload 4, 2) := by decide +kernel
theorem dX10_free_98 : decode cX10_free 98 = .ok (.ifCond .eq 7, 3) := by decide +kernel
theorem dX10_free_101 : decode cX10_free 101 = .ok (.iconst 1, 1) := by decide +kernel
theorem dX10_free_102 : decode cX10_free 102 = .ok (.goto 4, 3) := by decide +kernel
theorem dX10_free_105 : decode cX10_free 105 = .ok (.iconst 0, 1) := by decide +kernel
theorem dX10_free_106 : decode cX10_free 106 = .ok (.istore_n 1, 1) := by decide +kernel
theorem dX10_free_107 : decode cX10_free 107 = .ok (.iinc 2 1, 3) := by decide +kernel
theorem dX10_free_110 : decode cX10_free 110 = .ok (.goto (-103), 3) := by decide +kernel
theorem dX10_free_113 : decode cX10_free 113 = .ok (.iload_n 1, 1) := by decide +kernel
theorem dX10_free_114 : decode cX10_free 114 = .ok (.ifCond .eq 7, 3) := by decide +kernel
theorem dX10_free_117 : decode cX10_free 117 = .ok (.iconst 1, 1) := by decide +kernel
theorem dX10_free_118 : decode cX10_free 118 = .ok (.goto 4, 3) := by decide +kernel
theorem dX10_free_121 : decode cX10_free 121 = .ok (.iconst 0, 1) := by decide +kernel
theorem dX10_free_122 : decode cX10_free 122 = .ok (.ireturn, 1) := by decide +kernel
theorem dX10_holds_0 : decode cX10_holds 0 = .ok (.iconst 0, 1) := by decide +kernel
theorem dX10_holds_1 : decode cX10_holds 1 = .ok (.istore_n 2, 1) := by decide +kernel
theorem dX10_holds_2 : decode cX10_holds 2 = .ok (.iconst 0, 1) := by decide +kernel
theorem dX10_holds_3 : decode cX10_holds 3 = .ok (.istore_n 3, 1) := by decide +kernel
theorem dX10_holds_4 : decode cX10_holds 4 = .ok (.iload_n 3, 1) := by decide +kernel
theorem dX10_holds_5 : decode cX10_holds 5 = .ok (.aload_n 0, 1) := by decide +kernel
theorem dX10_holds_6 : decode cX10_holds 6 = .ok (.getfield 127, 3) := by decide +kernel
theorem dX10_holds_9 : decode cX10_holds 9 = .ok (.if_icmp .ge 37, 3) := by decide +kernel
theorem dX10_holds_12 : decode cX10_holds 12 = .ok (.iload_n 2, 1) := by decide +kernel
theorem dX10_holds_13 : decode cX10_holds 13 = .ok (.ifCond .ne 21, 3) := by decide +kernel
theorem dX10_holds_16 : decode cX10_holds 16 = .ok (.iload_n 1, 1) := by decide +kernel
theorem dX10_holds_17 : decode cX10_holds 17 = .ok (.iload_n 3, 1) := by decide +kernel
theorem dX10_holds_18 : decode cX10_holds 18 = .ok (.ishr, 1) := by decide +kernel
theorem dX10_holds_19 : decode cX10_holds 19 = .ok (.iconst 1, 1) := by decide +kernel
theorem dX10_holds_20 : decode cX10_holds 20 = .ok (.iand, 1) := by decide +kernel
theorem dX10_holds_21 : decode cX10_holds 21 = .ok (.iconst 1, 1) := by decide +kernel
theorem dX10_holds_22 : decode cX10_holds 22 = .ok (.if_icmp .ne 16, 3) := by decide +kernel
theorem dX10_holds_25 : decode cX10_holds 25 = .ok (.aload_n 0, 1) := by decide +kernel
theorem dX10_holds_26 : decode cX10_holds 26 = .ok (.getfield 34, 3) := by decide +kernel
theorem dX10_holds_29 : decode cX10_holds 29 = .ok (.iload_n 3, 1) := by decide +kernel
theorem dX10_holds_30 : decode cX10_holds 30 = .ok (.iaload, 1) := by decide +kernel
theorem dX10_holds_31 : decode cX10_holds 31 = .ok (.ifCond .le 7, 3) := by decide +kernel
theorem dX10_holds_34 : decode cX10_holds 34 = .ok (.iconst 1, 1) := by decide +kernel
theorem dX10_holds_35 : decode cX10_holds 35 = .ok (.goto 4, 3) := by decide +kernel
theorem dX10_holds_38 : decode cX10_holds 38 = .ok (.iconst 0, 1) := by decide +kernel
theorem dX10_holds_39 : decode cX10_holds 39 = .ok (.istore_n 2, 1) := by decide +kernel
theorem dX10_holds_40 : decode cX10_holds 40 = .ok (.iinc 3 1, 3) := by decide +kernel
theorem dX10_holds_43 : decode cX10_holds 43 = .ok (.goto (-39), 3) := by decide +kernel
theorem dX10_holds_46 : decode cX10_holds 46 = .ok (.iload_n 2, 1) := by decide +kernel
theorem dX10_holds_47 : decode cX10_holds 47 = .ok (.ireturn, 1) := by decide +kernel
theorem dX10_bare_0 : decode cX10_bare 0 = .ok (.iconst 1, 1) := by decide +kernel
theorem dX10_bare_1 : decode cX10_bare 1 = .ok (.istore_n 1, 1) := by decide +kernel
theorem dX10_bare_2 : decode cX10_bare 2 = .ok (.iload_n 1, 1) := by decide +kernel
theorem dX10_bare_3 : decode cX10_bare 3 = .ok (.iconst 1, 1) := by decide +kernel
theorem dX10_bare_4 : decode cX10_bare 4 = .ok (.aload_n 0, 1) := by decide +kernel
theorem dX10_bare_5 : decode cX10_bare 5 = .ok (.getfield 127, 3) := by decide +kernel
theorem dX10_bare_8 : decode cX10_bare 8 = .ok (.ishl, 1) := by decide +kernel
theorem dX10_bare_9 : decode cX10_bare 9 = .ok (.if_icmp .ge 41, 3) := by decide +kernel
theorem dX10_bare_12 : decode cX10_bare 12 = .ok (.aload_n 0, 1) := by decide +kernel
theorem dX10_bare_13 : decode cX10_bare 13 = .ok (.iconst 0, 1) := by decide +kernel
theorem dX10_bare_14 : decode cX10_bare 14 = .ok (.invokevirtual 361, 3) := by decide +kernel
theorem dX10_bare_17 : decode cX10_bare 17 = .ok (.aload_n 0, 1) := by decide +kernel
theorem dX10_bare_18 : decode cX10_bare 18 = .ok (.iload_n 1, 1) := by decide +kernel
theorem dX10_bare_19 : decode cX10_bare 19 = .ok (.invokevirtual 364, 3) := by decide +kernel
theorem dX10_bare_22 : decode cX10_bare 22 = .ok (.ifCond .eq 22, 3) := by decide +kernel
theorem dX10_bare_25 : decode cX10_bare 25 = .ok (.aload_n 0, 1) := by decide +kernel
theorem dX10_bare_26 : decode cX10_bare 26 = .ok (.iconst 1, 1) := by decide +kernel
theorem dX10_bare_27 : decode cX10_bare 27 = .ok (.invokevirtual 361, 3) := by decide +kernel
theorem dX10_bare_30 : decode cX10_bare 30 = .ok (.aload_n 0, 1) := by decide +kernel
theorem dX10_bare_31 : decode cX10_bare 31 = .ok (.aload_n 0, 1) := by decide +kernel
theorem dX10_bare_32 : decode cX10_bare 32 = .ok (.iload_n 1, 1) := by decide +kernel
theorem dX10_bare_33 : decode cX10_bare 33 = .ok (.invokevirtual 358, 3) := by decide +kernel
theorem dX10_bare_36 : decode cX10_bare 36 = .ok (.invokevirtual 376, 3) := by decide +kernel
theorem dX10_bare_39 : decode cX10_bare 39 = .ok (.ifCond .ne 5, 3) := by decide +kernel
theorem dX10_bare_42 : decode cX10_bare 42 = .ok (.iload_n 1, 1) := by decide +kernel
theorem dX10_bare_43 : decode cX10_bare 43 = .ok (.ireturn, 1) := by decide +kernel
theorem dX10_bare_44 : decode cX10_bare 44 = .ok (.iinc 1 1, 3) := by decide +kernel
theorem dX10_bare_47 : decode cX10_bare 47 = .ok (.goto (-45), 3) := by decide +kernel
theorem dX10_bare_50 : decode cX10_bare 50 = .ok (.iconst 0, 1) := by decide +kernel
theorem dX10_bare_51 : decode cX10_bare 51 = .ok (.ireturn, 1) := by decide +kernel
theorem dX10_count_0 : decode cX10_count 0 = .ok (.iload_n 1, 1) := by decide +kernel
theorem dX10_count_1 : decode cX10_count 1 = .ok (.tableswitch 114 0 10 #[59, 64, 69, 74, 79, 84, 89, 94, 99, 104, 109], 59) := by decide +kernel
theorem dX10_count_60 : decode cX10_count 60 = .ok (.aload_n 0, 1) := by decide +kernel
theorem dX10_count_61 : decode cX10_count 61 = .ok (.getfield 127, 3) := by decide +kernel
theorem dX10_count_64 : decode cX10_count 64 = .ok (.ireturn, 1) := by decide +kernel
theorem dX10_count_65 : decode cX10_count 65 = .ok (.aload_n 0, 1) := by decide +kernel
theorem dX10_count_66 : decode cX10_count 66 = .ok (.getfield 130, 3) := by decide +kernel
theorem dX10_count_69 : decode cX10_count 69 = .ok (.ireturn, 1) := by decide +kernel
theorem dX10_count_70 : decode cX10_count 70 = .ok (.aload_n 0, 1) := by decide +kernel
theorem dX10_count_71 : decode cX10_count 71 = .ok (.getfield 152, 3) := by decide +kernel
theorem dX10_count_74 : decode cX10_count 74 = .ok (.ireturn, 1) := by decide +kernel
theorem dX10_count_75 : decode cX10_count 75 = .ok (.aload_n 0, 1) := by decide +kernel
theorem dX10_count_76 : decode cX10_count 76 = .ok (.getfield 208, 3) := by decide +kernel
theorem dX10_count_79 : decode cX10_count 79 = .ok (.ireturn, 1) := by decide +kernel
theorem dX10_count_80 : decode cX10_count 80 = .ok (.aload_n 0, 1) := by decide +kernel
theorem dX10_count_81 : decode cX10_count 81 = .ok (.getfield 221, 3) := by decide +kernel
theorem dX10_count_84 : decode cX10_count 84 = .ok (.ireturn, 1) := by decide +kernel
theorem dX10_count_85 : decode cX10_count 85 = .ok (.aload_n 0, 1) := by decide +kernel
theorem dX10_count_86 : decode cX10_count 86 = .ok (.getfield 225, 3) := by decide +kernel
theorem dX10_count_89 : decode cX10_count 89 = .ok (.ireturn, 1) := by decide +kernel
theorem dX10_count_90 : decode cX10_count 90 = .ok (.aload_n 0, 1) := by decide +kernel
theorem dX10_count_91 : decode cX10_count 91 = .ok (.getfield 124, 3) := by decide +kernel
theorem dX10_count_94 : decode cX10_count 94 = .ok (.ireturn, 1) := by decide +kernel
theorem dX10_count_95 : decode cX10_count 95 = .ok (.aload_n 0, 1) := by decide +kernel
theorem dX10_count_96 : decode cX10_count 96 = .ok (.getfield 140, 3) := by decide +kernel
theorem dX10_count_99 : decode cX10_count 99 = .ok (.ireturn, 1) := by decide +kernel
theorem dX10_count_100 : decode cX10_count 100 = .ok (.aload_n 0, 1) := by decide +kernel
theorem dX10_count_101 : decode cX10_count 101 = .ok (.getfield 143, 3) := by decide +kernel
theorem dX10_count_104 : decode cX10_count 104 = .ok (.ireturn, 1) := by decide +kernel
theorem dX10_count_105 : decode cX10_count 105 = .ok (.aload_n 0, 1) := by decide +kernel
theorem dX10_count_106 : decode cX10_count 106 = .ok (.getfield 146, 3) := by decide +kernel
theorem dX10_count_109 : decode cX10_count 109 = .ok (.ireturn, 1) := by decide +kernel
theorem dX10_count_110 : decode cX10_count 110 = .ok (.aload_n 0, 1) := by decide +kernel
theorem dX10_count_111 : decode cX10_count 111 = .ok (.getfield 149, 3) := by decide +kernel
theorem dX10_count_114 : decode cX10_count 114 = .ok (.ireturn, 1) := by decide +kernel
theorem dX10_count_115 : decode cX10_count 115 = .ok (.ldc 159, 2) := by decide +kernel
theorem dX10_count_117 : decode cX10_count 117 = .ok (.ireturn, 1) := by decide +kernel
theorem dJ9_abs_067f4_0 : decode cJ9_abs_067f4 0 = .ok (.lload_n 0, 1) := by decide +kernel
theorem dJ9_abs_067f4_1 : decode cJ9_abs_067f4 1 = .ok (.lconst 0, 1) := by decide +kernel
theorem dJ9_abs_067f4_2 : decode cJ9_abs_067f4 2 = .ok (.lcmp, 1) := by decide +kernel
theorem dJ9_abs_067f4_3 : decode cJ9_abs_067f4 3 = .ok (.ifCond .ge 8, 3) := by decide +kernel
theorem dJ9_abs_067f4_6 : decode cJ9_abs_067f4 6 = .ok (.lload_n 0, 1) := by decide +kernel
theorem dJ9_abs_067f4_7 : decode cJ9_abs_067f4 7 = .ok (.lneg, 1) := by decide +kernel
theorem dJ9_abs_067f4_8 : decode cJ9_abs_067f4 8 = .ok (.goto 4, 3) := by decide +kernel
theorem dJ9_abs_067f4_11 : decode cJ9_abs_067f4 11 = .ok (.lload_n 0, 1) := by decide +kernel
theorem dJ9_abs_067f4_12 : decode cJ9_abs_067f4 12 = .ok (.lreturn, 1) := by decide +kernel
theorem dJ9_max_7cf53_0 : decode cJ9_max_7cf53 0 = .ok (.iload_n 0, 1) := by decide +kernel
theorem dJ9_max_7cf53_1 : decode cJ9_max_7cf53 1 = .ok (.iload_n 1, 1) := by decide +kernel
theorem dJ9_max_7cf53_2 : decode cJ9_max_7cf53 2 = .ok (.if_icmp .lt 7, 3) := by decide +kernel
theorem dJ9_max_7cf53_5 : decode cJ9_max_7cf53 5 = .ok (.iload_n 0, 1) := by decide +kernel
theorem dJ9_max_7cf53_6 : decode cJ9_max_7cf53 6 = .ok (.goto 4, 3) := by decide +kernel
theorem dJ9_max_7cf53_9 : decode cJ9_max_7cf53 9 = .ok (.iload_n 1, 1) := by decide +kernel
theorem dJ9_max_7cf53_10 : decode cJ9_max_7cf53 10 = .ok (.ireturn, 1) := by decide +kernel
theorem dJ9_min_7cf53_0 : decode cJ9_min_7cf53 0 = .ok (.iload_n 0, 1) := by decide +kernel
theorem dJ9_min_7cf53_1 : decode cJ9_min_7cf53 1 = .ok (.iload_n 1, 1) := by decide +kernel
theorem dJ9_min_7cf53_2 : decode cJ9_min_7cf53 2 = .ok (.if_icmp .gt 7, 3) := by decide +kernel
theorem dJ9_min_7cf53_5 : decode cJ9_min_7cf53 5 = .ok (.iload_n 0, 1) := by decide +kernel
theorem dJ9_min_7cf53_6 : decode cJ9_min_7cf53 6 = .ok (.goto 4, 3) := by decide +kernel
theorem dJ9_min_7cf53_9 : decode cJ9_min_7cf53 9 = .ok (.iload_n 1, 1) := by decide +kernel
theorem dJ9_min_7cf53_10 : decode cJ9_min_7cf53 10 = .ok (.ireturn, 1) := by decide +kernel
theorem dJ7_fill_d0a16_0 : decode cJ7_fill_d0a16 0 = .ok (.iconst 0, 1) := by decide +kernel
theorem dJ7_fill_d0a16_1 : decode cJ7_fill_d0a16 1 = .ok (.istore_n 3, 1) := by decide +kernel
theorem dJ7_fill_d0a16_2 : decode cJ7_fill_d0a16 2 = .ok (.aload_n 0, 1) := by decide +kernel
theorem dJ7_fill_d0a16_3 : decode cJ7_fill_d0a16 3 = .ok (.arraylength, 1) := by decide +kernel
theorem dJ7_fill_d0a16_4 : decode cJ7_fill_d0a16 4 = .ok (.istore 4, 2) := by decide +kernel
theorem dJ7_fill_d0a16_6 : decode cJ7_fill_d0a16 6 = .ok (.iload_n 3, 1) := by decide +kernel
theorem dJ7_fill_d0a16_7 : decode cJ7_fill_d0a16 7 = .ok (.iload 4, 2) := by decide +kernel
theorem dJ7_fill_d0a16_9 : decode cJ7_fill_d0a16 9 = .ok (.if_icmp .ge 13, 3) := by decide +kernel
theorem dJ7_fill_d0a16_12 : decode cJ7_fill_d0a16 12 = .ok (.aload_n 0, 1) := by decide +kernel
theorem dJ7_fill_d0a16_13 : decode cJ7_fill_d0a16 13 = .ok (.iload_n 3, 1) := by decide +kernel
theorem dJ7_fill_d0a16_14 : decode cJ7_fill_d0a16 14 = .ok (.lload_n 1, 1) := by decide +kernel
theorem dJ7_fill_d0a16_15 : decode cJ7_fill_d0a16 15 = .ok (.lastore, 1) := by decide +kernel
theorem dJ7_fill_d0a16_16 : decode cJ7_fill_d0a16 16 = .ok (.iinc 3 1, 3) := by decide +kernel
theorem dJ7_fill_d0a16_19 : decode cJ7_fill_d0a16 19 = .ok (.goto (-13), 3) := by decide +kernel
theorem dJ7_fill_d0a16_22 : decode cJ7_fill_d0a16 22 = .ok (.return_, 1) := by decide +kernel
theorem dJ7_fill_53178_0 : decode cJ7_fill_53178 0 = .ok (.iconst 0, 1) := by decide +kernel
theorem dJ7_fill_53178_1 : decode cJ7_fill_53178 1 = .ok (.istore_n 2, 1) := by decide +kernel
theorem dJ7_fill_53178_2 : decode cJ7_fill_53178 2 = .ok (.aload_n 0, 1) := by decide +kernel
theorem dJ7_fill_53178_3 : decode cJ7_fill_53178 3 = .ok (.arraylength, 1) := by decide +kernel
theorem dJ7_fill_53178_4 : decode cJ7_fill_53178 4 = .ok (.istore_n 3, 1) := by decide +kernel
theorem dJ7_fill_53178_5 : decode cJ7_fill_53178 5 = .ok (.iload_n 2, 1) := by decide +kernel
theorem dJ7_fill_53178_6 : decode cJ7_fill_53178 6 = .ok (.iload_n 3, 1) := by decide +kernel
theorem dJ7_fill_53178_7 : decode cJ7_fill_53178 7 = .ok (.if_icmp .ge 13, 3) := by decide +kernel
theorem dJ7_fill_53178_10 : decode cJ7_fill_53178 10 = .ok (.aload_n 0, 1) := by decide +kernel
theorem dJ7_fill_53178_11 : decode cJ7_fill_53178 11 = .ok (.iload_n 2, 1) := by decide +kernel
theorem dJ7_fill_53178_12 : decode cJ7_fill_53178 12 = .ok (.iload_n 1, 1) := by decide +kernel
theorem dJ7_fill_53178_13 : decode cJ7_fill_53178 13 = .ok (.iastore, 1) := by decide +kernel
theorem dJ7_fill_53178_14 : decode cJ7_fill_53178 14 = .ok (.iinc 2 1, 3) := by decide +kernel
theorem dJ7_fill_53178_17 : decode cJ7_fill_53178 17 = .ok (.goto (-12), 3) := by decide +kernel
theorem dJ7_fill_53178_20 : decode cJ7_fill_53178 20 = .ok (.return_, 1) := by decide +kernel
