theorem dX4_init_4 : decode cX4_init 4 = .ok (.aload_n 0, 1) := by decide +kernel
theorem dX4_init_5 : decode cX4_init 5 = .ok (.sipush 1024, 3) := by decide +kernel
theorem dX4_init_8 : decode cX4_init 8 = .ok (.newarray .int, 2) := by decide +kernel
theorem dX4_init_10 : decode cX4_init 10 = .ok (.putfield 11, 3) := by decide +kernel
theorem dX4_init_13 : decode cX4_init 13 = .ok (.aload_n 0, 1) := by decide +kernel
theorem dX4_init_14 : decode cX4_init 14 = .ok (.iconst 0, 1) := by decide +kernel
theorem dX4_init_15 : decode cX4_init 15 = .ok (.putfield 15, 3) := by decide +kernel
theorem dX4_init_18 : decode cX4_init 18 = .ok (.aload_n 0, 1) := by decide +kernel
theorem dX4_init_19 : decode cX4_init 19 = .ok (.iconst 0, 1) := by decide +kernel
theorem dX4_init_20 : decode cX4_init 20 = .ok (.putfield 19, 3) := by decide +kernel
theorem dX4_init_23 : decode cX4_init 23 = .ok (.iconst 1, 1) := by decide +kernel
theorem dX4_init_24 : decode cX4_init 24 = .ok (.iload_n 1, 1) := by decide +kernel
theorem dX4_init_25 : decode cX4_init 25 = .ok (.sipush 8000, 3) := by decide +kernel
theorem dX4_init_28 : decode cX4_init 28 = .ok (.invokestatic 22, 3) := by decide +kernel
theorem dX4_init_31 : decode cX4_init 31 = .ok (.invokestatic 28, 3) := by decide +kernel
theorem dX4_init_34 : decode cX4_init 34 = .ok (.istore_n 2, 1) := by decide +kernel
theorem dX4_init_35 : decode cX4_init 35 = .ok (.aload_n 0, 1) := by decide +kernel
theorem dX4_init_36 : decode cX4_init 36 = .ok (.iload_n 2, 1) := by decide +kernel
theorem dX4_init_37 : decode cX4_init 37 = .ok (.bipush 16, 2) := by decide +kernel
theorem dX4_init_39 : decode cX4_init 39 = .ok (.imul, 1) := by decide +kernel
theorem dX4_init_40 : decode cX4_init 40 = .ok (.newarray .int, 2) := by decide +kernel
theorem dX4_init_42 : decode cX4_init 42 = .ok (.putfield 31, 3) := by decide +kernel
theorem dX4_init_45 : decode cX4_init 45 = .ok (.aload_n 0, 1) := by decide +kernel
theorem dX4_init_46 : decode cX4_init 46 = .ok (.iload_n 2, 1) := by decide +kernel
theorem dX4_init_47 : decode cX4_init 47 = .ok (.newarray .int, 2) := by decide +kernel
theorem dX4_init_49 : decode cX4_init 49 = .ok (.putfield 34, 3) := by decide +kernel
theorem dX4_init_52 : decode cX4_init 52 = .ok (.aload_n 0, 1) := by decide +kernel
theorem dX4_init_53 : decode cX4_init 53 = .ok (.iload_n 2, 1) := by decide +kernel
theorem dX4_init_54 : decode cX4_init 54 = .ok (.newarray .int, 2) := by decide +kernel
theorem dX4_init_56 : decode cX4_init 56 = .ok (.putfield 37, 3) := by decide +kernel
theorem dX4_init_59 : decode cX4_init 59 = .ok (.aload_n 0, 1) := by decide +kernel
theorem dX4_init_60 : decode cX4_init 60 = .ok (.iload_n 2, 1) := by decide +kernel
theorem dX4_init_61 : decode cX4_init 61 = .ok (.newarray .int, 2) := by decide +kernel
theorem dX4_init_63 : decode cX4_init 63 = .ok (.putfield 40, 3) := by decide +kernel
theorem dX4_init_66 : decode cX4_init 66 = .ok (.return_, 1) := by decide +kernel
theorem dX4_begin_0 : decode cX4_begin 0 = .ok (.aload_n 0, 1) := by decide +kernel
theorem dX4_begin_1 : decode cX4_begin 1 = .ok (.iload_n 1, 1) := by decide +kernel
theorem dX4_begin_2 : decode cX4_begin 2 = .ok (.putfield 15, 3) := by decide +kernel
theorem dX4_begin_5 : decode cX4_begin 5 = .ok (.aload_n 0, 1) := by decide +kernel
theorem dX4_begin_6 : decode cX4_begin 6 = .ok (.iconst 0, 1) := by decide +kernel
theorem dX4_begin_7 : decode cX4_begin 7 = .ok (.putfield 19, 3) := by decide +kernel
theorem dX4_begin_10 : decode cX4_begin 10 = .ok (.aload_n 0, 1) := by decide +kernel
theorem dX4_begin_11 : decode cX4_begin 11 = .ok (.getfield 11, 3) := by decide +kernel
theorem dX4_begin_14 : decode cX4_begin 14 = .ok (.iconst (-1), 1) := by decide +kernel
theorem dX4_begin_15 : decode cX4_begin 15 = .ok (.invokestatic 43, 3) := by decide +kernel
theorem dX4_begin_18 : decode cX4_begin 18 = .ok (.return_, 1) := by decide +kernel
theorem dX4_bucketOf_0 : decode cX4_bucketOf 0 = .ok (.iconst 0, 1) := by decide +kernel
theorem dX4_bucketOf_1 : decode cX4_bucketOf 1 = .ok (.istore_n 2, 1) := by decide +kernel
theorem dX4_bucketOf_2 : decode cX4_bucketOf 2 = .ok (.iconst 0, 1) := by decide +kernel
theorem dX4_bucketOf_3 : decode cX4_bucketOf 3 = .ok (.istore_n 3, 1) := by decide +kernel
theorem dX4_bucketOf_4 : decode cX4_bucketOf 4 = .ok (.iload_n 3, 1) := by decide +kernel
theorem dX4_bucketOf_5 : decode cX4_bucketOf 5 = .ok (.aload_n 0, 1) := by decide +kernel
theorem dX4_bucketOf_6 : decode cX4_bucketOf 6 = .ok (.getfield 15, 3) := by decide +kernel
theorem dX4_bucketOf_9 : decode cX4_bucketOf 9 = .ok (.if_icmp .ge 28, 3) := by decide +kernel
theorem dX4_bucketOf_12 : decode cX4_bucketOf 12 = .ok (.iload_n 2, 1) := by decide +kernel
theorem dX4_bucketOf_13 : decode cX4_bucketOf 13 = .ok (.aload_n 1, 1) := by decide +kernel
theorem dX4_bucketOf_14 : decode cX4_bucketOf 14 = .ok (.getfield 49, 3) := by decide +kernel
theorem dX4_bucketOf_17 : decode cX4_bucketOf 17 = .ok (.iload_n 3, 1) := by decide +kernel
theorem dX4_bucketOf_18 : decode cX4_bucketOf 18 = .ok (.iaload, 1) := by decide +kernel
theorem dX4_bucketOf_19 : decode cX4_bucketOf 19 = .ok (.ixor, 1) := by decide +kernel
theorem dX4_bucketOf_20 : decode cX4_bucketOf 20 = .ok (.ldc 54, 2) := by decide +kernel
theorem dX4_bucketOf_22 : decode cX4_bucketOf 22 = .ok (.imul, 1) := by decide +kernel
theorem dX4_bucketOf_23 : decode cX4_bucketOf 23 = .ok (.istore_n 2, 1) := by decide +kernel
theorem dX4_bucketOf_24 : decode cX4_bucketOf 24 = .ok (.iload_n 2, 1) := by decide +kernel
theorem dX4_bucketOf_25 : decode cX4_bucketOf 25 = .ok (.iload_n 2, 1) := by decide +kernel
theorem dX4_bucketOf_26 : decode cX4_bucketOf 26 = .ok (.bipush 15, 2) := by decide +kernel
theorem dX4_bucketOf_28 : decode cX4_bucketOf 28 = .ok (.iushr, 1) := by decide +kernel
theorem dX4_bucketOf_29 : decode cX4_bucketOf 29 = .ok (.ixor, 1) := by decide +kernel
theorem dX4_bucketOf_30 : decode cX4_bucketOf 30 = .ok (.istore_n 2, 1) := by decide +kernel
theorem dX4_bucketOf_31 : decode cX4_bucketOf 31 = .ok (.iinc 3 1, 3) := by decide +kernel
theorem dX4_bucketOf_34 : decode cX4_bucketOf 34 = .ok (.goto (-30), 3) := by decide +kernel
theorem dX4_bucketOf_37 : decode cX4_bucketOf 37 = .ok (.iload_n 2, 1) := by decide +kernel
theorem dX4_bucketOf_38 : decode cX4_bucketOf 38 = .ok (.ldc 54, 2) := by decide +kernel
theorem dX4_bucketOf_40 : decode cX4_bucketOf 40 = .ok (.imul, 1) := by decide +kernel
theorem dX4_bucketOf_41 : decode cX4_bucketOf 41 = .ok (.bipush 22, 2) := by decide +kernel
theorem dX4_bucketOf_43 : decode cX4_bucketOf 43 = .ok (.iushr, 1) := by decide +kernel
theorem dX4_bucketOf_44 : decode cX4_bucketOf 44 = .ok (.ireturn, 1) := by decide +kernel
theorem dX4_indexOf_0 : decode cX4_indexOf 0 = .ok (.aload_n 0, 1) := by decide +kernel
theorem dX4_indexOf_1 : decode cX4_indexOf 1 = .ok (.getfield 11, 3) := by decide +kernel
theorem dX4_indexOf_4 : decode cX4_indexOf 4 = .ok (.aload_n 0, 1) := by decide +kernel
theorem dX4_indexOf_5 : decode cX4_indexOf 5 = .ok (.aload_n 1, 1) := by decide +kernel
theorem dX4_indexOf_6 : decode cX4_indexOf 6 = .ok (.invokevirtual 55, 3) := by decide +kernel
theorem dX4_indexOf_9 : decode cX4_indexOf 9 = .ok (.iaload, 1) := by decide +kernel
theorem dX4_indexOf_10 : decode cX4_indexOf 10 = .ok (.istore_n 2, 1) := by decide +kernel
theorem dX4_indexOf_11 : decode cX4_indexOf 11 = .ok (.aload_n 0, 1) := by decide +kernel
theorem dX4_indexOf_12 : decode cX4_indexOf 12 = .ok (.getfield 19, 3) := by decide +kernel
theorem dX4_indexOf_15 : decode cX4_indexOf 15 = .ok (.istore_n 3, 1) := by decide +kernel
theorem dX4_indexOf_16 : decode cX4_indexOf 16 = .ok (.iload_n 3, 1) := by decide +kernel
theorem dX4_indexOf_17 : decode cX4_indexOf 17 = .ok (.ifCond .le 31, 3) := by decide +kernel
theorem dX4_indexOf_20 : decode cX4_indexOf 20 = .ok (.iload_n 2, 1) := by decide +kernel
theorem dX4_indexOf_21 : decode cX4_indexOf 21 = .ok (.ifCond .lt 27, 3) := by decide +kernel
theorem dX4_indexOf_24 : decode cX4_indexOf 24 = .ok (.aload_n 0, 1) := by decide +kernel
theorem dX4_indexOf_25 : decode cX4_indexOf 25 = .ok (.iload_n 2, 1) := by decide +kernel
theorem dX4_indexOf_26 : decode cX4_indexOf 26 = .ok (.aload_n 1, 1) := by decide +kernel
theorem dX4_indexOf_27 : decode cX4_indexOf 27 = .ok (.invokevirtual 59, 3) := by decide +kernel
theorem dX4_indexOf_30 : decode cX4_indexOf 30 = .ok (.ifCond .eq 5, 3) := by decide +kernel
theorem dX4_indexOf_33 : decode cX4_indexOf 33 = .ok (.iload_n 2, 1) := by decide +kernel
theorem dX4_indexOf_34 : decode cX4_indexOf 34 = .ok (.ireturn, 1) := by decide +kernel
theorem dX4_indexOf_35 : decode cX4_indexOf 35 = .ok (.aload_n 0, 1) := by decide +kernel
theorem dX4_indexOf_36 : decode cX4_indexOf 36 = .ok (.getfield 40, 3) := by decide +kernel
theorem dX4_indexOf_39 : decode cX4_indexOf 39 = .ok (.iload_n 2, 1) := by decide +kernel
theorem dX4_indexOf_40 : decode cX4_indexOf 40 = .ok (.iaload, 1) := by decide +kernel
theorem dX4_indexOf_41 : decode cX4_indexOf 41 = .ok (.istore_n 2, 1) := by decide +kernel
theorem dX4_indexOf_42 : decode cX4_indexOf 42 = .ok (.iinc 3 (-1), 3) := by decide +kernel
theorem dX4_indexOf_45 : decode cX4_indexOf 45 = .ok (.goto (-29), 3) := by decide +kernel
theorem dX4_indexOf_48 : decode cX4_indexOf 48 = .ok (.iconst (-1), 1) := by decide +kernel
theorem dX4_indexOf_49 : decode cX4_indexOf 49 = .ok (.ireturn, 1) := by decide +kernel
theorem dX4_isSame_0 : decode cX4_isSame 0 = .ok (.iconst 0, 1) := by decide +kernel
theorem dX4_isSame_1 : decode cX4_isSame 1 = .ok (.istore_n 3, 1) := by decide +kernel
theorem dX4_isSame_2 : decode cX4_isSame 2 = .ok (.iload_n 3, 1) := by decide +kernel
theorem dX4_isSame_3 : decode cX4_isSame 3 = .ok (.aload_n 0, 1) := by decide +kernel
theorem dX4_isSame_4 : decode cX4_isSame 4 = .ok (.getfield 15, 3) := by decide +kernel
theorem dX4_isSame_7 : decode cX4_isSame 7 = .ok (.if_icmp .ge 33, 3) := by decide +kernel
theorem dX4_isSame_10 : decode cX4_isSame 10 = .ok (.aload_n 0, 1) := by decide +kernel
theorem dX4_isSame_11 : decode cX4_isSame 11 = .ok (.getfield 31, 3) := by decide +kernel
theorem dX4_isSame_14 : decode cX4_isSame 14 = .ok (.iload_n 1, 1) := by decide +kernel
theorem dX4_isSame_15 : decode cX4_isSame 15 = .ok (.aload_n 0, 1) := by decide +kernel
theorem dX4_isSame_16 : decode cX4_isSame 16 = .ok (.getfield 15, 3) := by decide +kernel
theorem dX4_isSame_19 : decode cX4_isSame 19 = .ok (.imul, 1) := by decide +kernel
theorem dX4_isSame_20 : decode cX4_isSame 20 = .ok (.iload_n 3, 1) := by decide +kernel
theorem dX4_isSame_21 : decode cX4_isSame 21 = .ok (.iadd, 1) := by decide +kernel
theorem dX4_isSame_22 : decode cX4_isSame 22 = .ok (.iaload, 1) := by decide +kernel
theorem dX4_isSame_23 : decode cX4_isSame 23 = .ok (.aload_n 2, 1) := by decide +kernel
theorem dX4_isSame_24 : decode cX4_isSame 24 = .ok (.getfield 49, 3) := by decide +kernel
theorem dX4_isSame_27 : decode cX4_isSame 27 = .ok (.iload_n 3, 1) := by decide +kernel
theorem dX4_isSame_28 : decode cX4_isSame 28 = .ok (.iaload, 1) := by decide +kernel
theorem dX4_isSame_29 : decode cX4_isSame 29 = .ok (.if_icmp .eq 5, 3) := by decide +kernel
theorem dX4_isSame_32 : decode cX4_isSame 32 = .ok (.iconst 0, 1) := by decide +kernel
theorem dX4_isSame_33 : decode cX4_isSame 33 = .ok (.ireturn, 1) := by decide +kernel
theorem dX4_isSame_34 : decode cX4_isSame 34 = .ok (.iinc 3 1, 3) := by decide +kernel
theorem dX4_isSame_37 : decode cX4_isSame 37 = .ok (.goto (-35), 3) := by decide +kernel
theorem dX4_isSame_40 : decode cX4_isSame 40 = .ok (.iconst 1, 1) := by decide +kernel
theorem dX4_isSame_41 : decode cX4_isSame 41 = .ok (.ireturn, 1) := by decide +kernel
theorem dX4_add_0 : decode cX4_add 0 = .ok (.aload_n 1, 1) := by decide +kernel
theorem dX4_add_1 : decode cX4_add 1 = .ok (.getfield 49, 3) := by decide +kernel
theorem dX4_add_4 : decode cX4_add 4 = .ok (.iconst 0, 1) := by decide +kernel
theorem dX4_add_5 : decode cX4_add 5 = .ok (.aload_n 0, 1) := by decide +kernel
theorem dX4_add_6 : decode cX4_add 6 = .ok (.getfield 31, 3) := by decide +kernel
theorem dX4_add_9 : decode cX4_add 9 = .ok (.aload_n 0, 1) := by decide +kernel
theorem dX4_add_10 : decode cX4_add 10 = .ok (.getfield 19, 3) := by decide +kernel
theorem dX4_add_13 : decode cX4_add 13 = .ok (.aload_n 0, 1) := by decide +kernel
theorem dX4_add_14 : decode cX4_add 14 = .ok (.getfield 15, 3) := by decide +kernel
theorem dX4_add_17 : decode cX4_add 17 = .ok (.imul, 1) := by decide +kernel
theorem dX4_add_18 : decode cX4_add 18 = .ok (.aload_n 0, 1) := by decide +kernel
theorem dX4_add_19 : decode cX4_add 19 = .ok (.getfield 15, 3) := by decide +kernel
theorem dX4_add_22 : decode cX4_add 22 = .ok (.invokestatic 63, 3) := by decide +kernel
theorem dX4_add_25 : decode cX4_add 25 = .ok (.aload_n 0, 1) := by decide +kernel
theorem dX4_add_26 : decode cX4_add 26 = .ok (.getfield 34, 3) := by decide +kernel
theorem dX4_add_29 : decode cX4_add 29 = .ok (.aload_n 0, 1) := by decide +kernel
theorem dX4_add_30 : decode cX4_add 30 = .ok (.getfield 19, 3) := by decide +kernel
theorem dX4_add_33 : decode cX4_add 33 = .ok (.iload_n 2, 1) := by decide +kernel
theorem dX4_add_34 : decode cX4_add 34 = .ok (.iastore, 1) := by decide +kernel
theorem dX4_add_35 : decode cX4_add 35 = .ok (.aload_n 0, 1) := by decide +kernel
theorem dX4_add_36 : decode cX4_add 36 = .ok (.getfield 37, 3) := by decide +kernel
theorem dX4_add_39 : decode cX4_add 39 = .ok (.aload_n 0, 1) := by decide +kernel
theorem dX4_add_40 : decode cX4_add 40 = .ok (.getfield 19, 3) := by decide +kernel
theorem dX4_add_43 : decode cX4_add 43 = .ok (.iload_n 3, 1) := by decide +kernel
theorem dX4_add_44 : decode cX4_add 44 = .ok (.iastore, 1) := by decide +kernel
theorem dX4_add_45 : decode cX4_add 45 = .ok (.aload_n 0, 1) := by decide +kernel
theorem dX4_add_46 : decode cX4_add 46 = .ok (.aload_n 1, 1) := by decide +kernel
theorem dX4_add_47 : decode cX4_add 47 = .ok (.invokevirtual 55, 3) := by decide +kernel
theorem dX4_add_50 : decode cX4_add 50 = .ok (.istore 4, 2) := by decide +kernel
theorem dX4_add_52 : decode cX4_add 52 = .ok (.aload_n 0, 1) := by decide +kernel
theorem dX4_add_53 : decode cX4_add 53 = .ok (.getfield 40, 3) := by decide +kernel
theorem dX4_add_56 : decode cX4_add 56 = .ok (.aload_n 0, 1) := by decide +kernel
theorem dX4_add_57 : decode cX4_add 57 = .ok (.getfield 19, 3) := by decide +kernel
theorem dX4_add_60 : decode cX4_add 60 = .ok (.aload_n 0, 1) := by decide +kernel
theorem dX4_add_61 : decode cX4_add 61 = .ok (.getfield 11, 3) := by decide +kernel
theorem dX4_add_64 : decode cX4_add 64 = .ok (.iload 4, 2) := by decide +kernel
theorem dX4_add_66 : decode cX4_add 66 = .ok (.iaload, 1) := by decide +kernel
theorem dX4_add_67 : decode cX4_add 67 = .ok (.iastore, 1) := by decide +kernel
theorem dX4_add_68 : decode cX4_add 68 = .ok (.aload_n 0, 1) := by decide +kernel
theorem dX4_add_69 : decode cX4_add 69 = .ok (.getfield 11, 3) := by decide +kernel
theorem dX4_add_72 : decode cX4_add 72 = .ok (.iload 4, 2) := by decide +kernel
theorem dX4_add_74 : decode cX4_add 74 = .ok (.aload_n 0, 1) := by decide +kernel
theorem dX4_add_75 : decode cX4_add 75 = .ok (.getfield 19, 3) := by decide +kernel
theorem dX4_add_78 : decode cX4_add 78 = .ok (.iastore, 1) := by decide +kernel
theorem dX4_add_79 : decode cX4_add 79 = .ok (.aload_n 0, 1) := by decide +kernel
theorem dX4_add_80 : decode cX4_add 80 = .ok (.dup, 1) := by decide +kernel
theorem dX4_add_81 : decode cX4_add 81 = .ok (.getfield 19, 3) := by decide +kernel
theorem dX4_add_84 : decode cX4_add 84 = .ok (.iconst 1, 1) := by decide +kernel
theorem dX4_add_85 : decode cX4_add 85 = .ok (.iadd, 1) := by decide +kernel
theorem dX4_add_86 : decode cX4_add 86 = .ok (.putfield 19, 3) := by decide +kernel
theorem dX4_add_89 : decode cX4_add 89 = .ok (.return_, 1) := by decide +kernel
theorem dX4_load_0 : decode cX4_load 0 = .ok (.aload_n 0, 1) := by decide +kernel
theorem dX4_load_1 : decode cX4_load 1 = .ok (.getfield 31, 3) := by decide +kernel
theorem dX4_load_4 : decode cX4_load 4 = .ok (.iload_n 1, 1) := by decide +kernel
theorem dX4_load_5 : decode cX4_load 5 = .ok (.aload_n 0, 1) := by decide +kernel
theorem dX4_load_6 : decode cX4_load 6 = .ok (.getfield 15, 3) := by decide +kernel
theorem dX4_load_9 : decode cX4_load 9 = .ok (.imul, 1) := by decide +kernel
theorem dX4_load_10 : decode cX4_load 10 = .ok (.aload_n 2, 1) := by decide +kernel
theorem dX4_load_11 : decode cX4_load 11 = .ok (.getfield 49, 3) := by decide +kernel
theorem dX4_load_14 : decode cX4_load 14 = .ok (.iconst 0, 1) := by decide +kernel
theorem dX4_load_15 : decode cX4_load 15 = .ok (.aload_n 0, 1) := by decide +kernel
theorem dX4_load_16 : decode cX4_load 16 = .ok (.getfield 15, 3) := by decide +kernel
theorem dX4_load_19 : decode cX4_load 19 = .ok (.invokestatic 63, 3) := by decide +kernel
theorem dX4_load_22 : decode cX4_load 22 = .ok (.return_, 1) := by decide +kernel
theorem dX4_cellAt_0 : decode cX4_cellAt 0 = .ok (.aload_n 0, 1) := by decide +kernel
theorem dX4_cellAt_1 : decode cX4_cellAt 1 = .ok (.getfield 31, 3) := by decide +kernel
theorem dX4_cellAt_4 : decode cX4_cellAt 4 = .ok (.iload_n 1, 1) := by decide +kernel
theorem dX4_cellAt_5 : decode cX4_cellAt 5 = .ok (.aload_n 0, 1) := by decide +kernel
theorem dX4_cellAt_6 : decode cX4_cellAt 6 = .ok (.getfield 15, 3) := by decide +kernel
theorem dX4_cellAt_9 : decode cX4_cellAt 9 = .ok (.imul, 1) := by decide +kernel
theorem dX4_cellAt_10 : decode cX4_cellAt 10 = .ok (.iload_n 2, 1) := by decide +kernel
theorem dX4_cellAt_11 : decode cX4_cellAt 11 = .ok (.iadd, 1) := by decide +kernel
theorem dX4_cellAt_12 : decode cX4_cellAt 12 = .ok (.iaload, 1) := by decide +kernel
theorem dX4_cellAt_13 : decode cX4_cellAt 13 = .ok (.ireturn, 1) := by decide +kernel
theorem dX4_isNowhereBelow_0 : decode cX4_isNowhereBelow 0 = .ok (.iconst 0, 1) := by decide +kernel
theorem dX4_isNowhereBelow_1 : decode cX4_isNowhereBelow 1 = .ok (.istore_n 3, 1) := by decide +kernel
theorem dX4_isNowhereBelow_2 : decode cX4_isNowhereBelow 2 = .ok (.iload_n 3, 1) := by decide +kernel
theorem dX4_isNowhereBelow_3 : decode cX4_isNowhereBelow 3 = .ok (.aload_n 0, 1) := by decide +kernel
theorem dX4_isNowhereBelow_4 : decode cX4_isNowhereBelow 4 = .ok (.getfield 15, 3) := by decide +kernel
theorem dX4_isNowhereBelow_7 : decode cX4_isNowhereBelow 7 = .ok (.if_icmp .ge 26, 3) := by decide +kernel
theorem dX4_isNowhereBelow_10 : decode cX4_isNowhereBelow 10 = .ok (.aload_n 0, 1) := by decide +kernel
theorem dX4_isNowhereBelow_11 : decode cX4_isNowhereBelow 11 = .ok (.iload_n 1, 1) := by decide +kernel
theorem dX4_isNowhereBelow_12 : decode cX4_isNowhereBelow 12 = .ok (.iload_n 3, 1) := by decide +kernel
theorem dX4_isNowhereBelow_13 : decode cX4_isNowhereBelow 13 = .ok (.invokevirtual 69, 3) := by decide +kernel
theorem dX4_isNowhereBelow_16 : decode cX4_isNowhereBelow 16 = .ok (.aload_n 2, 1) := by decide +kernel
theorem dX4_isNowhereBelow_17 : decode cX4_isNowhereBelow 17 = .ok (.getfield 49, 3) := by decide +kernel
theorem dX4_isNowhereBelow_20 : decode cX4_isNowhereBelow 20 = .ok (.iload_n 3, 1) := by decide +kernel
theorem dX4_isNowhereBelow_21 : decode cX4_isNowhereBelow 21 = .ok (.iaload, 1) := by decide +kernel
theorem dX4_isNowhereBelow_22 : decode cX4_isNowhereBelow 22 = .ok (.if_icmp .ge 5, 3) := by decide +kernel
theorem dX4_isNowhereBelow_25 : decode cX4_isNowhereBelow 25 = .ok (.iconst 0, 1) := by decide +kernel
theorem dX4_isNowhereBelow_26 : decode cX4_isNowhereBelow 26 = .ok (.ireturn, 1) := by decide +kernel
theorem dX4_isNowhereBelow_27 : decode cX4_isNowhereBelow 27 = .ok (.iinc 3 1, 3) := by decide +kernel
theorem dX4_isNowhereBelow_30 : decode cX4_isNowhereBelow 30 = .ok (.goto (-28), 3) := by decide +kernel
theorem dX4_isNowhereBelow_33 : decode cX4_isNowhereBelow 33 = .ok (.iconst 1, 1) := by decide +kernel
theorem dX4_isNowhereBelow_34 : decode cX4_isNowhereBelow 34 = .ok (.ireturn, 1) := by decide +kernel
theorem dX4_isNowhereAbove_0 : decode cX4_isNowhereAbove 0 = .ok (.iconst 0, 1) := by decide +kernel
theorem dX4_isNowhereAbove_1 : decode cX4_isNowhereAbove 1 = .ok (.istore_n 3, 1) := by decide +kernel
theorem dX4_isNowhereAbove_2 : decode cX4_isNowhereAbove 2 = .ok (.iload_n 3, 1) := by decide +kernel
theorem dX4_isNowhereAbove_3 : decode cX4_isNowhereAbove 3 = .ok (.aload_n 0, 1) := by decide +kernel
theorem dX4_isNowhereAbove_4 : decode cX4_isNowhereAbove 4 = .ok (.getfield 15, 3) := by decide +kernel
theorem dX4_isNowhereAbove_7 : decode cX4_isNowhereAbove 7 = .ok (.if_icmp .ge 26, 3) := by decide +kernel
theorem dX4_isNowhereAbove_10 : decode cX4_isNowhereAbove 10 = .ok (.aload_n 0, 1) := by decide +kernel
theorem dX4_isNowhereAbove_11 : decode cX4_isNowhereAbove 11 = .ok (.iload_n 1, 1) := by decide +kernel
theorem dX4_isNowhereAbove_12 : decode cX4_isNowhereAbove 12 = .ok (.iload_n 3, 1) := by decide +kernel
theorem dX4_isNowhereAbove_13 : decode cX4_isNowhereAbove 13 = .ok (.invokevirtual 69, 3) := by decide +kernel
theorem dX4_isNowhereAbove_16 : decode cX4_isNowhereAbove 16 = .ok (.aload_n 2, 1) := by decide +kernel
theorem dX4_isNowhereAbove_17 : decode cX4_isNowhereAbove 17 = .ok (.getfield 49, 3) := by decide +kernel
theorem dX4_isNowhereAbove_20 : decode cX4_isNowhereAbove 20 = .ok (.iload_n 3, 1) := by decide +kernel
theorem dX4_isNowhereAbove_21 : decode cX4_isNowhereAbove 21 = .ok (.iaload, 1) := by decide +kernel
theorem dX4_isNowhereAbove_22 : decode cX4_isNowhereAbove 22 = .ok (.if_icmp .le 5, 3) := by decide +kernel
theorem dX4_isNowhereAbove_25 : decode cX4_isNowhereAbove 25 = .ok (.iconst 0, 1) := by decide +kernel
theorem dX4_isNowhereAbove_26 : decode cX4_isNowhereAbove 26 = .ok (.ireturn, 1) := by decide +kernel
theorem dX4_isNowhereAbove_27 : decode cX4_isNowhereAbove 27 = .ok (.iinc 3 1, 3) := by decide +kernel
theorem dX4_isNowhereAbove_30 : decode cX4_isNowhereAbove 30 = .ok (.goto (-28), 3) := by decide +kernel
theorem dX4_isNowhereAbove_33 : decode cX4_isNowhereAbove 33 = .ok (.iconst 1, 1) := by decide +kernel
theorem dX4_isNowhereAbove_34 : decode cX4_isNowhereAbove 34 = .ok (.ireturn, 1) := by decide +kernel
theorem dX4_mostAt_0 : decode cX4_mostAt 0 = .ok (.iconst 0, 1) := by decide +kernel
theorem dX4_mostAt_1 : decode cX4_mostAt 1 = .ok (.istore_n 2, 1) := by decide +kernel
theorem dX4_mostAt_2 : decode cX4_mostAt 2 = .ok (.iconst 0, 1) := by decide +kernel
theorem dX4_mostAt_3 : decode cX4_mostAt 3 = .ok (.istore_n 3, 1) := by decide +kernel
theorem dX4_mostAt_4 : decode cX4_mostAt 4 = .ok (.iload_n 3, 1) := by decide +kernel
theorem dX4_mostAt_5 : decode cX4_mostAt 5 = .ok (.aload_n 0, 1) := by decide +kernel
theorem dX4_mostAt_6 : decode cX4_mostAt 6 = .ok (.getfield 19, 3) := by decide +kernel
theorem dX4_mostAt_9 : decode cX4_mostAt 9 = .ok (.if_icmp .ge 20, 3) := by decide +kernel
theorem dX4_mostAt_12 : decode cX4_mostAt 12 = .ok (.iload_n 2, 1) := by decide +kernel
theorem dX4_mostAt_13 : decode cX4_mostAt 13 = .ok (.aload_n 0, 1) := by decide +kernel
theorem dX4_mostAt_14 : decode cX4_mostAt 14 = .ok (.iload_n 3, 1) := by decide +kernel
theorem dX4_mostAt_15 : decode cX4_mostAt 15 = .ok (.iload_n 1, 1) := by decide +kernel
theorem dX4_mostAt_16 : decode cX4_mostAt 16 = .ok (.invokevirtual 69, 3) := by decide +kernel
theorem dX4_mostAt_19 : decode cX4_mostAt 19 = .ok (.invokestatic 28, 3) := by decide +kernel
theorem dX4_mostAt_22 : decode cX4_mostAt 22 = .ok (.istore_n 2, 1) := by decide +kernel
theorem dX4_mostAt_23 : decode cX4_mostAt 23 = .ok (.iinc 3 1, 3) := by decide +kernel
theorem dX4_mostAt_26 : decode cX4_mostAt 26 = .ok (.goto (-22), 3) := by decide +kernel
theorem dX4_mostAt_29 : decode cX4_mostAt 29 = .ok (.iload_n 2, 1) := by decide +kernel
theorem dX4_mostAt_30 : decode cX4_mostAt 30 = .ok (.ireturn, 1) := by decide +kernel
theorem dX4_depthOf_0 : decode cX4_depthOf 0 = .ok (.iconst 0, 1) := by decide +kernel
theorem dX4_depthOf_1 : decode cX4_depthOf 1 = .ok (.istore_n 2, 1) := by decide +kernel
theorem dX4_depthOf_2 : decode cX4_depthOf 2 = .ok (.iload_n 1, 1) := by decide +kernel
theorem dX4_depthOf_3 : decode cX4_depthOf 3 = .ok (.istore_n 3, 1) := by decide +kernel
theorem dX4_depthOf_4 : decode cX4_depthOf 4 = .ok (.iload_n 3, 1) := by decide +kernel
theorem dX4_depthOf_5 : decode cX4_depthOf 5 = .ok (.ifCond .le 24, 3) := by decide +kernel
theorem dX4_depthOf_8 : decode cX4_depthOf 8 = .ok (.iload_n 2, 1) := by decide +kernel
theorem dX4_depthOf_9 : decode cX4_depthOf 9 = .ok (.aload_n 0, 1) := by decide +kernel
theorem dX4_depthOf_10 : decode cX4_depthOf 10 = .ok (.getfield 19, 3) := by decide +kernel
theorem dX4_depthOf_13 : decode cX4_depthOf 13 = .ok (.if_icmp .ge 16, 3) := by decide +kernel
theorem dX4_depthOf_16 : decode cX4_depthOf 16 = .ok (.iinc 2 1, 3) := by decide +kernel
theorem dX4_depthOf_19 : decode cX4_depthOf 19 = .ok (.aload_n 0, 1) := by decide +kernel
theorem dX4_depthOf_20 : decode cX4_depthOf 20 = .ok (.getfield 34, 3) := by decide +kernel
theorem dX4_depthOf_23 : decode cX4_depthOf 23 = .ok (.iload_n 3, 1) := by decide +kernel
theorem dX4_depthOf_24 : decode cX4_depthOf 24 = .ok (.iaload, 1) := by decide +kernel
theorem dX4_depthOf_25 : decode cX4_depthOf 25 = .ok (.istore_n 3, 1) := by decide +kernel
theorem dX4_depthOf_26 : decode cX4_depthOf 26 = .ok (.goto (-22), 3) := by decide +kernel
theorem dX4_depthOf_29 : decode cX4_depthOf 29 = .ok (.iload_n 2, 1) := by decide +kernel
theorem dX4_depthOf_30 : decode cX4_depthOf 30 = .ok (.ireturn, 1) := by decide +kernel
theorem dX4_retrace_0 : decode cX4_retrace 0 = .ok (.aload_n 0, 1) := by decide +kernel
theorem dX4_retrace_1 : decode cX4_retrace 1 = .ok (.iload_n 1, 1) := by decide +kernel
theorem dX4_retrace_2 : decode cX4_retrace 2 = .ok (.invokevirtual 72, 3) := by decide +kernel
theorem dX4_retrace_5 : decode cX4_retrace 5 = .ok (.istore_n 3, 1) := by decide +kernel
theorem dX4_retrace_6 : decode cX4_retrace 6 = .ok (.aload_n 2, 1) := by decide +kernel
theorem dX4_retrace_7 : decode cX4_retrace 7 = .ok (.iload_n 3, 1) := by decide +kernel
theorem dX4_retrace_8 : decode cX4_retrace 8 = .ok (.putfield 76, 3) := by decide +kernel
theorem dX4_retrace_11 : decode cX4_retrace 11 = .ok (.iload_n 1, 1) := by decide +kernel
theorem dX4_retrace_12 : decode cX4_retrace 12 = .ok (.istore 4, 2) := by decide +kernel
theorem dX4_retrace_14 : decode cX4_retrace 14 = .ok (.iload_n 3, 1) := by decide +kernel
theorem dX4_retrace_15 : decode cX4_retrace 15 = .ok (.iconst 1, 1) := by decide +kernel
theorem dX4_retrace_16 : decode cX4_retrace 16 = .ok (.isub, 1) := by decide +kernel
theorem dX4_retrace_17 : decode cX4_retrace 17 = .ok (.istore 5, 2) := by decide +kernel
theorem dX4_retrace_19 : decode cX4_retrace 19 = .ok (.iload 5, 2) := by decide +kernel
theorem dX4_retrace_21 : decode cX4_retrace 21 = .ok (.ifCond .lt 32, 3) := by decide +kernel
theorem dX4_retrace_24 : decode cX4_retrace 24 = .ok (.aload_n 2, 1) := by decide +kernel
theorem dX4_retrace_25 : decode cX4_retrace 25 = .ok (.getfield 81, 3) := by decide +kernel
theorem dX4_retrace_28 : decode cX4_retrace 28 = .ok (.iload 5, 2) := by decide +kernel
theorem dX4_retrace_30 : decode cX4_retrace 30 = .ok (.aload_n 0, 1) := by decide +kernel
theorem dX4_retrace_31 : decode cX4_retrace 31 = .ok (.getfield 37, 3) := by decide +kernel
theorem dX4_retrace_34 : decode cX4_retrace 34 = .ok (.iload 4, 2) := by decide +kernel
theorem dX4_retrace_36 : decode cX4_retrace 36 = .ok (.iaload, 1) := by decide +kernel
theorem dX4_retrace_37 : decode cX4_retrace 37 = .ok (.iastore, 1) := by decide +kernel
theorem dX4_retrace_38 : decode cX4_retrace 38 = .ok (.aload_n 0, 1) := by decide +kernel
theorem dX4_retrace_39 : decode cX4_retrace 39 = .ok (.getfield 34, 3) := by decide +kernel
theorem dX4_retrace_42 : decode cX4_retrace 42 = .ok (.iload 4, 2) := by decide +kernel
theorem dX4_retrace_44 : decode cX4_retrace 44 = .ok (.iaload, 1) := by decide +kernel
theorem dX4_retrace_45 : decode cX4_retrace 45 = .ok (.istore 4, 2) := by decide +kernel
theorem dX4_retrace_47 : decode cX4_retrace 47 = .ok (.iinc 5 (-1), 3) := by decide +kernel
theorem dX4_retrace_50 : decode cX4_retrace 50 = .ok (.goto (-31), 3) := by decide +kernel
theorem dX4_retrace_53 : decode cX4_retrace 53 = .ok (.return_, 1) := by decide +kernel
theorem dX5_init_0 : decode cX5_init 0 = .ok (.aload_n 0, 1) := by decide +kernel
theorem dX5_init_1 : decode cX5_init 1 = .ok (.invokespecial 3, 3) := by decide +kernel
theorem dX5_init_4 : decode cX5_init 4 = .ok (.aload_n 0, 1) := by decide +kernel
theorem dX5_init_5 : decode cX5_init 5 = .ok (.bipush 16, 2) := by decide +kernel
theorem dX5_init_7 : decode cX5_init 7 = .ok (.newarray .int, 2) := by decide +kernel
theorem dX5_init_9 : decode cX5_init 9 = .ok (.putfield 9, 3) := by decide +kernel
theorem dX5_init_12 : decode cX5_init 12 = .ok (.aload_n 0, 1) := by decide +kernel
theorem dX5_init_13 : decode cX5_init 13 = .ok (.bipush 16, 2) := by decide +kernel
theorem dX5_init_15 : decode cX5_init 15 = .ok (.newarray .int, 2) := by decide +kernel
theorem dX5_init_17 : decode cX5_init 17 = .ok (.putfield 15, 3) := by decide +kernel
theorem dX5_init_20 : decode cX5_init 20 = .ok (.aload_n 0, 1) := by decide +kernel
theorem dX5_init_21 : decode cX5_init 21 = .ok (.sipush 256, 3) := by decide +kernel
theorem dX5_init_24 : decode cX5_init 24 = .ok (.newarray .int, 2) := by decide +kernel
theorem dX5_init_26 : decode cX5_init 26 = .ok (.putfield 18, 3) := by decide +kernel
theorem dX5_init_29 : decode cX5_init 29 = .ok (.aload_n 0, 1) := by decide +kernel
theorem dX5_init_30 : decode cX5_init 30 = .ok (.sipush 256, 3) := by decide +kernel
theorem dX5_init_33 : decode cX5_init 33 = .ok (.newarray .int, 2) := by decide +kernel
theorem dX5_init_35 : decode cX5_init 35 = .ok (.putfield 21, 3) := by decide +kernel
theorem dX5_init_38 : decode cX5_init 38 = .ok (.aload_n 0, 1) := by decide +kernel
theorem dX5_init_39 : decode cX5_init 39 = .ok (.sipush 256, 3) := by decide +kernel
theorem dX5_init_42 : decode cX5_init 42 = .ok (.newarray .int, 2) := by decide +kernel
theorem dX5_init_44 : decode cX5_init 44 = .ok (.putfield 24, 3) := by decide +kernel
theorem dX5_init_47 : decode cX5_init 47 = .ok (.aload_n 0, 1) := by decide +kernel
theorem dX5_init_48 : decode cX5_init 48 = .ok (.sipush 256, 3) := by decide +kernel
theorem dX5_init_51 : decode cX5_init 51 = .ok (.newarray .int, 2) := by decide +kernel
theorem dX5_init_53 : decode cX5_init 53 = .ok (.putfield 27, 3) := by decide +kernel
theorem dX5_init_56 : decode cX5_init 56 = .ok (.aload_n 0, 1) := by decide +kernel
theorem dX5_init_57 : decode cX5_init 57 = .ok (.sipush 256, 3) := by decide +kernel
theorem dX5_init_60 : decode cX5_init 60 = .ok (.newarray .int, 2) := by decide +kernel
theorem dX5_init_62 : decode cX5_init 62 = .ok (.putfield 30, 3) := by decide +kernel
theorem dX5_init_65 : decode cX5_init 65 = .ok (.aload_n 0, 1) := by decide +kernel
theorem dX5_init_66 : decode cX5_init 66 = .ok (.sipush 256, 3) := by decide +kernel
theorem dX5_init_69 : decode cX5_init 69 = .ok (.newarray .int, 2) := by decide +kernel
theorem dX5_init_71 : decode cX5_init 71 = .ok (.putfield 33, 3) := by decide +kernel
theorem dX5_init_74 : decode cX5_init 74 = .ok (.aload_n 0, 1) := by decide +kernel
theorem dX5_init_75 : decode cX5_init 75 = .ok (.bipush 16, 2) := by decide +kernel
theorem dX5_init_77 : decode cX5_init 77 = .ok (.newarray .int, 2) := by decide +kernel
theorem dX5_init_79 : decode cX5_init 79 = .ok (.putfield 36, 3) := by decide +kernel
theorem dX5_init_82 : decode cX5_init 82 = .ok (.aload_n 0, 1) := by decide +kernel
theorem dX5_init_83 : decode cX5_init 83 = .ok (.bipush 16, 2) := by decide +kernel
theorem dX5_init_85 : decode cX5_init 85 = .ok (.newarray .int, 2) := by decide +kernel
theorem dX5_init_87 : decode cX5_init 87 = .ok (.putfield 39, 3) := by decide +kernel
theorem dX5_init_90 : decode cX5_init 90 = .ok (.aload_n 0, 1) := by decide +kernel
theorem dX5_init_91 : decode cX5_init 91 = .ok (.bipush 16, 2) := by decide +kernel
theorem dX5_init_93 : decode cX5_init 93 = .ok (.newarray .int, 2) := by decide +kernel
theorem dX5_init_95 : decode cX5_init 95 = .ok (.putfield 42, 3) := by decide +kernel
theorem dX5_init_98 : decode cX5_init 98 = .ok (.aload_n 0, 1) := by decide +kernel
theorem dX5_init_99 : decode cX5_init 99 = .ok (.iconst 0, 1) := by decide +kernel
theorem dX5_init_100 : decode cX5_init 100 = .ok (.putfield 45, 3) := by decide +kernel
theorem dX5_init_103 : decode cX5_init 103 = .ok (.aload_n 0, 1) := by decide +kernel
theorem dX5_init_104 : decode cX5_init 104 = .ok (.iconst 0, 1) := by decide +kernel
theorem dX5_init_105 : decode cX5_init 105 = .ok (.putfield 49, 3) := by decide +kernel
theorem dX5_init_108 : decode cX5_init 108 = .ok (.aload_n 0, 1) := by decide +kernel
theorem dX5_init_109 : decode cX5_init 109 = .ok (.iconst 0, 1) := by decide +kernel
theorem dX5_init_110 : decode cX5_init 110 = .ok (.putfield 52, 3) := by decide +kernel
theorem dX5_init_113 : decode cX5_init 113 = .ok (.return_, 1) := by decide +kernel
theorem dX5_addPlace_0 : decode cX5_addPlace 0 = .ok (.aload_n 0, 1) := by decide +kernel
theorem dX5_addPlace_1 : decode cX5_addPlace 1 = .ok (.getfield 9, 3) := by decide +kernel
theorem dX5_addPlace_4 : decode cX5_addPlace 4 = .ok (.aload_n 0, 1) := by decide +kernel
theorem dX5_addPlace_5 : decode cX5_addPlace 5 = .ok (.getfield 45, 3) := by decide +kernel
theorem dX5_addPlace_8 : decode cX5_addPlace 8 = .ok (.iload_n 1, 1) := by decide +kernel
theorem dX5_addPlace_9 : decode cX5_addPlace 9 = .ok (.iastore, 1) := by decide +kernel
theorem dX5_addPlace_10 : decode cX5_addPlace 10 = .ok (.aload_n 0, 1) := by decide +kernel
theorem dX5_addPlace_11 : decode cX5_addPlace 11 = .ok (.dup, 1) := by decide +kernel
theorem dX5_addPlace_12 : decode cX5_addPlace 12 = .ok (.getfield 45, 3) := by decide +kernel
theorem dX5_addPlace_15 : decode cX5_addPlace 15 = .ok (.iconst 1, 1) := by decide +kernel
theorem dX5_addPlace_16 : decode cX5_addPlace 16 = .ok (.iadd, 1) := by decide +kernel
theorem dX5_addPlace_17 : decode cX5_addPlace 17 = .ok (.putfield 45, 3) := by decide +kernel
theorem dX5_addPlace_20 : decode cX5_addPlace 20 = .ok (.aload_n 0, 1) := by decide +kernel
theorem dX5_addPlace_21 : decode cX5_addPlace 21 = .ok (.dup, 1) := by decide +kernel
theorem dX5_addPlace_22 : decode cX5_addPlace 22 = .ok (.getfield 52, 3) := by decide +kernel
theorem dX5_addPlace_25 : decode cX5_addPlace 25 = .ok (.iload_n 1, 1) := by decide +kernel
theorem dX5_addPlace_26 : decode cX5_addPlace 26 = .ok (.iconst 1, 1) := by decide +kernel
theorem dX5_addPlace_27 : decode cX5_addPlace 27 = .ok (.if_icmp .ne 7, 3) := by decide +kernel
theorem dX5_addPlace_30 : decode cX5_addPlace 30 = .ok (.iconst 1, 1) := by decide +kernel
theorem dX5_addPlace_31 : decode cX5_addPlace 31 = .ok (.goto 4, 3) := by decide +kernel
theorem dX5_addPlace_34 : decode cX5_addPlace 34 = .ok (.iconst 0, 1) := by decide +kernel
theorem dX5_addPlace_35 : decode cX5_addPlace 35 = .ok (.iadd, 1) := by decide +kernel
theorem dX5_addPlace_36 : decode cX5_addPlace 36 = .ok (.putfield 52, 3) := by decide +kernel
theorem dX5_addPlace_39 : decode cX5_addPlace 39 = .ok (.return_, 1) := by decide +kernel
theorem dX5_addStep_0 : decode cX5_addStep 0 = .ok (.aload_n 0, 1) := by decide +kernel
theorem dX5_addStep_1 : decode cX5_addStep 1 = .ok (.getfield 15, 3) := by decide +kernel
theorem dX5_addStep_4 : decode cX5_addStep 4 = .ok (.aload_n 0, 1) := by decide +kernel
theorem dX5_addStep_5 : decode cX5_addStep 5 = .ok (.getfield 49, 3) := by decide +kernel
theorem dX5_addStep_8 : decode cX5_addStep 8 = .ok (.iload_n 1, 1) := by decide +kernel
theorem dX5_addStep_9 : decode cX5_addStep 9 = .ok (.iastore, 1) := by decide +kernel
theorem dX5_addStep_10 : decode cX5_addStep 10 = .ok (.aload_n 0, 1) := by decide +kernel
theorem dX5_addStep_11 : decode cX5_addStep 11 = .ok (.dup, 1) := by decide +kernel
theorem dX5_addStep_12 : decode cX5_addStep 12 = .ok (.getfield 49, 3) := by decide +kernel
theorem dX5_addStep_15 : decode cX5_addStep 15 = .ok (.iconst 1, 1) := by decide +kernel
theorem dX5_addStep_16 : decode cX5_addStep 16 = .ok (.iadd, 1) := by decide +kernel
theorem dX5_addStep_17 : decode cX5_addStep 17 = .ok (.putfield 49, 3) := by decide +kernel
theorem dX5_addStep_20 : decode cX5_addStep 20 = .ok (.return_, 1) := by decide +kernel
theorem dX5_connect_0 : decode cX5_connect 0 = .ok (.aload_n 0, 1) := by decide +kernel
theorem dX5_connect_1 : decode cX5_connect 1 = .ok (.getfield 18, 3) := by decide +kernel
theorem dX5_connect_4 : decode cX5_connect 4 = .ok (.iload_n 1, 1) := by decide +kernel
theorem dX5_connect_5 : decode cX5_connect 5 = .ok (.iload_n 2, 1) := by decide +kernel
theorem dX5_connect_6 : decode cX5_connect 6 = .ok (.invokestatic 55, 3) := by decide +kernel
theorem dX5_connect_9 : decode cX5_connect 9 = .ok (.iload_n 3, 1) := by decide +kernel
theorem dX5_connect_10 : decode cX5_connect 10 = .ok (.iastore, 1) := by decide +kernel
theorem dX5_connect_11 : decode cX5_connect 11 = .ok (.aload_n 0, 1) := by decide +kernel
theorem dX5_connect_12 : decode cX5_connect 12 = .ok (.getfield 21, 3) := by decide +kernel
theorem dX5_connect_15 : decode cX5_connect 15 = .ok (.iload_n 1, 1) := by decide +kernel
theorem dX5_connect_16 : decode cX5_connect 16 = .ok (.iload_n 2, 1) := by decide +kernel
theorem dX5_connect_17 : decode cX5_connect 17 = .ok (.invokestatic 55, 3) := by decide +kernel
theorem dX5_connect_20 : decode cX5_connect 20 = .ok (.iload 4, 2) := by decide +kernel
theorem dX5_connect_22 : decode cX5_connect 22 = .ok (.iastore, 1) := by decide +kernel
theorem dX5_connect_23 : decode cX5_connect 23 = .ok (.aload_n 0, 1) := by decide +kernel
theorem dX5_connect_24 : decode cX5_connect 24 = .ok (.getfield 36, 3) := by decide +kernel
theorem dX5_connect_27 : decode cX5_connect 27 = .ok (.iload_n 1, 1) := by decide +kernel
theorem dX5_connect_28 : decode cX5_connect 28 = .ok (.aload_n 0, 1) := by decide +kernel
theorem dX5_connect_29 : decode cX5_connect 29 = .ok (.getfield 36, 3) := by decide +kernel
theorem dX5_connect_32 : decode cX5_connect 32 = .ok (.iload_n 1, 1) := by decide +kernel
theorem dX5_connect_33 : decode cX5_connect 33 = .ok (.iaload, 1) := by decide +kernel
theorem dX5_connect_34 : decode cX5_connect 34 = .ok (.iload_n 2, 1) := by decide +kernel
theorem dX5_connect_35 : decode cX5_connect 35 = .ok (.iload_n 3, 1) := by decide +kernel
theorem dX5_connect_36 : decode cX5_connect 36 = .ok (.ifCond .le 7, 3) := by decide +kernel
theorem dX5_connect_39 : decode cX5_connect 39 = .ok (.iconst 1, 1) := by decide +kernel
theorem dX5_connect_40 : decode cX5_connect 40 = .ok (.goto 4, 3) := by decide +kernel
theorem dX5_connect_43 : decode cX5_connect 43 = .ok (.iconst 0, 1) := by decide +kernel
theorem dX5_connect_44 : decode cX5_connect 44 = .ok (.invokestatic 59, 3) := by decide +kernel
theorem dX5_connect_47 : decode cX5_connect 47 = .ok (.iastore, 1) := by decide +kernel
theorem dX5_connect_48 : decode cX5_connect 48 = .ok (.aload_n 0, 1) := by decide +kernel
theorem dX5_connect_49 : decode cX5_connect 49 = .ok (.getfield 39, 3) := by decide +kernel
theorem dX5_connect_52 : decode cX5_connect 52 = .ok (.iload_n 1, 1) := by decide +kernel
theorem dX5_connect_53 : decode cX5_connect 53 = .ok (.aload_n 0, 1) := by decide +kernel
theorem dX5_connect_54 : decode cX5_connect 54 = .ok (.getfield 39, 3) := by decide +kernel
theorem dX5_connect_57 : decode cX5_connect 57 = .ok (.iload_n 1, 1) := by decide +kernel
theorem dX5_connect_58 : decode cX5_connect 58 = .ok (.iaload, 1) := by decide +kernel
theorem dX5_connect_59 : decode cX5_connect 59 = .ok (.iload_n 2, 1) := by decide +kernel
theorem dX5_connect_60 : decode cX5_connect 60 = .ok (.iload 4, 2) := by decide +kernel
theorem dX5_connect_62 : decode cX5_connect 62 = .ok (.ifCond .le 7, 3) := by decide +kernel
theorem dX5_connect_65 : decode cX5_connect 65 = .ok (.iconst 1, 1) := by decide +kernel
theorem dX5_connect_66 : decode cX5_connect 66 = .ok (.goto 4, 3) := by decide +kernel
theorem dX5_connect_69 : decode cX5_connect 69 = .ok (.iconst 0, 1) := by decide +kernel
theorem dX5_connect_70 : decode cX5_connect 70 = .ok (.invokestatic 59, 3) := by decide +kernel
theorem dX5_connect_73 : decode cX5_connect 73 = .ok (.iastore, 1) := by decide +kernel
theorem dX5_connect_74 : decode cX5_connect 74 = .ok (.aload_n 0, 1) := by decide +kernel
theorem dX5_connect_75 : decode cX5_connect 75 = .ok (.iload_n 1, 1) := by decide +kernel
theorem dX5_connect_76 : decode cX5_connect 76 = .ok (.iload_n 2, 1) := by decide +kernel
theorem dX5_connect_77 : decode cX5_connect 77 = .ok (.invokevirtual 63, 3) := by decide +kernel
theorem dX5_connect_80 : decode cX5_connect 80 = .ok (.return_, 1) := by decide +kernel
theorem dX5_tellNeed_0 : decode cX5_tellNeed 0 = .ok (.aload_n 0, 1) := by decide +kernel
theorem dX5_tellNeed_1 : decode cX5_tellNeed 1 = .ok (.getfield 24, 3) := by decide +kernel
theorem dX5_tellNeed_4 : decode cX5_tellNeed 4 = .ok (.iload_n 1, 1) := by decide +kernel
theorem dX5_tellNeed_5 : decode cX5_tellNeed 5 = .ok (.iload_n 2, 1) := by decide +kernel
theorem dX5_tellNeed_6 : decode cX5_tellNeed 6 = .ok (.invokestatic 55, 3) := by decide +kernel
theorem dX5_tellNeed_9 : decode cX5_tellNeed 9 = .ok (.iload_n 3, 1) := by decide +kernel
theorem dX5_tellNeed_10 : decode cX5_tellNeed 10 = .ok (.iastore, 1) := by decide +kernel
theorem dX5_tellNeed_11 : decode cX5_tellNeed 11 = .ok (.aload_n 0, 1) := by decide +kernel
theorem dX5_tellNeed_12 : decode cX5_tellNeed 12 = .ok (.iload_n 1, 1) := by decide +kernel
theorem dX5_tellNeed_13 : decode cX5_tellNeed 13 = .ok (.iload_n 2, 1) := by decide +kernel
theorem dX5_tellNeed_14 : decode cX5_tellNeed 14 = .ok (.invokevirtual 63, 3) := by decide +kernel
theorem dX5_tellNeed_17 : decode cX5_tellNeed 17 = .ok (.return_, 1) := by decide +kernel
theorem dX5_tellClosed_0 : decode cX5_tellClosed 0 = .ok (.aload_n 0, 1) := by decide +kernel
theorem dX5_tellClosed_1 : decode cX5_tellClosed 1 = .ok (.getfield 27, 3) := by decide +kernel
theorem dX5_tellClosed_4 : decode cX5_tellClosed 4 = .ok (.iload_n 1, 1) := by decide +kernel
theorem dX5_tellClosed_5 : decode cX5_tellClosed 5 = .ok (.iload_n 2, 1) := by decide +kernel
theorem dX5_tellClosed_6 : decode cX5_tellClosed 6 = .ok (.invokestatic 55, 3) := by decide +kernel
theorem dX5_tellClosed_9 : decode cX5_tellClosed 9 = .ok (.iload_n 3, 1) := by decide +kernel
theorem dX5_tellClosed_10 : decode cX5_tellClosed 10 = .ok (.iastore, 1) := by decide +kernel
theorem dX5_tellClosed_11 : decode cX5_tellClosed 11 = .ok (.aload_n 0, 1) := by decide +kernel
theorem dX5_tellClosed_12 : decode cX5_tellClosed 12 = .ok (.iload_n 1, 1) := by decide +kernel
theorem dX5_tellClosed_13 : decode cX5_tellClosed 13 = .ok (.iload_n 2, 1) := by decide +kernel
theorem dX5_tellClosed_14 : decode cX5_tellClosed 14 = .ok (.invokevirtual 63, 3) := by decide +kernel
theorem dX5_tellClosed_17 : decode cX5_tellClosed 17 = .ok (.return_, 1) := by decide +kernel
theorem dX5_heedIfAsked_0 : decode cX5_heedIfAsked 0 = .ok (.iload_n 1, 1) := by decide +kernel
theorem dX5_heedIfAsked_1 : decode cX5_heedIfAsked 1 = .ok (.iload_n 2, 1) := by decide +kernel
theorem dX5_heedIfAsked_2 : decode cX5_heedIfAsked 2 = .ok (.invokestatic 55, 3) := by decide +kernel
theorem dX5_heedIfAsked_5 : decode cX5_heedIfAsked 5 = .ok (.istore_n 3, 1) := by decide +kernel
theorem dX5_heedIfAsked_6 : decode cX5_heedIfAsked 6 = .ok (.aload_n 0, 1) := by decide +kernel
theorem dX5_heedIfAsked_7 : decode cX5_heedIfAsked 7 = .ok (.getfield 42, 3) := by decide +kernel
theorem dX5_heedIfAsked_10 : decode cX5_heedIfAsked 10 = .ok (.iload_n 1, 1) := by decide +kernel
theorem dX5_heedIfAsked_11 : decode cX5_heedIfAsked 11 = .ok (.aload_n 0, 1) := by decide +kernel
theorem dX5_heedIfAsked_12 : decode cX5_heedIfAsked 12 = .ok (.getfield 42, 3) := by decide +kernel
theorem dX5_heedIfAsked_15 : decode cX5_heedIfAsked 15 = .ok (.iload_n 1, 1) := by decide +kernel
theorem dX5_heedIfAsked_16 : decode cX5_heedIfAsked 16 = .ok (.iaload, 1) := by decide +kernel
theorem dX5_heedIfAsked_17 : decode cX5_heedIfAsked 17 = .ok (.iload_n 2, 1) := by decide +kernel
theorem dX5_heedIfAsked_18 : decode cX5_heedIfAsked 18 = .ok (.aload_n 0, 1) := by decide +kernel
theorem dX5_heedIfAsked_19 : decode cX5_heedIfAsked 19 = .ok (.getfield 18, 3) := by decide +kernel
theorem dX5_heedIfAsked_22 : decode cX5_heedIfAsked 22 = .ok (.iload_n 3, 1) := by decide +kernel
theorem dX5_heedIfAsked_23 : decode cX5_heedIfAsked 23 = .ok (.iaload, 1) := by decide +kernel
theorem dX5_heedIfAsked_24 : decode cX5_heedIfAsked 24 = .ok (.ifCond .gt 22, 3) := by decide +kernel
theorem dX5_heedIfAsked_27 : decode cX5_heedIfAsked 27 = .ok (.aload_n 0, 1) := by decide +kernel
theorem dX5_heedIfAsked_28 : decode cX5_heedIfAsked 28 = .ok (.getfield 24, 3) := by decide +kernel
theorem dX5_heedIfAsked_31 : decode cX5_heedIfAsked 31 = .ok (.iload_n 3, 1) := by decide +kernel
theorem dX5_heedIfAsked_32 : decode cX5_heedIfAsked 32 = .ok (.iaload, 1) := by decide +kernel
theorem dX5_heedIfAsked_33 : decode cX5_heedIfAsked 33 = .ok (.ifCond .gt 13, 3) := by decide +kernel
theorem dX5_heedIfAsked_36 : decode cX5_heedIfAsked 36 = .ok (.aload_n 0, 1) := by decide +kernel
theorem dX5_heedIfAsked_37 : decode cX5_heedIfAsked 37 = .ok (.getfield 27, 3) := by decide +kernel
theorem dX5_heedIfAsked_40 : decode cX5_heedIfAsked 40 = .ok (.iload_n 3, 1) := by decide +kernel
theorem dX5_heedIfAsked_41 : decode cX5_heedIfAsked 41 = .ok (.iaload, 1) := by decide +kernel
theorem dX5_heedIfAsked_42 : decode cX5_heedIfAsked 42 = .ok (.iconst 1, 1) := by decide +kernel
theorem dX5_heedIfAsked_43 : decode cX5_heedIfAsked 43 = .ok (.if_icmp .ne 7, 3) := by decide +kernel
theorem dX5_heedIfAsked_46 : decode cX5_heedIfAsked 46 = .ok (.iconst 1, 1) := by decide +kernel
theorem dX5_heedIfAsked_47 : decode cX5_heedIfAsked 47 = .ok (.goto 4, 3) := by decide +kernel
theorem dX5_heedIfAsked_50 : decode cX5_heedIfAsked 50 = .ok (.iconst 0, 1) := by decide +kernel
theorem dX5_heedIfAsked_51 : decode cX5_heedIfAsked 51 = .ok (.invokestatic 59, 3) := by decide +kernel
theorem dX5_heedIfAsked_54 : decode cX5_heedIfAsked 54 = .ok (.iastore, 1) := by decide +kernel
theorem dX5_heedIfAsked_55 : decode cX5_heedIfAsked 55 = .ok (.return_, 1) := by decide +kernel
theorem dX5_withBit_0 : decode cX5_withBit 0 = .ok (.iload_n 2, 1) := by decide +kernel
theorem dX5_withBit_1 : decode cX5_withBit 1 = .ok (.ifCond .eq 11, 3) := by decide +kernel
theorem dX5_withBit_4 : decode cX5_withBit 4 = .ok (.iload_n 0, 1) := by decide +kernel
theorem dX5_withBit_5 : decode cX5_withBit 5 = .ok (.iconst 1, 1) := by decide +kernel
theorem dX5_withBit_6 : decode cX5_withBit 6 = .ok (.iload_n 1, 1) := by decide +kernel
theorem dX5_withBit_7 : decode cX5_withBit 7 = .ok (.ishl, 1) := by decide +kernel
theorem dX5_withBit_8 : decode cX5_withBit 8 = .ok (.ior, 1) := by decide +kernel
theorem dX5_withBit_9 : decode cX5_withBit 9 = .ok (.goto 10, 3) := by decide +kernel
theorem dX5_withBit_12 : decode cX5_withBit 12 = .ok (.iload_n 0, 1) := by decide +kernel
theorem dX5_withBit_13 : decode cX5_withBit 13 = .ok (.iconst 1, 1) := by decide +kernel
theorem dX5_withBit_14 : decode cX5_withBit 14 = .ok (.iload_n 1, 1) := by decide +kernel
theorem dX5_withBit_15 : decode cX5_withBit 15 = .ok (.ishl, 1) := by decide +kernel
theorem dX5_withBit_16 : decode cX5_withBit 16 = .ok (.iconst (-1), 1) := by decide +kernel
theorem dX5_withBit_17 : decode cX5_withBit 17 = .ok (.ixor, 1) := by decide +kernel
theorem dX5_withBit_18 : decode cX5_withBit 18 = .ok (.iand, 1) := by decide +kernel
theorem dX5_withBit_19 : decode cX5_withBit 19 = .ok (.ireturn, 1) := by decide +kernel
theorem dX5_hasPlace_0 : decode cX5_hasPlace 0 = .ok (.iload_n 1, 1) := by decide +kernel
theorem dX5_hasPlace_1 : decode cX5_hasPlace 1 = .ok (.ifCond .lt 15, 3) := by decide +kernel
theorem dX5_hasPlace_4 : decode cX5_hasPlace 4 = .ok (.iload_n 1, 1) := by decide +kernel
theorem dX5_hasPlace_5 : decode cX5_hasPlace 5 = .ok (.aload_n 0, 1) := by decide +kernel
theorem dX5_hasPlace_6 : decode cX5_hasPlace 6 = .ok (.getfield 45, 3) := by decide +kernel
theorem dX5_hasPlace_9 : decode cX5_hasPlace 9 = .ok (.if_icmp .ge 7, 3) := by decide +kernel
theorem dX5_hasPlace_12 : decode cX5_hasPlace 12 = .ok (.iconst 1, 1) := by decide +kernel
theorem dX5_hasPlace_13 : decode cX5_hasPlace 13 = .ok (.goto 4, 3) := by decide +kernel
theorem dX5_hasPlace_16 : decode cX5_hasPlace 16 = .ok (.iconst 0, 1) := by decide +kernel
theorem dX5_hasPlace_17 : decode cX5_hasPlace 17 = .ok (.ireturn, 1) := by decide +kernel
theorem dX5_hasStep_0 : decode cX5_hasStep 0 = .ok (.iload_n 1, 1) := by decide +kernel
theorem dX5_hasStep_1 : decode cX5_hasStep 1 = .ok (.ifCond .lt 15, 3) := by decide +kernel
theorem dX5_hasStep_4 : decode cX5_hasStep 4 = .ok (.iload_n 1, 1) := by decide +kernel
theorem dX5_hasStep_5 : decode cX5_hasStep 5 = .ok (.aload_n 0, 1) := by decide +kernel
theorem dX5_hasStep_6 : decode cX5_hasStep 6 = .ok (.getfield 49, 3) := by decide +kernel
theorem dX5_hasStep_9 : decode cX5_hasStep 9 = .ok (.if_icmp .ge 7, 3) := by decide +kernel
theorem dX5_hasStep_12 : decode cX5_hasStep 12 = .ok (.iconst 1, 1) := by decide +kernel
theorem dX5_hasStep_13 : decode cX5_hasStep 13 = .ok (.goto 4, 3) := by decide +kernel
theorem dX5_hasStep_16 : decode cX5_hasStep 16 = .ok (.iconst 0, 1) := by decide +kernel
theorem dX5_hasStep_17 : decode cX5_hasStep 17 = .ok (.ireturn, 1) := by decide +kernel
theorem dX5_hasBoth_0 : decode cX5_hasBoth 0 = .ok (.aload_n 0, 1) := by decide +kernel
theorem dX5_hasBoth_1 : decode cX5_hasBoth 1 = .ok (.iload_n 1, 1) := by decide +kernel
theorem dX5_hasBoth_2 : decode cX5_hasBoth 2 = .ok (.invokevirtual 67, 3) := by decide +kernel
theorem dX5_hasBoth_5 : decode cX5_hasBoth 5 = .ok (.ifCond .eq 15, 3) := by decide +kernel
theorem dX5_hasBoth_8 : decode cX5_hasBoth 8 = .ok (.aload_n 0, 1) := by decide +kernel
theorem dX5_hasBoth_9 : decode cX5_hasBoth 9 = .ok (.iload_n 2, 1) := by decide +kernel
theorem dX5_hasBoth_10 : decode cX5_hasBoth 10 = .ok (.invokevirtual 71, 3) := by decide +kernel
theorem dX5_hasBoth_13 : decode cX5_hasBoth 13 = .ok (.ifCond .eq 7, 3) := by decide +kernel
theorem dX5_hasBoth_16 : decode cX5_hasBoth 16 = .ok (.iconst 1, 1) := by decide +kernel
theorem dX5_hasBoth_17 : decode cX5_hasBoth 17 = .ok (.goto 4, 3) := by decide +kernel
theorem dX5_hasBoth_20 : decode cX5_hasBoth 20 = .ok (.iconst 0, 1) := by decide +kernel
theorem dX5_hasBoth_21 : decode cX5_hasBoth 21 = .ok (.ireturn, 1) := by decide +kernel
theorem dX5_hasPlaces_0 : decode cX5_hasPlaces 0 = .ok (.iload_n 1, 1) := by decide +kernel
theorem dX5_hasPlaces_1 : decode cX5_hasPlaces 1 = .ok (.ifCond .lt 17, 3) := by decide +kernel
theorem dX5_hasPlaces_4 : decode cX5_hasPlaces 4 = .ok (.iload_n 1, 1) := by decide +kernel
theorem dX5_hasPlaces_5 : decode cX5_hasPlaces 5 = .ok (.iconst 1, 1) := by decide +kernel
theorem dX5_hasPlaces_6 : decode cX5_hasPlaces 6 = .ok (.aload_n 0, 1) := by decide +kernel
theorem dX5_hasPlaces_7 : decode cX5_hasPlaces 7 = .ok (.getfield 45, 3) := by decide +kernel
theorem dX5_hasPlaces_10 : decode cX5_hasPlaces 10 = .ok (.ishl, 1) := by decide +kernel
theorem dX5_hasPlaces_11 : decode cX5_hasPlaces 11 = .ok (.if_icmp .ge 7, 3) := by decide +kernel
theorem dX5_hasPlaces_14 : decode cX5_hasPlaces 14 = .ok (.iconst 1, 1) := by decide +kernel
theorem dX5_hasPlaces_15 : decode cX5_hasPlaces 15 = .ok (.goto 4, 3) := by decide +kernel
theorem dX5_hasPlaces_18 : decode cX5_hasPlaces 18 = .ok (.iconst 0, 1) := by decide +kernel
theorem dX5_hasPlaces_19 : decode cX5_hasPlaces 19 = .ok (.ireturn, 1) := by decide +kernel
theorem dX5_isColoured_0 : decode cX5_isColoured 0 = .ok (.aload_n 0, 1) := by decide +kernel
theorem dX5_isColoured_1 : decode cX5_isColoured 1 = .ok (.getfield 9, 3) := by decide +kernel
theorem dX5_isColoured_4 : decode cX5_isColoured 4 = .ok (.iload_n 1, 1) := by decide +kernel
theorem dX5_isColoured_5 : decode cX5_isColoured 5 = .ok (.iaload, 1) := by decide +kernel
theorem dX5_isColoured_6 : decode cX5_isColoured 6 = .ok (.iconst 1, 1) := by decide +kernel
theorem dX5_isColoured_7 : decode cX5_isColoured 7 = .ok (.if_icmp .ne 7, 3) := by decide +kernel
theorem dX5_isColoured_10 : decode cX5_isColoured 10 = .ok (.iconst 1, 1) := by decide +kernel
theorem dX5_isColoured_11 : decode cX5_isColoured 11 = .ok (.goto 4, 3) := by decide +kernel
theorem dX5_isColoured_14 : decode cX5_isColoured 14 = .ok (.iconst 0, 1) := by decide +kernel
theorem dX5_isColoured_15 : decode cX5_isColoured 15 = .ok (.ireturn, 1) := by decide +kernel
theorem dX5_hasStepAbove_0 : decode cX5_hasStepAbove 0 = .ok (.iconst 0, 1) := by decide +kernel
theorem dX5_hasStepAbove_1 : decode cX5_hasStepAbove 1 = .ok (.istore_n 2, 1) := by decide +kernel
theorem dX5_hasStepAbove_2 : decode cX5_hasStepAbove 2 = .ok (.iload_n 2, 1) := by decide +kernel
theorem dX5_hasStepAbove_3 : decode cX5_hasStepAbove 3 = .ok (.aload_n 0, 1) := by decide +kernel
theorem dX5_hasStepAbove_4 : decode cX5_hasStepAbove 4 = .ok (.getfield 49, 3) := by decide +kernel
theorem dX5_hasStepAbove_7 : decode cX5_hasStepAbove 7 = .ok (.if_icmp .ge 21, 3) := by decide +kernel
theorem dX5_hasStepAbove_10 : decode cX5_hasStepAbove 10 = .ok (.aload_n 0, 1) := by decide +kernel
theorem dX5_hasStepAbove_11 : decode cX5_hasStepAbove 11 = .ok (.getfield 15, 3) := by decide +kernel
theorem dX5_hasStepAbove_14 : decode cX5_hasStepAbove 14 = .ok (.iload_n 2, 1) := by decide +kernel
theorem dX5_hasStepAbove_15 : decode cX5_hasStepAbove 15 = .ok (.iaload, 1) := by decide +kernel
theorem dX5_hasStepAbove_16 : decode cX5_hasStepAbove 16 = .ok (.iload_n 1, 1) := by decide +kernel
theorem dX5_hasStepAbove_17 : decode cX5_hasStepAbove 17 = .ok (.if_icmp .le 5, 3) := by decide +kernel
theorem dX5_hasStepAbove_20 : decode cX5_hasStepAbove 20 = .ok (.iconst 1, 1) := by decide +kernel
theorem dX5_hasStepAbove_21 : decode cX5_hasStepAbove 21 = .ok (.ireturn, 1) := by decide +kernel
theorem dX5_hasStepAbove_22 : decode cX5_hasStepAbove 22 = .ok (.iinc 2 1, 3) := by decide +kernel
theorem dX5_hasStepAbove_25 : decode cX5_hasStepAbove 25 = .ok (.goto (-23), 3) := by decide +kernel
theorem dX5_hasStepAbove_28 : decode cX5_hasStepAbove 28 = .ok (.iconst 0, 1) := by decide +kernel
theorem dX5_hasStepAbove_29 : decode cX5_hasStepAbove 29 = .ok (.ireturn, 1) := by decide +kernel
theorem dX5_change_0 : decode cX5_change 0 = .ok (.aload_n 0, 1) := by decide +kernel
theorem dX5_change_1 : decode cX5_change 1 = .ok (.getfield 21, 3) := by decide +kernel
theorem dX5_change_4 : decode cX5_change 4 = .ok (.iload_n 1, 1) := by decide +kernel
theorem dX5_change_5 : decode cX5_change 5 = .ok (.iload_n 2, 1) := by decide +kernel
theorem dX5_change_6 : decode cX5_change 6 = .ok (.invokestatic 55, 3) := by decide +kernel
theorem dX5_change_9 : decode cX5_change 9 = .ok (.iaload, 1) := by decide +kernel
theorem dX5_change_10 : decode cX5_change 10 = .ok (.aload_n 0, 1) := by decide +kernel
theorem dX5_change_11 : decode cX5_change 11 = .ok (.getfield 18, 3) := by decide +kernel
theorem dX5_change_14 : decode cX5_change 14 = .ok (.iload_n 1, 1) := by decide +kernel
theorem dX5_change_15 : decode cX5_change 15 = .ok (.iload_n 2, 1) := by decide +kernel
theorem dX5_change_16 : decode cX5_change 16 = .ok (.invokestatic 55, 3) := by decide +kernel
theorem dX5_change_19 : decode cX5_change 19 = .ok (.iaload, 1) := by decide +kernel
theorem dX5_change_20 : decode cX5_change 20 = .ok (.isub, 1) := by decide +kernel
theorem dX5_change_21 : decode cX5_change 21 = .ok (.ireturn, 1) := by decide +kernel
theorem dX5_allows_0 : decode cX5_allows 0 = .ok (.aload_n 0, 1) := by decide +kernel
theorem dX5_allows_1 : decode cX5_allows 1 = .ok (.getfield 42, 3) := by decide +kernel
theorem dX5_allows_4 : decode cX5_allows 4 = .ok (.iload_n 2, 1) := by decide +kernel
theorem dX5_allows_5 : decode cX5_allows 5 = .ok (.iaload, 1) := by decide +kernel
theorem dX5_allows_6 : decode cX5_allows 6 = .ok (.istore_n 3, 1) := by decide +kernel
theorem dX5_allows_7 : decode cX5_allows 7 = .ok (.iconst 0, 1) := by decide +kernel
theorem dX5_allows_8 : decode cX5_allows 8 = .ok (.istore 4, 2) := by decide +kernel
theorem dX5_allows_10 : decode cX5_allows 10 = .ok (.iload 4, 2) := by decide +kernel
theorem dX5_allows_12 : decode cX5_allows 12 = .ok (.aload_n 0, 1) := by decide +kernel
theorem dX5_allows_13 : decode cX5_allows 13 = .ok (.getfield 45, 3) := by decide +kernel
theorem dX5_allows_16 : decode cX5_allows 16 = .ok (.if_icmp .ge 131, 3) := by decide +kernel
theorem dX5_allows_19 : decode cX5_allows 19 = .ok (.iload_n 3, 1) := by decide +kernel
theorem dX5_allows_20 : decode cX5_allows 20 = .ok (.iload 4, 2) := by decide +kernel
theorem dX5_allows_22 : decode cX5_allows 22 = .ok (.ishr, 1) := by decide +kernel
theorem dX5_allows_23 : decode cX5_allows 23 = .ok (.ifCond .eq 124, 3) := by decide +kernel
theorem dX5_allows_26 : decode cX5_allows 26 = .ok (.iload_n 3, 1) := by decide +kernel
theorem dX5_allows_27 : decode cX5_allows 27 = .ok (.iload 4, 2) := by decide +kernel
theorem dX5_allows_29 : decode cX5_allows 29 = .ok (.ishr, 1) := by decide +kernel
theorem dX5_allows_30 : decode cX5_allows 30 = .ok (.iconst 1, 1) := by decide +kernel
theorem dX5_allows_31 : decode cX5_allows 31 = .ok (.iand, 1) := by decide +kernel
theorem dX5_allows_32 : decode cX5_allows 32 = .ok (.ifCond .ne 6, 3) := by decide +kernel
theorem dX5_allows_35 : decode cX5_allows 35 = .ok (.goto 106, 3) := by decide +kernel
theorem dX5_allows_38 : decode cX5_allows 38 = .ok (.iload_n 2, 1) := by decide +kernel
theorem dX5_allows_39 : decode cX5_allows 39 = .ok (.iload 4, 2) := by decide +kernel
theorem dX5_allows_41 : decode cX5_allows 41 = .ok (.invokestatic 55, 3) := by decide +kernel
theorem dX5_allows_44 : decode cX5_allows 44 = .ok (.istore 5, 2) := by decide +kernel
theorem dX5_allows_46 : decode cX5_allows 46 = .ok (.aload_n 1, 1) := by decide +kernel
theorem dX5_allows_47 : decode cX5_allows 47 = .ok (.getfield 74, 3) := by decide +kernel
theorem dX5_allows_50 : decode cX5_allows 50 = .ok (.iload 4, 2) := by decide +kernel
theorem dX5_allows_52 : decode cX5_allows 52 = .ok (.iaload, 1) := by decide +kernel
theorem dX5_allows_53 : decode cX5_allows 53 = .ok (.istore 6, 2) := by decide +kernel
theorem dX5_allows_55 : decode cX5_allows 55 = .ok (.iload 6, 2) := by decide +kernel
theorem dX5_allows_57 : decode cX5_allows 57 = .ok (.aload_n 0, 1) := by decide +kernel
theorem dX5_allows_58 : decode cX5_allows 58 = .ok (.getfield 18, 3) := by decide +kernel
theorem dX5_allows_61 : decode cX5_allows 61 = .ok (.iload 5, 2) := by decide +kernel
theorem dX5_allows_63 : decode cX5_allows 63 = .ok (.iaload, 1) := by decide +kernel
theorem dX5_allows_64 : decode cX5_allows 64 = .ok (.if_icmp .lt 31, 3) := by decide +kernel
theorem dX5_allows_67 : decode cX5_allows 67 = .ok (.iload 6, 2) := by decide +kernel
theorem dX5_allows_69 : decode cX5_allows 69 = .ok (.aload_n 0, 1) := by decide +kernel
theorem dX5_allows_70 : decode cX5_allows 70 = .ok (.getfield 24, 3) := by decide +kernel
theorem dX5_allows_73 : decode cX5_allows 73 = .ok (.iload 5, 2) := by decide +kernel
theorem dX5_allows_75 : decode cX5_allows 75 = .ok (.iaload, 1) := by decide +kernel
theorem dX5_allows_76 : decode cX5_allows 76 = .ok (.if_icmp .lt 19, 3) := by decide +kernel
theorem dX5_allows_79 : decode cX5_allows 79 = .ok (.iload 6, 2) := by decide +kernel
theorem dX5_allows_81 : decode cX5_allows 81 = .ok (.ifCond .le 16, 3) := by decide +kernel
theorem dX5_allows_84 : decode cX5_allows 84 = .ok (.aload_n 0, 1) := by decide +kernel
theorem dX5_allows_85 : decode cX5_allows 85 = .ok (.getfield 27, 3) := by decide +kernel
theorem dX5_allows_88 : decode cX5_allows 88 = .ok (.iload 5, 2) := by decide +kernel
theorem dX5_allows_90 : decode cX5_allows 90 = .ok (.iaload, 1) := by decide +kernel
theorem dX5_allows_91 : decode cX5_allows 91 = .ok (.iconst 1, 1) := by decide +kernel
theorem dX5_allows_92 : decode cX5_allows 92 = .ok (.if_icmp .ne 5, 3) := by decide +kernel
theorem dX5_allows_95 : decode cX5_allows 95 = .ok (.iconst 0, 1) := by decide +kernel
theorem dX5_allows_96 : decode cX5_allows 96 = .ok (.ireturn, 1) := by decide +kernel
theorem dX5_allows_97 : decode cX5_allows 97 = .ok (.aload_n 0, 1) := by decide +kernel
theorem dX5_allows_98 : decode cX5_allows 98 = .ok (.getfield 18, 3) := by decide +kernel
theorem dX5_allows_101 : decode cX5_allows 101 = .ok (.iload 5, 2) := by decide +kernel
theorem dX5_allows_103 : decode cX5_allows 103 = .ok (.iaload, 1) := by decide +kernel
theorem dX5_allows_104 : decode cX5_allows 104 = .ok (.ifCond .le 37, 3) := by decide +kernel
theorem dX5_allows_107 : decode cX5_allows 107 = .ok (.aload_n 0, 1) := by decide +kernel
theorem dX5_allows_108 : decode cX5_allows 108 = .ok (.iload 4, 2) := by decide +kernel
theorem dX5_allows_110 : decode cX5_allows 110 = .ok (.invokevirtual 79, 3) := by decide +kernel
theorem dX5_allows_113 : decode cX5_allows 113 = .ok (.ifCond .eq 28, 3) := by decide +kernel
theorem dX5_allows_116 : decode cX5_allows 116 = .ok (.aload_n 1, 1) := by decide +kernel
theorem dX5_allows_117 : decode cX5_allows 117 = .ok (.iload 4, 2) := by decide +kernel
theorem dX5_allows_119 : decode cX5_allows 119 = .ok (.aload_n 0, 1) := by decide +kernel
theorem dX5_allows_120 : decode cX5_allows 120 = .ok (.getfield 30, 3) := by decide +kernel
theorem dX5_allows_123 : decode cX5_allows 123 = .ok (.iload 5, 2) := by decide +kernel
theorem dX5_allows_125 : decode cX5_allows 125 = .ok (.iaload, 1) := by decide +kernel
theorem dX5_allows_126 : decode cX5_allows 126 = .ok (.invokevirtual 82, 3) := by decide +kernel
theorem dX5_allows_129 : decode cX5_allows 129 = .ok (.aload_n 0, 1) := by decide +kernel
theorem dX5_allows_130 : decode cX5_allows 130 = .ok (.getfield 18, 3) := by decide +kernel
theorem dX5_allows_133 : decode cX5_allows 133 = .ok (.iload 5, 2) := by decide +kernel
theorem dX5_allows_135 : decode cX5_allows 135 = .ok (.iaload, 1) := by decide +kernel
theorem dX5_allows_136 : decode cX5_allows 136 = .ok (.if_icmp .ge 5, 3) := by decide +kernel
theorem dX5_allows_139 : decode cX5_allows 139 = .ok (.iconst 0, 1) := by decide +kernel
theorem dX5_allows_140 : decode cX5_allows 140 = .ok (.ireturn, 1) := by decide +kernel
theorem dX5_allows_141 : decode cX5_allows 141 = .ok (.iinc 4 1, 3) := by decide +kernel
theorem dX5_allows_144 : decode cX5_allows 144 = .ok (.goto (-134), 3) := by decide +kernel
theorem dX5_allows_147 : decode cX5_allows 147 = .ok (.iconst 1, 1) := by decide +kernel
theorem dX5_allows_148 : decode cX5_allows 148 = .ok (.ireturn, 1) := by decide +kernel
theorem dX5_urges_0 : decode cX5_urges 0 = .ok (.iconst 0, 1) := by decide +kernel
theorem dX5_urges_1 : decode cX5_urges 1 = .ok (.istore_n 2, 1) := by decide +kernel
theorem dX5_urges_2 : decode cX5_urges 2 = .ok (.iload_n 2, 1) := by decide +kernel
theorem dX5_urges_3 : decode cX5_urges 3 = .ok (.aload_n 0, 1) := by decide +kernel
theorem dX5_urges_4 : decode cX5_urges 4 = .ok (.getfield 49, 3) := by decide +kernel
theorem dX5_urges_7 : decode cX5_urges 7 = .ok (.if_icmp .ge 30, 3) := by decide +kernel
theorem dX5_urges_10 : decode cX5_urges 10 = .ok (.aload_n 0, 1) := by decide +kernel
theorem dX5_urges_11 : decode cX5_urges 11 = .ok (.getfield 15, 3) := by decide +kernel
theorem dX5_urges_14 : decode cX5_urges 14 = .ok (.iload_n 2, 1) := by decide +kernel
theorem dX5_urges_15 : decode cX5_urges 15 = .ok (.iaload, 1) := by decide +kernel
theorem dX5_urges_16 : decode cX5_urges 16 = .ok (.iconst 3, 1) := by decide +kernel
theorem dX5_urges_17 : decode cX5_urges 17 = .ok (.if_icmp .ne 14, 3) := by decide +kernel
theorem dX5_urges_20 : decode cX5_urges 20 = .ok (.aload_n 0, 1) := by decide +kernel
theorem dX5_urges_21 : decode cX5_urges 21 = .ok (.aload_n 1, 1) := by decide +kernel
theorem dX5_urges_22 : decode cX5_urges 22 = .ok (.iload_n 2, 1) := by decide +kernel
theorem dX5_urges_23 : decode cX5_urges 23 = .ok (.invokevirtual 85, 3) := by decide +kernel
theorem dX5_urges_26 : decode cX5_urges 26 = .ok (.ifCond .eq 5, 3) := by decide +kernel
theorem dX5_urges_29 : decode cX5_urges 29 = .ok (.iconst 1, 1) := by decide +kernel
theorem dX5_urges_30 : decode cX5_urges 30 = .ok (.ireturn, 1) := by decide +kernel
theorem dX5_urges_31 : decode cX5_urges 31 = .ok (.iinc 2 1, 3) := by decide +kernel
theorem dX5_urges_34 : decode cX5_urges 34 = .ok (.goto (-32), 3) := by decide +kernel
theorem dX5_urges_37 : decode cX5_urges 37 = .ok (.iconst 0, 1) := by decide +kernel
theorem dX5_urges_38 : decode cX5_urges 38 = .ok (.ireturn, 1) := by decide +kernel
theorem dX5_goes_0 : decode cX5_goes 0 = .ok (.aload_n 0, 1) := by decide +kernel
theorem dX5_goes_1 : decode cX5_goes 1 = .ok (.aload_n 1, 1) := by decide +kernel
theorem dX5_goes_2 : decode cX5_goes 2 = .ok (.iload_n 2, 1) := by decide +kernel
theorem dX5_goes_3 : decode cX5_goes 3 = .ok (.invokevirtual 85, 3) := by decide +kernel
theorem dX5_goes_6 : decode cX5_goes 6 = .ok (.ifCond .eq 25, 3) := by decide +kernel
theorem dX5_goes_9 : decode cX5_goes 9 = .ok (.aload_n 0, 1) := by decide +kernel
theorem dX5_goes_10 : decode cX5_goes 10 = .ok (.getfield 15, 3) := by decide +kernel
theorem dX5_goes_13 : decode cX5_goes 13 = .ok (.iload_n 2, 1) := by decide +kernel
theorem dX5_goes_14 : decode cX5_goes 14 = .ok (.iaload, 1) := by decide +kernel
theorem dX5_goes_15 : decode cX5_goes 15 = .ok (.iconst 3, 1) := by decide +kernel
theorem dX5_goes_16 : decode cX5_goes 16 = .ok (.if_icmp .eq 11, 3) := by decide +kernel
theorem dX5_goes_19 : decode cX5_goes 19 = .ok (.aload_n 0, 1) := by decide +kernel
theorem dX5_goes_20 : decode cX5_goes 20 = .ok (.aload_n 1, 1) := by decide +kernel
theorem dX5_goes_21 : decode cX5_goes 21 = .ok (.invokevirtual 89, 3) := by decide +kernel
theorem dX5_goes_24 : decode cX5_goes 24 = .ok (.ifCond .ne 7, 3) := by decide +kernel
theorem dX5_goes_27 : decode cX5_goes 27 = .ok (.iconst 1, 1) := by decide +kernel
theorem dX5_goes_28 : decode cX5_goes 28 = .ok (.goto 4, 3) := by decide +kernel
theorem dX5_goes_31 : decode cX5_goes 31 = .ok (.iconst 0, 1) := by decide +kernel
theorem dX5_goes_32 : decode cX5_goes 32 = .ok (.ireturn, 1) := by decide +kernel
theorem dX5_goesWhere_0 : decode cX5_goesWhere 0 = .ok (.iload_n 1, 1) := by decide +kernel
theorem dX5_goesWhere_1 : decode cX5_goesWhere 1 = .ok (.ifCond .eq 13, 3) := by decide +kernel
theorem dX5_goesWhere_4 : decode cX5_goesWhere 4 = .ok (.aload_n 0, 1) := by decide +kernel
theorem dX5_goesWhere_5 : decode cX5_goesWhere 5 = .ok (.getfield 15, 3) := by decide +kernel
theorem dX5_goesWhere_8 : decode cX5_goesWhere 8 = .ok (.iload_n 3, 1) := by decide +kernel
theorem dX5_goesWhere_9 : decode cX5_goesWhere 9 = .ok (.iaload, 1) := by decide +kernel
theorem dX5_goesWhere_10 : decode cX5_goesWhere 10 = .ok (.iconst 3, 1) := by decide +kernel
theorem dX5_goesWhere_11 : decode cX5_goesWhere 11 = .ok (.if_icmp .ne 16, 3) := by decide +kernel
theorem dX5_goesWhere_14 : decode cX5_goesWhere 14 = .ok (.aload_n 0, 1) := by decide +kernel
theorem dX5_goesWhere_15 : decode cX5_goesWhere 15 = .ok (.aload_n 2, 1) := by decide +kernel
theorem dX5_goesWhere_16 : decode cX5_goesWhere 16 = .ok (.iload_n 3, 1) := by decide +kernel
theorem dX5_goesWhere_17 : decode cX5_goesWhere 17 = .ok (.invokevirtual 85, 3) := by decide +kernel
theorem dX5_goesWhere_20 : decode cX5_goesWhere 20 = .ok (.ifCond .eq 7, 3) := by decide +kernel
theorem dX5_goesWhere_23 : decode cX5_goesWhere 23 = .ok (.iconst 1, 1) := by decide +kernel
theorem dX5_goesWhere_24 : decode cX5_goesWhere 24 = .ok (.goto 4, 3) := by decide +kernel
theorem dX5_goesWhere_27 : decode cX5_goesWhere 27 = .ok (.iconst 0, 1) := by decide +kernel
theorem dX5_goesWhere_28 : decode cX5_goesWhere 28 = .ok (.ireturn, 1) := by decide +kernel
theorem dX5_leastGoing_0 : decode cX5_leastGoing 0 = .ok (.aload_n 0, 1) := by decide +kernel
theorem dX5_leastGoing_1 : decode cX5_leastGoing 1 = .ok (.aload_n 1, 1) := by decide +kernel
theorem dX5_leastGoing_2 : decode cX5_leastGoing 2 = .ok (.invokevirtual 89, 3) := by decide +kernel
theorem dX5_leastGoing_5 : decode cX5_leastGoing 5 = .ok (.istore_n 2, 1) := by decide +kernel
theorem dX5_leastGoing_6 : decode cX5_leastGoing 6 = .ok (.iconst 0, 1) := by decide +kernel
theorem dX5_leastGoing_7 : decode cX5_leastGoing 7 = .ok (.istore_n 3, 1) := by decide +kernel
theorem dX5_leastGoing_8 : decode cX5_leastGoing 8 = .ok (.iload_n 3, 1) := by decide +kernel
theorem dX5_leastGoing_9 : decode cX5_leastGoing 9 = .ok (.aload_n 0, 1) := by decide +kernel
theorem dX5_leastGoing_10 : decode cX5_leastGoing 10 = .ok (.getfield 49, 3) := by decide +kernel
theorem dX5_leastGoing_13 : decode cX5_leastGoing 13 = .ok (.if_icmp .ge 21, 3) := by decide +kernel
theorem dX5_leastGoing_16 : decode cX5_leastGoing 16 = .ok (.aload_n 0, 1) := by decide +kernel
theorem dX5_leastGoing_17 : decode cX5_leastGoing 17 = .ok (.iload_n 2, 1) := by decide +kernel
theorem dX5_leastGoing_18 : decode cX5_leastGoing 18 = .ok (.aload_n 1, 1) := by decide +kernel
theorem dX5_leastGoing_19 : decode cX5_leastGoing 19 = .ok (.iload_n 3, 1) := by decide +kernel
theorem dX5_leastGoing_20 : decode cX5_leastGoing 20 = .ok (.invokevirtual 93, 3) := by decide +kernel
theorem dX5_leastGoing_23 : decode cX5_leastGoing 23 = .ok (.ifCond .eq 5, 3) := by decide +kernel
theorem dX5_leastGoing_26 : decode cX5_leastGoing 26 = .ok (.iload_n 3, 1) := by decide +kernel
theorem dX5_leastGoing_27 : decode cX5_leastGoing 27 = .ok (.ireturn, 1) := by decide +kernel
theorem dX5_leastGoing_28 : decode cX5_leastGoing 28 = .ok (.iinc 3 1, 3) := by decide +kernel
theorem dX5_leastGoing_31 : decode cX5_leastGoing 31 = .ok (.goto (-23), 3) := by decide +kernel
theorem dX5_leastGoing_34 : decode cX5_leastGoing 34 = .ok (.iconst (-1), 1) := by decide +kernel
theorem dX5_leastGoing_35 : decode cX5_leastGoing 35 = .ok (.ireturn, 1) := by decide +kernel
theorem dX5_overfills_0 : decode cX5_overfills 0 = .ok (.iconst 0, 1) := by decide +kernel
theorem dX5_overfills_1 : decode cX5_overfills 1 = .ok (.istore_n 3, 1) := by decide +kernel
theorem dX5_overfills_2 : decode cX5_overfills 2 = .ok (.iload_n 3, 1) := by decide +kernel
theorem dX5_overfills_3 : decode cX5_overfills 3 = .ok (.aload_n 0, 1) := by decide +kernel
theorem dX5_overfills_4 : decode cX5_overfills 4 = .ok (.getfield 45, 3) := by decide +kernel
theorem dX5_overfills_7 : decode cX5_overfills 7 = .ok (.if_icmp .ge 46, 3) := by decide +kernel
theorem dX5_overfills_10 : decode cX5_overfills 10 = .ok (.aload_n 0, 1) := by decide +kernel
theorem dX5_overfills_11 : decode cX5_overfills 11 = .ok (.iload_n 3, 1) := by decide +kernel
theorem dX5_overfills_12 : decode cX5_overfills 12 = .ok (.invokevirtual 79, 3) := by decide +kernel
theorem dX5_overfills_15 : decode cX5_overfills 15 = .ok (.ifCond .eq 8, 3) := by decide +kernel
theorem dX5_overfills_18 : decode cX5_overfills 18 = .ok (.bipush 20, 2) := by decide +kernel
theorem dX5_overfills_20 : decode cX5_overfills 20 = .ok (.goto 5, 3) := by decide +kernel
theorem dX5_overfills_23 : decode cX5_overfills 23 = .ok (.ldc 97, 2) := by decide +kernel
theorem dX5_overfills_25 : decode cX5_overfills 25 = .ok (.istore 4, 2) := by decide +kernel
theorem dX5_overfills_27 : decode cX5_overfills 27 = .ok (.aload_n 1, 1) := by decide +kernel
theorem dX5_overfills_28 : decode cX5_overfills 28 = .ok (.getfield 74, 3) := by decide +kernel
theorem dX5_overfills_31 : decode cX5_overfills 31 = .ok (.iload_n 3, 1) := by decide +kernel
theorem dX5_overfills_32 : decode cX5_overfills 32 = .ok (.iaload, 1) := by decide +kernel
theorem dX5_overfills_33 : decode cX5_overfills 33 = .ok (.aload_n 0, 1) := by decide +kernel
theorem dX5_overfills_34 : decode cX5_overfills 34 = .ok (.iload_n 2, 1) := by decide +kernel
theorem dX5_overfills_35 : decode cX5_overfills 35 = .ok (.iload_n 3, 1) := by decide +kernel
theorem dX5_overfills_36 : decode cX5_overfills 36 = .ok (.invokevirtual 98, 3) := by decide +kernel
theorem dX5_overfills_39 : decode cX5_overfills 39 = .ok (.iadd, 1) := by decide +kernel
theorem dX5_overfills_40 : decode cX5_overfills 40 = .ok (.iload 4, 2) := by decide +kernel
theorem dX5_overfills_42 : decode cX5_overfills 42 = .ok (.if_icmp .le 5, 3) := by decide +kernel
theorem dX5_overfills_45 : decode cX5_overfills 45 = .ok (.iconst 1, 1) := by decide +kernel
theorem dX5_overfills_46 : decode cX5_overfills 46 = .ok (.ireturn, 1) := by decide +kernel
theorem dX5_overfills_47 : decode cX5_overfills 47 = .ok (.iinc 3 1, 3) := by decide +kernel
theorem dX5_overfills_50 : decode cX5_overfills 50 = .ok (.goto (-48), 3) := by decide +kernel
theorem dX5_overfills_53 : decode cX5_overfills 53 = .ok (.iconst 0, 1) := by decide +kernel
theorem dX5_overfills_54 : decode cX5_overfills 54 = .ok (.ireturn, 1) := by decide +kernel
theorem dX5_move_0 : decode cX5_move 0 = .ok (.aload_n 0, 1) := by decide +kernel
theorem dX5_move_1 : decode cX5_move 1 = .ok (.getfield 36, 3) := by decide +kernel
theorem dX5_move_4 : decode cX5_move 4 = .ok (.iload_n 2, 1) := by decide +kernel
theorem dX5_move_5 : decode cX5_move 5 = .ok (.iaload, 1) := by decide +kernel
theorem dX5_move_6 : decode cX5_move 6 = .ok (.aload_n 0, 1) := by decide +kernel
theorem dX5_move_7 : decode cX5_move 7 = .ok (.getfield 39, 3) := by decide +kernel
theorem dX5_move_10 : decode cX5_move 10 = .ok (.iload_n 2, 1) := by decide +kernel
theorem dX5_move_11 : decode cX5_move 11 = .ok (.iaload, 1) := by decide +kernel
theorem dX5_move_12 : decode cX5_move 12 = .ok (.ior, 1) := by decide +kernel
theorem dX5_move_13 : decode cX5_move 13 = .ok (.istore_n 3, 1) := by decide +kernel
theorem dX5_move_14 : decode cX5_move 14 = .ok (.iconst 0, 1) := by decide +kernel
theorem dX5_move_15 : decode cX5_move 15 = .ok (.istore 4, 2) := by decide +kernel
theorem dX5_move_17 : decode cX5_move 17 = .ok (.iload 4, 2) := by decide +kernel
theorem dX5_move_19 : decode cX5_move 19 = .ok (.aload_n 0, 1) := by decide +kernel
theorem dX5_move_20 : decode cX5_move 20 = .ok (.getfield 45, 3) := by decide +kernel
theorem dX5_move_23 : decode cX5_move 23 = .ok (.if_icmp .ge 39, 3) := by decide +kernel
theorem dX5_move_26 : decode cX5_move 26 = .ok (.iload_n 3, 1) := by decide +kernel
theorem dX5_move_27 : decode cX5_move 27 = .ok (.iload 4, 2) := by decide +kernel
theorem dX5_move_29 : decode cX5_move 29 = .ok (.ishr, 1) := by decide +kernel
theorem dX5_move_30 : decode cX5_move 30 = .ok (.ifCond .eq 32, 3) := by decide +kernel
theorem dX5_move_33 : decode cX5_move 33 = .ok (.iload_n 3, 1) := by decide +kernel
theorem dX5_move_34 : decode cX5_move 34 = .ok (.iload 4, 2) := by decide +kernel
theorem dX5_move_36 : decode cX5_move 36 = .ok (.ishr, 1) := by decide +kernel
theorem dX5_move_37 : decode cX5_move 37 = .ok (.iconst 1, 1) := by decide +kernel
theorem dX5_move_38 : decode cX5_move 38 = .ok (.iand, 1) := by decide +kernel
theorem dX5_move_39 : decode cX5_move 39 = .ok (.iconst 1, 1) := by decide +kernel
theorem dX5_move_40 : decode cX5_move 40 = .ok (.if_icmp .ne 16, 3) := by decide +kernel
theorem dX5_move_43 : decode cX5_move 43 = .ok (.aload_n 0, 1) := by decide +kernel
theorem dX5_move_44 : decode cX5_move 44 = .ok (.aload_n 1, 1) := by decide +kernel
theorem dX5_move_45 : decode cX5_move 45 = .ok (.iload 4, 2) := by decide +kernel
theorem dX5_move_47 : decode cX5_move 47 = .ok (.iload_n 2, 1) := by decide +kernel
theorem dX5_move_48 : decode cX5_move 48 = .ok (.iload 4, 2) := by decide +kernel
theorem dX5_move_50 : decode cX5_move 50 = .ok (.invokestatic 55, 3) := by decide +kernel
theorem dX5_move_53 : decode cX5_move 53 = .ok (.invokevirtual 101, 3) := by decide +kernel
theorem dX5_move_56 : decode cX5_move 56 = .ok (.iinc 4 1, 3) := by decide +kernel
theorem dX5_move_59 : decode cX5_move 59 = .ok (.goto (-42), 3) := by decide +kernel
theorem dX5_move_62 : decode cX5_move 62 = .ok (.return_, 1) := by decide +kernel
theorem dX5_moveAt_0 : decode cX5_moveAt 0 = .ok (.aload_n 0, 1) := by decide +kernel
theorem dX5_moveAt_1 : decode cX5_moveAt 1 = .ok (.iload_n 2, 1) := by decide +kernel
theorem dX5_moveAt_2 : decode cX5_moveAt 2 = .ok (.invokevirtual 79, 3) := by decide +kernel
theorem dX5_moveAt_5 : decode cX5_moveAt 5 = .ok (.ifCond .eq 40, 3) := by decide +kernel
theorem dX5_moveAt_8 : decode cX5_moveAt 8 = .ok (.aload_n 1, 1) := by decide +kernel
theorem dX5_moveAt_9 : decode cX5_moveAt 9 = .ok (.iload_n 2, 1) := by decide +kernel
theorem dX5_moveAt_10 : decode cX5_moveAt 10 = .ok (.aload_n 0, 1) := by decide +kernel
theorem dX5_moveAt_11 : decode cX5_moveAt 11 = .ok (.getfield 18, 3) := by decide +kernel
theorem dX5_moveAt_14 : decode cX5_moveAt 14 = .ok (.iload_n 3, 1) := by decide +kernel
theorem dX5_moveAt_15 : decode cX5_moveAt 15 = .ok (.iaload, 1) := by decide +kernel
theorem dX5_moveAt_16 : decode cX5_moveAt 16 = .ok (.aload_n 0, 1) := by decide +kernel
theorem dX5_moveAt_17 : decode cX5_moveAt 17 = .ok (.getfield 30, 3) := by decide +kernel
theorem dX5_moveAt_20 : decode cX5_moveAt 20 = .ok (.iload_n 3, 1) := by decide +kernel
theorem dX5_moveAt_21 : decode cX5_moveAt 21 = .ok (.iaload, 1) := by decide +kernel
theorem dX5_moveAt_22 : decode cX5_moveAt 22 = .ok (.invokevirtual 105, 3) := by decide +kernel
theorem dX5_moveAt_25 : decode cX5_moveAt 25 = .ok (.aload_n 1, 1) := by decide +kernel
theorem dX5_moveAt_26 : decode cX5_moveAt 26 = .ok (.iload_n 2, 1) := by decide +kernel
theorem dX5_moveAt_27 : decode cX5_moveAt 27 = .ok (.aload_n 0, 1) := by decide +kernel
theorem dX5_moveAt_28 : decode cX5_moveAt 28 = .ok (.getfield 21, 3) := by decide +kernel
theorem dX5_moveAt_31 : decode cX5_moveAt 31 = .ok (.iload_n 3, 1) := by decide +kernel
theorem dX5_moveAt_32 : decode cX5_moveAt 32 = .ok (.iaload, 1) := by decide +kernel
theorem dX5_moveAt_33 : decode cX5_moveAt 33 = .ok (.aload_n 0, 1) := by decide +kernel
theorem dX5_moveAt_34 : decode cX5_moveAt 34 = .ok (.getfield 33, 3) := by decide +kernel
theorem dX5_moveAt_37 : decode cX5_moveAt 37 = .ok (.iload_n 3, 1) := by decide +kernel
theorem dX5_moveAt_38 : decode cX5_moveAt 38 = .ok (.iaload, 1) := by decide +kernel
theorem dX5_moveAt_39 : decode cX5_moveAt 39 = .ok (.invokevirtual 109, 3) := by decide +kernel
theorem dX5_moveAt_42 : decode cX5_moveAt 42 = .ok (.goto 36, 3) := by decide +kernel
theorem dX5_moveAt_45 : decode cX5_moveAt 45 = .ok (.aload_n 1, 1) := by decide +kernel
theorem dX5_moveAt_46 : decode cX5_moveAt 46 = .ok (.getfield 74, 3) := by decide +kernel
theorem dX5_moveAt_49 : decode cX5_moveAt 49 = .ok (.iload_n 2, 1) := by decide +kernel
theorem dX5_moveAt_50 : decode cX5_moveAt 50 = .ok (.iaload, 1) := by decide +kernel
theorem dX5_moveAt_51 : decode cX5_moveAt 51 = .ok (.ldc 112, 2) := by decide +kernel
theorem dX5_moveAt_53 : decode cX5_moveAt 53 = .ok (.if_icmp .eq 25, 3) := by decide +kernel
theorem dX5_moveAt_56 : decode cX5_moveAt 56 = .ok (.aload_n 1, 1) := by decide +kernel
theorem dX5_moveAt_57 : decode cX5_moveAt 57 = .ok (.getfield 74, 3) := by decide +kernel
theorem dX5_moveAt_60 : decode cX5_moveAt 60 = .ok (.iload_n 2, 1) := by decide +kernel
theorem dX5_moveAt_61 : decode cX5_moveAt 61 = .ok (.dup2, 1) := by decide +kernel
theorem dX5_moveAt_62 : decode cX5_moveAt 62 = .ok (.iaload, 1) := by decide +kernel
theorem dX5_moveAt_63 : decode cX5_moveAt 63 = .ok (.aload_n 0, 1) := by decide +kernel
theorem dX5_moveAt_64 : decode cX5_moveAt 64 = .ok (.getfield 21, 3) := by decide +kernel
theorem dX5_moveAt_67 : decode cX5_moveAt 67 = .ok (.iload_n 3, 1) := by decide +kernel
theorem dX5_moveAt_68 : decode cX5_moveAt 68 = .ok (.iaload, 1) := by decide +kernel
theorem dX5_moveAt_69 : decode cX5_moveAt 69 = .ok (.aload_n 0, 1) := by decide +kernel
theorem dX5_moveAt_70 : decode cX5_moveAt 70 = .ok (.getfield 18, 3) := by decide +kernel
theorem dX5_moveAt_73 : decode cX5_moveAt 73 = .ok (.iload_n 3, 1) := by decide +kernel
theorem dX5_moveAt_74 : decode cX5_moveAt 74 = .ok (.iaload, 1) := by decide +kernel
theorem dX5_moveAt_75 : decode cX5_moveAt 75 = .ok (.isub, 1) := by decide +kernel
theorem dX5_moveAt_76 : decode cX5_moveAt 76 = .ok (.iadd, 1) := by decide +kernel
theorem dX5_moveAt_77 : decode cX5_moveAt 77 = .ok (.iastore, 1) := by decide +kernel
theorem dX5_moveAt_78 : decode cX5_moveAt 78 = .ok (.return_, 1) := by decide +kernel
theorem dX5_entries_0 : decode cX5_entries 0 = .ok (.iload_n 1, 1) := by decide +kernel
theorem dX5_entries_1 : decode cX5_entries 1 = .ok (.ifCond .ne 10, 3) := by decide +kernel
theorem dX5_entries_4 : decode cX5_entries 4 = .ok (.aload_n 0, 1) := by decide +kernel
theorem dX5_entries_5 : decode cX5_entries 5 = .ok (.getfield 39, 3) := by decide +kernel
theorem dX5_entries_8 : decode cX5_entries 8 = .ok (.goto 7, 3) := by decide +kernel
theorem dX5_entries_11 : decode cX5_entries 11 = .ok (.aload_n 0, 1) := by decide +kernel
theorem dX5_entries_12 : decode cX5_entries 12 = .ok (.getfield 36, 3) := by decide +kernel
theorem dX5_entries_15 : decode cX5_entries 15 = .ok (.areturn, 1) := by decide +kernel
theorem dX5_exits_0 : decode cX5_exits 0 = .ok (.iload_n 1, 1) := by decide +kernel
theorem dX5_exits_1 : decode cX5_exits 1 = .ok (.ifCond .ne 10, 3) := by decide +kernel
theorem dX5_exits_4 : decode cX5_exits 4 = .ok (.aload_n 0, 1) := by decide +kernel
theorem dX5_exits_5 : decode cX5_exits 5 = .ok (.getfield 36, 3) := by decide +kernel
theorem dX5_exits_8 : decode cX5_exits 8 = .ok (.goto 7, 3) := by decide +kernel
theorem dX5_exits_11 : decode cX5_exits 11 = .ok (.aload_n 0, 1) := by decide +kernel
theorem dX5_exits_12 : decode cX5_exits 12 = .ok (.getfield 39, 3) := by decide +kernel
theorem dX5_exits_15 : decode cX5_exits 15 = .ok (.areturn, 1) := by decide +kernel
theorem dX5_greatestWithin_0 : decode cX5_greatestWithin 0 = .ok (.aload_n 0, 1) := by decide +kernel
theorem dX5_greatestWithin_1 : decode cX5_greatestWithin 1 = .ok (.iload_n 2, 1) := by decide +kernel
theorem dX5_greatestWithin_2 : decode cX5_greatestWithin 2 = .ok (.invokevirtual 113, 3) := by decide +kernel
theorem dX5_greatestWithin_5 : decode cX5_greatestWithin 5 = .ok (.astore_n 3, 1) := by decide +kernel
theorem dX5_greatestWithin_6 : decode cX5_greatestWithin 6 = .ok (.aload_n 0, 1) := by decide +kernel
theorem dX5_greatestWithin_7 : decode cX5_greatestWithin 7 = .ok (.iload_n 2, 1) := by decide +kernel
theorem dX5_greatestWithin_8 : decode cX5_greatestWithin 8 = .ok (.invokevirtual 117, 3) := by decide +kernel
theorem dX5_greatestWithin_11 : decode cX5_greatestWithin 11 = .ok (.astore 4, 2) := by decide +kernel
theorem dX5_greatestWithin_13 : decode cX5_greatestWithin 13 = .ok (.iload_n 1, 1) := by decide +kernel
theorem dX5_greatestWithin_14 : decode cX5_greatestWithin 14 = .ok (.istore 5, 2) := by decide +kernel
theorem dX5_greatestWithin_16 : decode cX5_greatestWithin 16 = .ok (.iconst 0, 1) := by decide +kernel
theorem dX5_greatestWithin_17 : decode cX5_greatestWithin 17 = .ok (.istore 6, 2) := by decide +kernel
theorem dX5_greatestWithin_19 : decode cX5_greatestWithin 19 = .ok (.iload 6, 2) := by decide +kernel
theorem dX5_greatestWithin_21 : decode cX5_greatestWithin 21 = .ok (.aload_n 0, 1) := by decide +kernel
theorem dX5_greatestWithin_22 : decode cX5_greatestWithin 22 = .ok (.getfield 45, 3) := by decide +kernel
theorem dX5_greatestWithin_25 : decode cX5_greatestWithin 25 = .ok (.if_icmp .gt 73, 3) := by decide +kernel
theorem dX5_greatestWithin_28 : decode cX5_greatestWithin 28 = .ok (.iload 5, 2) := by decide +kernel
theorem dX5_greatestWithin_30 : decode cX5_greatestWithin 30 = .ok (.istore 7, 2) := by decide +kernel
theorem dX5_greatestWithin_32 : decode cX5_greatestWithin 32 = .ok (.iconst 0, 1) := by decide +kernel
theorem dX5_greatestWithin_33 : decode cX5_greatestWithin 33 = .ok (.istore 8, 2) := by decide +kernel
theorem dX5_greatestWithin_35 : decode cX5_greatestWithin 35 = .ok (.iload 8, 2) := by decide +kernel
theorem dX5_greatestWithin_37 : decode cX5_greatestWithin 37 = .ok (.aload_n 0, 1) := by decide +kernel
theorem dX5_greatestWithin_38 : decode cX5_greatestWithin 38 = .ok (.getfield 49, 3) := by decide +kernel
theorem dX5_greatestWithin_41 : decode cX5_greatestWithin 41 = .ok (.if_icmp .ge 41, 3) := by decide +kernel
theorem dX5_greatestWithin_44 : decode cX5_greatestWithin 44 = .ok (.aload_n 3, 1) := by decide +kernel
theorem dX5_greatestWithin_45 : decode cX5_greatestWithin 45 = .ok (.iload 8, 2) := by decide +kernel
theorem dX5_greatestWithin_47 : decode cX5_greatestWithin 47 = .ok (.iaload, 1) := by decide +kernel
theorem dX5_greatestWithin_48 : decode cX5_greatestWithin 48 = .ok (.iload 5, 2) := by decide +kernel
theorem dX5_greatestWithin_50 : decode cX5_greatestWithin 50 = .ok (.iand, 1) := by decide +kernel
theorem dX5_greatestWithin_51 : decode cX5_greatestWithin 51 = .ok (.ifCond .eq 25, 3) := by decide +kernel
theorem dX5_greatestWithin_54 : decode cX5_greatestWithin 54 = .ok (.aload 4, 2) := by decide +kernel
theorem dX5_greatestWithin_56 : decode cX5_greatestWithin 56 = .ok (.iload 8, 2) := by decide +kernel
theorem dX5_greatestWithin_58 : decode cX5_greatestWithin 58 = .ok (.iaload, 1) := by decide +kernel
theorem dX5_greatestWithin_59 : decode cX5_greatestWithin 59 = .ok (.iload 5, 2) := by decide +kernel
theorem dX5_greatestWithin_61 : decode cX5_greatestWithin 61 = .ok (.iand, 1) := by decide +kernel
theorem dX5_greatestWithin_62 : decode cX5_greatestWithin 62 = .ok (.ifCond .ne 14, 3) := by decide +kernel
theorem dX5_greatestWithin_65 : decode cX5_greatestWithin 65 = .ok (.iload 5, 2) := by decide +kernel
theorem dX5_greatestWithin_67 : decode cX5_greatestWithin 67 = .ok (.aload_n 3, 1) := by decide +kernel
theorem dX5_greatestWithin_68 : decode cX5_greatestWithin 68 = .ok (.iload 8, 2) := by decide +kernel
theorem dX5_greatestWithin_70 : decode cX5_greatestWithin 70 = .ok (.iaload, 1) := by decide +kernel
theorem dX5_greatestWithin_71 : decode cX5_greatestWithin 71 = .ok (.iconst (-1), 1) := by decide +kernel
theorem dX5_greatestWithin_72 : decode cX5_greatestWithin 72 = .ok (.ixor, 1) := by decide +kernel
theorem dX5_greatestWithin_73 : decode cX5_greatestWithin 73 = .ok (.iand, 1) := by decide +kernel
theorem dX5_greatestWithin_74 : decode cX5_greatestWithin 74 = .ok (.istore 5, 2) := by decide +kernel
theorem dX5_greatestWithin_76 : decode cX5_greatestWithin 76 = .ok (.iinc 8 1, 3) := by decide +kernel
theorem dX5_greatestWithin_79 : decode cX5_greatestWithin 79 = .ok (.goto (-44), 3) := by decide +kernel
theorem dX5_greatestWithin_82 : decode cX5_greatestWithin 82 = .ok (.iload 5, 2) := by decide +kernel
theorem dX5_greatestWithin_84 : decode cX5_greatestWithin 84 = .ok (.iload 7, 2) := by decide +kernel
theorem dX5_greatestWithin_86 : decode cX5_greatestWithin 86 = .ok (.if_icmp .ne 6, 3) := by decide +kernel
theorem dX5_greatestWithin_89 : decode cX5_greatestWithin 89 = .ok (.iload 5, 2) := by decide +kernel
theorem dX5_greatestWithin_91 : decode cX5_greatestWithin 91 = .ok (.ireturn, 1) := by decide +kernel
theorem dX5_greatestWithin_92 : decode cX5_greatestWithin 92 = .ok (.iinc 6 1, 3) := by decide +kernel
theorem dX5_greatestWithin_95 : decode cX5_greatestWithin 95 = .ok (.goto (-76), 3) := by decide +kernel
theorem dX5_greatestWithin_98 : decode cX5_greatestWithin 98 = .ok (.iload 5, 2) := by decide +kernel
theorem dX5_greatestWithin_100 : decode cX5_greatestWithin 100 = .ok (.ireturn, 1) := by decide +kernel
theorem dX5_isLeast_0 : decode cX5_isLeast 0 = .ok (.iload_n 1, 1) := by decide +kernel
theorem dX5_isLeast_1 : decode cX5_isLeast 1 = .ok (.ifCond .eq 13, 3) := by decide +kernel
theorem dX5_isLeast_4 : decode cX5_isLeast 4 = .ok (.aload_n 0, 1) := by decide +kernel
theorem dX5_isLeast_5 : decode cX5_isLeast 5 = .ok (.iload_n 1, 1) := by decide +kernel
theorem dX5_isLeast_6 : decode cX5_isLeast 6 = .ok (.iload_n 2, 1) := by decide +kernel
theorem dX5_isLeast_7 : decode cX5_isLeast 7 = .ok (.invokevirtual 120, 3) := by decide +kernel
theorem dX5_isLeast_10 : decode cX5_isLeast 10 = .ok (.iload_n 1, 1) := by decide +kernel
theorem dX5_isLeast_11 : decode cX5_isLeast 11 = .ok (.if_icmp .eq 5, 3) := by decide +kernel
theorem dX5_isLeast_14 : decode cX5_isLeast 14 = .ok (.iconst 0, 1) := by decide +kernel
theorem dX5_isLeast_15 : decode cX5_isLeast 15 = .ok (.ireturn, 1) := by decide +kernel
theorem dX5_isLeast_16 : decode cX5_isLeast 16 = .ok (.iconst 0, 1) := by decide +kernel
theorem dX5_isLeast_17 : decode cX5_isLeast 17 = .ok (.istore_n 3, 1) := by decide +kernel
theorem dX5_isLeast_18 : decode cX5_isLeast 18 = .ok (.iload_n 3, 1) := by decide +kernel
theorem dX5_isLeast_19 : decode cX5_isLeast 19 = .ok (.aload_n 0, 1) := by decide +kernel
theorem dX5_isLeast_20 : decode cX5_isLeast 20 = .ok (.getfield 45, 3) := by decide +kernel
theorem dX5_isLeast_23 : decode cX5_isLeast 23 = .ok (.if_icmp .ge 35, 3) := by decide +kernel
theorem dX5_isLeast_26 : decode cX5_isLeast 26 = .ok (.iload_n 1, 1) := by decide +kernel
theorem dX5_isLeast_27 : decode cX5_isLeast 27 = .ok (.iload_n 3, 1) := by decide +kernel
theorem dX5_isLeast_28 : decode cX5_isLeast 28 = .ok (.ishr, 1) := by decide +kernel
theorem dX5_isLeast_29 : decode cX5_isLeast 29 = .ok (.iconst 1, 1) := by decide +kernel
theorem dX5_isLeast_30 : decode cX5_isLeast 30 = .ok (.iand, 1) := by decide +kernel
theorem dX5_isLeast_31 : decode cX5_isLeast 31 = .ok (.iconst 1, 1) := by decide +kernel
theorem dX5_isLeast_32 : decode cX5_isLeast 32 = .ok (.if_icmp .ne 20, 3) := by decide +kernel
theorem dX5_isLeast_35 : decode cX5_isLeast 35 = .ok (.aload_n 0, 1) := by decide +kernel
theorem dX5_isLeast_36 : decode cX5_isLeast 36 = .ok (.iload_n 1, 1) := by decide +kernel
theorem dX5_isLeast_37 : decode cX5_isLeast 37 = .ok (.iconst 1, 1) := by decide +kernel
theorem dX5_isLeast_38 : decode cX5_isLeast 38 = .ok (.iload_n 3, 1) := by decide +kernel
theorem dX5_isLeast_39 : decode cX5_isLeast 39 = .ok (.ishl, 1) := by decide +kernel
theorem dX5_isLeast_40 : decode cX5_isLeast 40 = .ok (.iconst (-1), 1) := by decide +kernel
theorem dX5_isLeast_41 : decode cX5_isLeast 41 = .ok (.ixor, 1) := by decide +kernel
theorem dX5_isLeast_42 : decode cX5_isLeast 42 = .ok (.iand, 1) := by decide +kernel
theorem dX5_isLeast_43 : decode cX5_isLeast 43 = .ok (.iload_n 2, 1) := by decide +kernel
theorem dX5_isLeast_44 : decode cX5_isLeast 44 = .ok (.invokevirtual 120, 3) := by decide +kernel
theorem dX5_isLeast_47 : decode cX5_isLeast 47 = .ok (.ifCond .eq 5, 3) := by decide +kernel
theorem dX5_isLeast_50 : decode cX5_isLeast 50 = .ok (.iconst 0, 1) := by decide +kernel
theorem dX5_isLeast_51 : decode cX5_isLeast 51 = .ok (.ireturn, 1) := by decide +kernel
theorem dX5_isLeast_52 : decode cX5_isLeast 52 = .ok (.iinc 3 1, 3) := by decide +kernel
theorem dX5_isLeast_55 : decode cX5_isLeast 55 = .ok (.goto (-37), 3) := by decide +kernel
theorem dX5_isLeast_58 : decode cX5_isLeast 58 = .ok (.iconst 1, 1) := by decide +kernel
theorem dX5_isLeast_59 : decode cX5_isLeast 59 = .ok (.ireturn, 1) := by decide +kernel
theorem dX5_isFree_0 : decode cX5_isFree 0 = .ok (.aload_n 0, 1) := by decide +kernel
theorem dX5_isFree_1 : decode cX5_isFree 1 = .ok (.getfield 52, 3) := by decide +kernel
theorem dX5_isFree_4 : decode cX5_isFree 4 = .ok (.ifCond .gt 11, 3) := by decide +kernel
theorem dX5_isFree_7 : decode cX5_isFree 7 = .ok (.aload_n 0, 1) := by decide +kernel
theorem dX5_isFree_8 : decode cX5_isFree 8 = .ok (.iconst 0, 1) := by decide +kernel
theorem dX5_isFree_9 : decode cX5_isFree 9 = .ok (.invokevirtual 123, 3) := by decide +kernel
theorem dX5_isFree_12 : decode cX5_isFree 12 = .ok (.ifCond .eq 5, 3) := by decide +kernel
theorem dX5_isFree_15 : decode cX5_isFree 15 = .ok (.iconst 0, 1) := by decide +kernel
theorem dX5_isFree_16 : decode cX5_isFree 16 = .ok (.ireturn, 1) := by decide +kernel
theorem dX5_isFree_17 : decode cX5_isFree 17 = .ok (.iconst 0, 1) := by decide +kernel
theorem dX5_isFree_18 : decode cX5_isFree 18 = .ok (.istore_n 1, 1) := by decide +kernel
theorem dX5_isFree_19 : decode cX5_isFree 19 = .ok (.iload_n 1, 1) := by decide +kernel
theorem dX5_isFree_20 : decode cX5_isFree 20 = .ok (.aload_n 0, 1) := by decide +kernel
theorem dX5_isFree_21 : decode cX5_isFree 21 = .ok (.getfield 49, 3) := by decide +kernel
theorem dX5_isFree_24 : decode cX5_isFree 24 = .ok (.bipush 16, 2) := by decide +kernel
theorem dX5_isFree_26 : decode cX5_isFree 26 = .ok (.imul, 1) := by decide +kernel
theorem dX5_isFree_27 : decode cX5_isFree 27 = .ok (.if_icmp .ge 31, 3) := by decide +kernel
theorem dX5_isFree_30 : decode cX5_isFree 30 = .ok (.aload_n 0, 1) := by decide +kernel
theorem dX5_isFree_31 : decode cX5_isFree 31 = .ok (.getfield 18, 3) := by decide +kernel
theorem dX5_isFree_34 : decode cX5_isFree 34 = .ok (.iload_n 1, 1) := by decide +kernel
theorem dX5_isFree_35 : decode cX5_isFree 35 = .ok (.iaload, 1) := by decide +kernel
theorem dX5_isFree_36 : decode cX5_isFree 36 = .ok (.iconst 1, 1) := by decide +kernel
theorem dX5_isFree_37 : decode cX5_isFree 37 = .ok (.if_icmp .gt 13, 3) := by decide +kernel
theorem dX5_isFree_40 : decode cX5_isFree 40 = .ok (.aload_n 0, 1) := by decide +kernel
theorem dX5_isFree_41 : decode cX5_isFree 41 = .ok (.getfield 21, 3) := by decide +kernel
theorem dX5_isFree_44 : decode cX5_isFree 44 = .ok (.iload_n 1, 1) := by decide +kernel
theorem dX5_isFree_45 : decode cX5_isFree 45 = .ok (.iaload, 1) := by decide +kernel
theorem dX5_isFree_46 : decode cX5_isFree 46 = .ok (.iconst 1, 1) := by decide +kernel
theorem dX5_isFree_47 : decode cX5_isFree 47 = .ok (.if_icmp .le 5, 3) := by decide +kernel
theorem dX5_isFree_50 : decode cX5_isFree 50 = .ok (.iconst 0, 1) := by decide +kernel
theorem dX5_isFree_51 : decode cX5_isFree 51 = .ok (.ireturn, 1) := by decide +kernel
theorem dX5_isFree_52 : decode cX5_isFree 52 = .ok (.iinc 1 1, 3) := by decide +kernel
theorem dX5_isFree_55 : decode cX5_isFree 55 = .ok (.goto (-36), 3) := by decide +kernel
theorem dX5_isFree_58 : decode cX5_isFree 58 = .ok (.iconst 0, 1) := by decide +kernel
theorem dX5_isFree_59 : decode cX5_isFree 59 = .ok (.istore_n 1, 1) := by decide +kernel
theorem dX5_isFree_60 : decode cX5_isFree 60 = .ok (.iload_n 1, 1) := by decide +kernel
theorem dX5_isFree_61 : decode cX5_isFree 61 = .ok (.aload_n 0, 1) := by decide +kernel
theorem dX5_isFree_62 : decode cX5_isFree 62 = .ok (.getfield 45, 3) := by decide +kernel
theorem dX5_isFree_65 : decode cX5_isFree 65 = .ok (.if_icmp .ge 19, 3) := by decide +kernel
theorem dX5_isFree_68 : decode cX5_isFree 68 = .ok (.aload_n 0, 1) := by decide +kernel
theorem dX5_isFree_69 : decode cX5_isFree 69 = .ok (.iload_n 1, 1) := by decide +kernel
theorem dX5_isFree_70 : decode cX5_isFree 70 = .ok (.invokevirtual 126, 3) := by decide +kernel
theorem dX5_isFree_73 : decode cX5_isFree 73 = .ok (.ifCond .ne 5, 3) := by decide +kernel
theorem dX5_isFree_76 : decode cX5_isFree 76 = .ok (.iconst 0, 1) := by decide +kernel
theorem dX5_isFree_77 : decode cX5_isFree 77 = .ok (.ireturn, 1) := by decide +kernel
theorem dX5_isFree_78 : decode cX5_isFree 78 = .ok (.iinc 1 1, 3) := by decide +kernel
theorem dX5_isFree_81 : decode cX5_isFree 81 = .ok (.goto (-21), 3) := by decide +kernel
theorem dX5_isFree_84 : decode cX5_isFree 84 = .ok (.iconst 1, 1) := by decide +kernel
theorem dX5_isFree_85 : decode cX5_isFree 85 = .ok (.ireturn, 1) := by decide +kernel
theorem dX5_isFreeAt_0 : decode cX5_isFreeAt 0 = .ok (.iconst 0, 1) := by decide +kernel
theorem dX5_isFreeAt_1 : decode cX5_isFreeAt 1 = .ok (.istore_n 2, 1) := by decide +kernel
theorem dX5_isFreeAt_2 : decode cX5_isFreeAt 2 = .ok (.iconst 0, 1) := by decide +kernel
theorem dX5_isFreeAt_3 : decode cX5_isFreeAt 3 = .ok (.istore_n 3, 1) := by decide +kernel
theorem dX5_isFreeAt_4 : decode cX5_isFreeAt 4 = .ok (.iconst 0, 1) := by decide +kernel
theorem dX5_isFreeAt_5 : decode cX5_isFreeAt 5 = .ok (.istore 4, 2) := by decide +kernel
theorem dX5_isFreeAt_7 : decode cX5_isFreeAt 7 = .ok (.iload 4, 2) := by decide +kernel
theorem dX5_isFreeAt_9 : decode cX5_isFreeAt 9 = .ok (.aload_n 0, 1) := by decide +kernel
theorem dX5_isFreeAt_10 : decode cX5_isFreeAt 10 = .ok (.getfield 49, 3) := by decide +kernel
theorem dX5_isFreeAt_13 : decode cX5_isFreeAt 13 = .ok (.if_icmp .ge 42, 3) := by decide +kernel
theorem dX5_isFreeAt_16 : decode cX5_isFreeAt 16 = .ok (.aload_n 0, 1) := by decide +kernel
theorem dX5_isFreeAt_17 : decode cX5_isFreeAt 17 = .ok (.getfield 36, 3) := by decide +kernel
theorem dX5_isFreeAt_20 : decode cX5_isFreeAt 20 = .ok (.iload 4, 2) := by decide +kernel
theorem dX5_isFreeAt_22 : decode cX5_isFreeAt 22 = .ok (.iaload, 1) := by decide +kernel
theorem dX5_isFreeAt_23 : decode cX5_isFreeAt 23 = .ok (.iconst 1, 1) := by decide +kernel
theorem dX5_isFreeAt_24 : decode cX5_isFreeAt 24 = .ok (.iload_n 1, 1) := by decide +kernel
theorem dX5_isFreeAt_25 : decode cX5_isFreeAt 25 = .ok (.ishl, 1) := by decide +kernel
theorem dX5_isFreeAt_26 : decode cX5_isFreeAt 26 = .ok (.iand, 1) := by decide +kernel
theorem dX5_isFreeAt_27 : decode cX5_isFreeAt 27 = .ok (.ifCond .eq 22, 3) := by decide +kernel
theorem dX5_isFreeAt_30 : decode cX5_isFreeAt 30 = .ok (.iinc 2 1, 3) := by decide +kernel
theorem dX5_isFreeAt_33 : decode cX5_isFreeAt 33 = .ok (.iload_n 3, 1) := by decide +kernel
theorem dX5_isFreeAt_34 : decode cX5_isFreeAt 34 = .ok (.aload_n 0, 1) := by decide +kernel
theorem dX5_isFreeAt_35 : decode cX5_isFreeAt 35 = .ok (.getfield 36, 3) := by decide +kernel
theorem dX5_isFreeAt_38 : decode cX5_isFreeAt 38 = .ok (.iload 4, 2) := by decide +kernel
theorem dX5_isFreeAt_40 : decode cX5_isFreeAt 40 = .ok (.iaload, 1) := by decide +kernel
theorem dX5_isFreeAt_41 : decode cX5_isFreeAt 41 = .ok (.iconst 1, 1) := by decide +kernel
theorem dX5_isFreeAt_42 : decode cX5_isFreeAt 42 = .ok (.iload_n 1, 1) := by decide +kernel
theorem dX5_isFreeAt_43 : decode cX5_isFreeAt 43 = .ok (.ishl, 1) := by decide +kernel
theorem dX5_isFreeAt_44 : decode cX5_isFreeAt 44 = .ok (.iconst (-1), 1) := by decide +kernel
theorem dX5_isFreeAt_45 : decode cX5_isFreeAt 45 = .ok (.ixor, 1) := by decide +kernel
theorem dX5_isFreeAt_46 : decode cX5_isFreeAt 46 = .ok (.iand, 1) := by decide +kernel
theorem dX5_isFreeAt_47 : decode cX5_isFreeAt 47 = .ok (.ior, 1) := by decide +kernel
theorem dX5_isFreeAt_48 : decode cX5_isFreeAt 48 = .ok (.istore_n 3, 1) := by decide +kernel
theorem dX5_isFreeAt_49 : decode cX5_isFreeAt 49 = .ok (.iinc 4 1, 3) := by decide +kernel
theorem dX5_isFreeAt_52 : decode cX5_isFreeAt 52 = .ok (.goto (-45), 3) := by decide +kernel
theorem dX5_isFreeAt_55 : decode cX5_isFreeAt 55 = .ok (.iload_n 2, 1) := by decide +kernel
theorem dX5_isFreeAt_56 : decode cX5_isFreeAt 56 = .ok (.iconst 1, 1) := by decide +kernel
theorem dX5_isFreeAt_57 : decode cX5_isFreeAt 57 = .ok (.if_icmp .eq 12, 3) := by decide +kernel
theorem dX5_isFreeAt_60 : decode cX5_isFreeAt 60 = .ok (.iload_n 2, 1) := by decide +kernel
theorem dX5_isFreeAt_61 : decode cX5_isFreeAt 61 = .ok (.iconst 1, 1) := by decide +kernel
theorem dX5_isFreeAt_62 : decode cX5_isFreeAt 62 = .ok (.if_icmp .le 11, 3) := by decide +kernel
theorem dX5_isFreeAt_65 : decode cX5_isFreeAt 65 = .ok (.iload_n 3, 1) := by decide +kernel
theorem dX5_isFreeAt_66 : decode cX5_isFreeAt 66 = .ok (.ifCond .ne 7, 3) := by decide +kernel
theorem dX5_isFreeAt_69 : decode cX5_isFreeAt 69 = .ok (.iconst 1, 1) := by decide +kernel
theorem dX5_isFreeAt_70 : decode cX5_isFreeAt 70 = .ok (.goto 4, 3) := by decide +kernel
theorem dX5_isFreeAt_73 : decode cX5_isFreeAt 73 = .ok (.iconst 0, 1) := by decide +kernel
theorem dX5_isFreeAt_74 : decode cX5_isFreeAt 74 = .ok (.ireturn, 1) := by decide +kernel
theorem dX6_init_0 : decode cX6_init 0 = .ok (.aload_n 0, 1) := by decide +kernel
theorem dX6_init_1 : decode cX6_init 1 = .ok (.invokespecial 3, 3) := by decide +kernel
theorem dX6_init_4 : decode cX6_init 4 = .ok (.aload_n 0, 1) := by decide +kernel
theorem dX6_init_5 : decode cX6_init 5 = .ok (.sipush 256, 3) := by decide +kernel
theorem dX6_init_8 : decode cX6_init 8 = .ok (.newarray .int, 2) := by decide +kernel
theorem dX6_init_10 : decode cX6_init 10 = .ok (.putfield 9, 3) := by decide +kernel
theorem dX6_init_13 : decode cX6_init 13 = .ok (.aload_n 0, 1) := by decide +kernel
theorem dX6_init_14 : decode cX6_init 14 = .ok (.sipush 4096, 3) := by decide +kernel
theorem dX6_init_17 : decode cX6_init 17 = .ok (.newarray .long, 2) := by decide +kernel
theorem dX6_init_19 : decode cX6_init 19 = .ok (.putfield 15, 3) := by decide +kernel
theorem dX6_init_22 : decode cX6_init 22 = .ok (.aload_n 0, 1) := by decide +kernel
theorem dX6_init_23 : decode cX6_init 23 = .ok (.iconst 0, 1) := by decide +kernel
theorem dX6_init_24 : decode cX6_init 24 = .ok (.putfield 19, 3) := by decide +kernel
theorem dX6_init_27 : decode cX6_init 27 = .ok (.aload_n 0, 1) := by decide +kernel
theorem dX6_init_28 : decode cX6_init 28 = .ok (.iconst 0, 1) := by decide +kernel
theorem dX6_init_29 : decode cX6_init 29 = .ok (.putfield 23, 3) := by decide +kernel
theorem dX6_init_32 : decode cX6_init 32 = .ok (.return_, 1) := by decide +kernel
theorem dX6_clear_0 : decode cX6_clear 0 = .ok (.aload_n 0, 1) := by decide +kernel
theorem dX6_clear_1 : decode cX6_clear 1 = .ok (.iconst 0, 1) := by decide +kernel
theorem dX6_clear_2 : decode cX6_clear 2 = .ok (.putfield 19, 3) := by decide +kernel
theorem dX6_clear_5 : decode cX6_clear 5 = .ok (.return_, 1) := by decide +kernel
theorem dX6_note_0 : decode cX6_note 0 = .ok (.aload_n 1, 1) := by decide +kernel
theorem dX6_note_1 : decode cX6_note 1 = .ok (.getfield 26, 3) := by decide +kernel
theorem dX6_note_4 : decode cX6_note 4 = .ok (.ifCond .le 24, 3) := by decide +kernel
theorem dX6_note_7 : decode cX6_note 7 = .ok (.aload_n 2, 1) := by decide +kernel
theorem dX6_note_8 : decode cX6_note 8 = .ok (.getfield 31, 3) := by decide +kernel
theorem dX6_note_11 : decode cX6_note 11 = .ok (.iconst 0, 1) := by decide +kernel
theorem dX6_note_12 : decode cX6_note 12 = .ok (.aload_n 0, 1) := by decide +kernel
theorem dX6_note_13 : decode cX6_note 13 = .ok (.getfield 15, 3) := by decide +kernel
theorem dX6_note_16 : decode cX6_note 16 = .ok (.aload_n 0, 1) := by decide +kernel
theorem dX6_note_17 : decode cX6_note 17 = .ok (.getfield 23, 3) := by decide +kernel
theorem dX6_note_20 : decode cX6_note 20 = .ok (.bipush 16, 2) := by decide +kernel
theorem dX6_note_22 : decode cX6_note 22 = .ok (.imul, 1) := by decide +kernel
theorem dX6_note_23 : decode cX6_note 23 = .ok (.bipush 16, 2) := by decide +kernel
theorem dX6_note_25 : decode cX6_note 25 = .ok (.invokestatic 34, 3) := by decide +kernel
theorem dX6_note_28 : decode cX6_note 28 = .ok (.aload_n 0, 1) := by decide +kernel
theorem dX6_note_29 : decode cX6_note 29 = .ok (.getfield 9, 3) := by decide +kernel
theorem dX6_note_32 : decode cX6_note 32 = .ok (.aload_n 0, 1) := by decide +kernel
theorem dX6_note_33 : decode cX6_note 33 = .ok (.getfield 23, 3) := by decide +kernel
theorem dX6_note_36 : decode cX6_note 36 = .ok (.iload_n 3, 1) := by decide +kernel
theorem dX6_note_37 : decode cX6_note 37 = .ok (.iastore, 1) := by decide +kernel
theorem dX6_note_38 : decode cX6_note 38 = .ok (.aload_n 0, 1) := by decide +kernel
theorem dX6_note_39 : decode cX6_note 39 = .ok (.aload_n 0, 1) := by decide +kernel
theorem dX6_note_40 : decode cX6_note 40 = .ok (.getfield 23, 3) := by decide +kernel
theorem dX6_note_43 : decode cX6_note 43 = .ok (.iconst 1, 1) := by decide +kernel
theorem dX6_note_44 : decode cX6_note 44 = .ok (.iadd, 1) := by decide +kernel
theorem dX6_note_45 : decode cX6_note 45 = .ok (.sipush 256, 3) := by decide +kernel
theorem dX6_note_48 : decode cX6_note 48 = .ok (.irem, 1) := by decide +kernel
theorem dX6_note_49 : decode cX6_note 49 = .ok (.putfield 23, 3) := by decide +kernel
theorem dX6_note_52 : decode cX6_note 52 = .ok (.aload_n 0, 1) := by decide +kernel
theorem dX6_note_53 : decode cX6_note 53 = .ok (.aload_n 0, 1) := by decide +kernel
theorem dX6_note_54 : decode cX6_note 54 = .ok (.getfield 19, 3) := by decide +kernel
theorem dX6_note_57 : decode cX6_note 57 = .ok (.iconst 1, 1) := by decide +kernel
theorem dX6_note_58 : decode cX6_note 58 = .ok (.iadd, 1) := by decide +kernel
theorem dX6_note_59 : decode cX6_note 59 = .ok (.sipush 256, 3) := by decide +kernel
theorem dX6_note_62 : decode cX6_note 62 = .ok (.invokestatic 40, 3) := by decide +kernel
theorem dX6_note_65 : decode cX6_note 65 = .ok (.putfield 19, 3) := by decide +kernel
theorem dX6_note_68 : decode cX6_note 68 = .ok (.return_, 1) := by decide +kernel
theorem dX6_undo_0 : decode cX6_undo 0 = .ok (.aload_n 0, 1) := by decide +kernel
theorem dX6_undo_1 : decode cX6_undo 1 = .ok (.aload_n 0, 1) := by decide +kernel
theorem dX6_undo_2 : decode cX6_undo 2 = .ok (.getfield 23, 3) := by decide +kernel
theorem dX6_undo_5 : decode cX6_undo 5 = .ok (.sipush 256, 3) := by decide +kernel
theorem dX6_undo_8 : decode cX6_undo 8 = .ok (.iadd, 1) := by decide +kernel
theorem dX6_undo_9 : decode cX6_undo 9 = .ok (.iconst 1, 1) := by decide +kernel
theorem dX6_undo_10 : decode cX6_undo 10 = .ok (.isub, 1) := by decide +kernel
theorem dX6_undo_11 : decode cX6_undo 11 = .ok (.sipush 256, 3) := by decide +kernel
theorem dX6_undo_14 : decode cX6_undo 14 = .ok (.irem, 1) := by decide +kernel
theorem dX6_undo_15 : decode cX6_undo 15 = .ok (.putfield 23, 3) := by decide +kernel
theorem dX6_undo_18 : decode cX6_undo 18 = .ok (.aload_n 0, 1) := by decide +kernel
theorem dX6_undo_19 : decode cX6_undo 19 = .ok (.dup, 1) := by decide +kernel
theorem dX6_undo_20 : decode cX6_undo 20 = .ok (.getfield 19, 3) := by decide +kernel
theorem dX6_undo_23 : decode cX6_undo 23 = .ok (.iconst 1, 1) := by decide +kernel
theorem dX6_undo_24 : decode cX6_undo 24 = .ok (.isub, 1) := by decide +kernel
theorem dX6_undo_25 : decode cX6_undo 25 = .ok (.putfield 19, 3) := by decide +kernel
theorem dX6_undo_28 : decode cX6_undo 28 = .ok (.aload_n 0, 1) := by decide +kernel
theorem dX6_undo_29 : decode cX6_undo 29 = .ok (.getfield 9, 3) := by decide +kernel
theorem dX6_undo_32 : decode cX6_undo 32 = .ok (.aload_n 0, 1) := by decide +kernel
theorem dX6_undo_33 : decode cX6_undo 33 = .ok (.getfield 23, 3) := by decide +kernel
theorem dX6_undo_36 : decode cX6_undo 36 = .ok (.iaload, 1) := by decide +kernel
theorem dX6_undo_37 : decode cX6_undo 37 = .ok (.istore_n 3, 1) := by decide +kernel
theorem dX6_undo_38 : decode cX6_undo 38 = .ok (.iconst 0, 1) := by decide +kernel
theorem dX6_undo_39 : decode cX6_undo 39 = .ok (.istore 4, 2) := by decide +kernel
theorem dX6_undo_41 : decode cX6_undo 41 = .ok (.iload 4, 2) := by decide +kernel
theorem dX6_undo_43 : decode cX6_undo 43 = .ok (.aload_n 1, 1) := by decide +kernel
theorem dX6_undo_44 : decode cX6_undo 44 = .ok (.getfield 46, 3) := by decide +kernel
theorem dX6_undo_47 : decode cX6_undo 47 = .ok (.if_icmp .ge 26, 3) := by decide +kernel
theorem dX6_undo_50 : decode cX6_undo 50 = .ok (.aload_n 2, 1) := by decide +kernel
theorem dX6_undo_51 : decode cX6_undo 51 = .ok (.getfield 49, 3) := by decide +kernel
theorem dX6_undo_54 : decode cX6_undo 54 = .ok (.iload 4, 2) := by decide +kernel
theorem dX6_undo_56 : decode cX6_undo 56 = .ok (.dup2, 1) := by decide +kernel
theorem dX6_undo_57 : decode cX6_undo 57 = .ok (.iaload, 1) := by decide +kernel
theorem dX6_undo_58 : decode cX6_undo 58 = .ok (.aload_n 1, 1) := by decide +kernel
theorem dX6_undo_59 : decode cX6_undo 59 = .ok (.iload_n 3, 1) := by decide +kernel
theorem dX6_undo_60 : decode cX6_undo 60 = .ok (.iload 4, 2) := by decide +kernel
