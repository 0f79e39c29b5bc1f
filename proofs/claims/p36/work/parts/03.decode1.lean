theorem dX0_init_0 : decode cX0_init 0 = .ok (.aload_n 0, 1) := by decide +kernel
theorem dX0_init_1 : decode cX0_init 1 = .ok (.invokespecial 5, 3) := by decide +kernel
theorem dX0_init_4 : decode cX0_init 4 = .ok (.aload_n 0, 1) := by decide +kernel
theorem dX0_init_5 : decode cX0_init 5 = .ok (.sipush 324, 3) := by decide +kernel
theorem dX0_init_8 : decode cX0_init 8 = .ok (.newarray .long, 2) := by decide +kernel
theorem dX0_init_10 : decode cX0_init 10 = .ok (.putfield 11, 3) := by decide +kernel
theorem dX0_init_13 : decode cX0_init 13 = .ok (.aload_n 0, 1) := by decide +kernel
theorem dX0_init_14 : decode cX0_init 14 = .ok (.iconst 2, 1) := by decide +kernel
theorem dX0_init_15 : decode cX0_init 15 = .ok (.putfield 15, 3) := by decide +kernel
theorem dX0_init_18 : decode cX0_init 18 = .ok (.aload_n 0, 1) := by decide +kernel
theorem dX0_init_19 : decode cX0_init 19 = .ok (.iconst 0, 1) := by decide +kernel
theorem dX0_init_20 : decode cX0_init 20 = .ok (.putfield 19, 3) := by decide +kernel
theorem dX0_init_23 : decode cX0_init 23 = .ok (.aload_n 0, 1) := by decide +kernel
theorem dX0_init_24 : decode cX0_init 24 = .ok (.iconst 0, 1) := by decide +kernel
theorem dX0_init_25 : decode cX0_init 25 = .ok (.putfield 22, 3) := by decide +kernel
theorem dX0_init_28 : decode cX0_init 28 = .ok (.aload_n 0, 1) := by decide +kernel
theorem dX0_init_29 : decode cX0_init 29 = .ok (.iconst 0, 1) := by decide +kernel
theorem dX0_init_30 : decode cX0_init 30 = .ok (.putfield 25, 3) := by decide +kernel
theorem dX0_init_33 : decode cX0_init 33 = .ok (.return_, 1) := by decide +kernel
theorem dX0_blockSize_0 : decode cX0_blockSize 0 = .ok (.aload_n 0, 1) := by decide +kernel
theorem dX0_blockSize_1 : decode cX0_blockSize 1 = .ok (.getfield 15, 3) := by decide +kernel
theorem dX0_blockSize_4 : decode cX0_blockSize 4 = .ok (.ireturn, 1) := by decide +kernel
theorem dX0_hitCount_0 : decode cX0_hitCount 0 = .ok (.aload_n 0, 1) := by decide +kernel
theorem dX0_hitCount_1 : decode cX0_hitCount 1 = .ok (.getfield 19, 3) := by decide +kernel
theorem dX0_hitCount_4 : decode cX0_hitCount 4 = .ok (.ireturn, 1) := by decide +kernel
theorem dX0_missCount_0 : decode cX0_missCount 0 = .ok (.aload_n 0, 1) := by decide +kernel
theorem dX0_missCount_1 : decode cX0_missCount 1 = .ok (.getfield 22, 3) := by decide +kernel
theorem dX0_missCount_4 : decode cX0_missCount 4 = .ok (.ireturn, 1) := by decide +kernel
theorem dX0_singleCount_0 : decode cX0_singleCount 0 = .ok (.aload_n 0, 1) := by decide +kernel
theorem dX0_singleCount_1 : decode cX0_singleCount 1 = .ok (.getfield 25, 3) := by decide +kernel
theorem dX0_singleCount_4 : decode cX0_singleCount 4 = .ok (.ireturn, 1) := by decide +kernel
theorem dX0_startAnew_0 : decode cX0_startAnew 0 = .ok (.iconst 0, 1) := by decide +kernel
theorem dX0_startAnew_1 : decode cX0_startAnew 1 = .ok (.istore_n 2, 1) := by decide +kernel
theorem dX0_startAnew_2 : decode cX0_startAnew 2 = .ok (.iload_n 2, 1) := by decide +kernel
theorem dX0_startAnew_3 : decode cX0_startAnew 3 = .ok (.sipush 324, 3) := by decide +kernel
theorem dX0_startAnew_6 : decode cX0_startAnew 6 = .ok (.if_icmp .ge 16, 3) := by decide +kernel
theorem dX0_startAnew_9 : decode cX0_startAnew 9 = .ok (.aload_n 0, 1) := by decide +kernel
theorem dX0_startAnew_10 : decode cX0_startAnew 10 = .ok (.getfield 11, 3) := by decide +kernel
theorem dX0_startAnew_13 : decode cX0_startAnew 13 = .ok (.iload_n 2, 1) := by decide +kernel
theorem dX0_startAnew_14 : decode cX0_startAnew 14 = .ok (.lconst 0, 1) := by decide +kernel
theorem dX0_startAnew_15 : decode cX0_startAnew 15 = .ok (.lastore, 1) := by decide +kernel
theorem dX0_startAnew_16 : decode cX0_startAnew 16 = .ok (.iinc 2 1, 3) := by decide +kernel
theorem dX0_startAnew_19 : decode cX0_startAnew 19 = .ok (.goto (-17), 3) := by decide +kernel
theorem dX0_startAnew_22 : decode cX0_startAnew 22 = .ok (.aload_n 0, 1) := by decide +kernel
theorem dX0_startAnew_23 : decode cX0_startAnew 23 = .ok (.iload_n 1, 1) := by decide +kernel
theorem dX0_startAnew_24 : decode cX0_startAnew 24 = .ok (.putfield 15, 3) := by decide +kernel
theorem dX0_startAnew_27 : decode cX0_startAnew 27 = .ok (.aload_n 0, 1) := by decide +kernel
theorem dX0_startAnew_28 : decode cX0_startAnew 28 = .ok (.iconst 0, 1) := by decide +kernel
theorem dX0_startAnew_29 : decode cX0_startAnew 29 = .ok (.putfield 19, 3) := by decide +kernel
theorem dX0_startAnew_32 : decode cX0_startAnew 32 = .ok (.aload_n 0, 1) := by decide +kernel
theorem dX0_startAnew_33 : decode cX0_startAnew 33 = .ok (.iconst 0, 1) := by decide +kernel
theorem dX0_startAnew_34 : decode cX0_startAnew 34 = .ok (.putfield 22, 3) := by decide +kernel
theorem dX0_startAnew_37 : decode cX0_startAnew 37 = .ok (.aload_n 0, 1) := by decide +kernel
theorem dX0_startAnew_38 : decode cX0_startAnew 38 = .ok (.iconst 0, 1) := by decide +kernel
theorem dX0_startAnew_39 : decode cX0_startAnew 39 = .ok (.putfield 25, 3) := by decide +kernel
theorem dX0_startAnew_42 : decode cX0_startAnew 42 = .ok (.return_, 1) := by decide +kernel
theorem dX0_copyFrom_0 : decode cX0_copyFrom 0 = .ok (.aload_n 1, 1) := by decide +kernel
theorem dX0_copyFrom_1 : decode cX0_copyFrom 1 = .ok (.getfield 11, 3) := by decide +kernel
theorem dX0_copyFrom_4 : decode cX0_copyFrom 4 = .ok (.iconst 0, 1) := by decide +kernel
theorem dX0_copyFrom_5 : decode cX0_copyFrom 5 = .ok (.aload_n 0, 1) := by decide +kernel
theorem dX0_copyFrom_6 : decode cX0_copyFrom 6 = .ok (.getfield 11, 3) := by decide +kernel
theorem dX0_copyFrom_9 : decode cX0_copyFrom 9 = .ok (.iconst 0, 1) := by decide +kernel
theorem dX0_copyFrom_10 : decode cX0_copyFrom 10 = .ok (.sipush 324, 3) := by decide +kernel
theorem dX0_copyFrom_13 : decode cX0_copyFrom 13 = .ok (.invokestatic 28, 3) := by decide +kernel
theorem dX0_copyFrom_16 : decode cX0_copyFrom 16 = .ok (.aload_n 0, 1) := by decide +kernel
theorem dX0_copyFrom_17 : decode cX0_copyFrom 17 = .ok (.aload_n 1, 1) := by decide +kernel
theorem dX0_copyFrom_18 : decode cX0_copyFrom 18 = .ok (.getfield 15, 3) := by decide +kernel
theorem dX0_copyFrom_21 : decode cX0_copyFrom 21 = .ok (.putfield 15, 3) := by decide +kernel
theorem dX0_copyFrom_24 : decode cX0_copyFrom 24 = .ok (.aload_n 0, 1) := by decide +kernel
theorem dX0_copyFrom_25 : decode cX0_copyFrom 25 = .ok (.aload_n 1, 1) := by decide +kernel
theorem dX0_copyFrom_26 : decode cX0_copyFrom 26 = .ok (.getfield 19, 3) := by decide +kernel
theorem dX0_copyFrom_29 : decode cX0_copyFrom 29 = .ok (.putfield 19, 3) := by decide +kernel
theorem dX0_copyFrom_32 : decode cX0_copyFrom 32 = .ok (.aload_n 0, 1) := by decide +kernel
theorem dX0_copyFrom_33 : decode cX0_copyFrom 33 = .ok (.aload_n 1, 1) := by decide +kernel
theorem dX0_copyFrom_34 : decode cX0_copyFrom 34 = .ok (.getfield 22, 3) := by decide +kernel
theorem dX0_copyFrom_37 : decode cX0_copyFrom 37 = .ok (.putfield 22, 3) := by decide +kernel
theorem dX0_copyFrom_40 : decode cX0_copyFrom 40 = .ok (.aload_n 0, 1) := by decide +kernel
theorem dX0_copyFrom_41 : decode cX0_copyFrom 41 = .ok (.aload_n 1, 1) := by decide +kernel
theorem dX0_copyFrom_42 : decode cX0_copyFrom 42 = .ok (.getfield 25, 3) := by decide +kernel
theorem dX0_copyFrom_45 : decode cX0_copyFrom 45 = .ok (.putfield 25, 3) := by decide +kernel
theorem dX0_copyFrom_48 : decode cX0_copyFrom 48 = .ok (.return_, 1) := by decide +kernel
theorem dX0_meetBlocks_0 : decode cX0_meetBlocks 0 = .ok (.iconst 1, 1) := by decide +kernel
theorem dX0_meetBlocks_1 : decode cX0_meetBlocks 1 = .ok (.aload_n 0, 1) := by decide +kernel
theorem dX0_meetBlocks_2 : decode cX0_meetBlocks 2 = .ok (.getfield 15, 3) := by decide +kernel
theorem dX0_meetBlocks_5 : decode cX0_meetBlocks 5 = .ok (.invokestatic 34, 3) := by decide +kernel
theorem dX0_meetBlocks_8 : decode cX0_meetBlocks 8 = .ok (.istore 4, 2) := by decide +kernel
theorem dX0_meetBlocks_10 : decode cX0_meetBlocks 10 = .ok (.iconst 1, 1) := by decide +kernel
theorem dX0_meetBlocks_11 : decode cX0_meetBlocks 11 = .ok (.istore 5, 2) := by decide +kernel
theorem dX0_meetBlocks_13 : decode cX0_meetBlocks 13 = .ok (.iload 5, 2) := by decide +kernel
theorem dX0_meetBlocks_15 : decode cX0_meetBlocks 15 = .ok (.aload_n 2, 1) := by decide +kernel
theorem dX0_meetBlocks_16 : decode cX0_meetBlocks 16 = .ok (.invokevirtual 40, 3) := by decide +kernel
theorem dX0_meetBlocks_19 : decode cX0_meetBlocks 19 = .ok (.if_icmp .gt 113, 3) := by decide +kernel
theorem dX0_meetBlocks_22 : decode cX0_meetBlocks 22 = .ok (.iload 4, 2) := by decide +kernel
theorem dX0_meetBlocks_24 : decode cX0_meetBlocks 24 = .ok (.aload_n 2, 1) := by decide +kernel
theorem dX0_meetBlocks_25 : decode cX0_meetBlocks 25 = .ok (.invokevirtual 40, 3) := by decide +kernel
theorem dX0_meetBlocks_28 : decode cX0_meetBlocks 28 = .ok (.iload 5, 2) := by decide +kernel
theorem dX0_meetBlocks_30 : decode cX0_meetBlocks 30 = .ok (.isub, 1) := by decide +kernel
theorem dX0_meetBlocks_31 : decode cX0_meetBlocks 31 = .ok (.iconst 1, 1) := by decide +kernel
theorem dX0_meetBlocks_32 : decode cX0_meetBlocks 32 = .ok (.iadd, 1) := by decide +kernel
theorem dX0_meetBlocks_33 : decode cX0_meetBlocks 33 = .ok (.invokestatic 46, 3) := by decide +kernel
theorem dX0_meetBlocks_36 : decode cX0_meetBlocks 36 = .ok (.istore 6, 2) := by decide +kernel
theorem dX0_meetBlocks_38 : decode cX0_meetBlocks 38 = .ok (.iconst 1, 1) := by decide +kernel
theorem dX0_meetBlocks_39 : decode cX0_meetBlocks 39 = .ok (.istore 7, 2) := by decide +kernel
theorem dX0_meetBlocks_41 : decode cX0_meetBlocks 41 = .ok (.iload 7, 2) := by decide +kernel
theorem dX0_meetBlocks_43 : decode cX0_meetBlocks 43 = .ok (.aload_n 3, 1) := by decide +kernel
theorem dX0_meetBlocks_44 : decode cX0_meetBlocks 44 = .ok (.invokevirtual 40, 3) := by decide +kernel
theorem dX0_meetBlocks_47 : decode cX0_meetBlocks 47 = .ok (.if_icmp .gt 75, 3) := by decide +kernel
theorem dX0_meetBlocks_50 : decode cX0_meetBlocks 50 = .ok (.iload 4, 2) := by decide +kernel
theorem dX0_meetBlocks_52 : decode cX0_meetBlocks 52 = .ok (.aload_n 3, 1) := by decide +kernel
theorem dX0_meetBlocks_53 : decode cX0_meetBlocks 53 = .ok (.invokevirtual 40, 3) := by decide +kernel
theorem dX0_meetBlocks_56 : decode cX0_meetBlocks 56 = .ok (.iload 7, 2) := by decide +kernel
theorem dX0_meetBlocks_58 : decode cX0_meetBlocks 58 = .ok (.isub, 1) := by decide +kernel
theorem dX0_meetBlocks_59 : decode cX0_meetBlocks 59 = .ok (.iconst 1, 1) := by decide +kernel
theorem dX0_meetBlocks_60 : decode cX0_meetBlocks 60 = .ok (.iadd, 1) := by decide +kernel
theorem dX0_meetBlocks_61 : decode cX0_meetBlocks 61 = .ok (.invokestatic 46, 3) := by decide +kernel
theorem dX0_meetBlocks_64 : decode cX0_meetBlocks 64 = .ok (.istore 8, 2) := by decide +kernel
theorem dX0_meetBlocks_66 : decode cX0_meetBlocks 66 = .ok (.iload 6, 2) := by decide +kernel
theorem dX0_meetBlocks_68 : decode cX0_meetBlocks 68 = .ok (.iload 4, 2) := by decide +kernel
theorem dX0_meetBlocks_70 : decode cX0_meetBlocks 70 = .ok (.if_icmp .ne 28, 3) := by decide +kernel
theorem dX0_meetBlocks_73 : decode cX0_meetBlocks 73 = .ok (.iload 8, 2) := by decide +kernel
theorem dX0_meetBlocks_75 : decode cX0_meetBlocks 75 = .ok (.iload 4, 2) := by decide +kernel
theorem dX0_meetBlocks_77 : decode cX0_meetBlocks 77 = .ok (.if_icmp .ne 21, 3) := by decide +kernel
theorem dX0_meetBlocks_80 : decode cX0_meetBlocks 80 = .ok (.aload_n 0, 1) := by decide +kernel
theorem dX0_meetBlocks_81 : decode cX0_meetBlocks 81 = .ok (.aload_n 0, 1) := by decide +kernel
theorem dX0_meetBlocks_82 : decode cX0_meetBlocks 82 = .ok (.aload_n 1, 1) := by decide +kernel
theorem dX0_meetBlocks_83 : decode cX0_meetBlocks 83 = .ok (.aload_n 2, 1) := by decide +kernel
theorem dX0_meetBlocks_84 : decode cX0_meetBlocks 84 = .ok (.aload_n 3, 1) := by decide +kernel
theorem dX0_meetBlocks_85 : decode cX0_meetBlocks 85 = .ok (.iload 5, 2) := by decide +kernel
theorem dX0_meetBlocks_87 : decode cX0_meetBlocks 87 = .ok (.iload 7, 2) := by decide +kernel
theorem dX0_meetBlocks_89 : decode cX0_meetBlocks 89 = .ok (.invokevirtual 49, 3) := by decide +kernel
theorem dX0_meetBlocks_92 : decode cX0_meetBlocks 92 = .ok (.invokevirtual 53, 3) := by decide +kernel
theorem dX0_meetBlocks_95 : decode cX0_meetBlocks 95 = .ok (.goto 17, 3) := by decide +kernel
theorem dX0_meetBlocks_98 : decode cX0_meetBlocks 98 = .ok (.aload_n 0, 1) := by decide +kernel
theorem dX0_meetBlocks_99 : decode cX0_meetBlocks 99 = .ok (.dup, 1) := by decide +kernel
theorem dX0_meetBlocks_100 : decode cX0_meetBlocks 100 = .ok (.getfield 25, 3) := by decide +kernel
theorem dX0_meetBlocks_103 : decode cX0_meetBlocks 103 = .ok (.iload 6, 2) := by decide +kernel
theorem dX0_meetBlocks_105 : decode cX0_meetBlocks 105 = .ok (.iload 8, 2) := by decide +kernel
theorem dX0_meetBlocks_107 : decode cX0_meetBlocks 107 = .ok (.imul, 1) := by decide +kernel
theorem dX0_meetBlocks_108 : decode cX0_meetBlocks 108 = .ok (.iadd, 1) := by decide +kernel
theorem dX0_meetBlocks_109 : decode cX0_meetBlocks 109 = .ok (.putfield 25, 3) := by decide +kernel
theorem dX0_meetBlocks_112 : decode cX0_meetBlocks 112 = .ok (.iload 7, 2) := by decide +kernel
theorem dX0_meetBlocks_114 : decode cX0_meetBlocks 114 = .ok (.iload 4, 2) := by decide +kernel
theorem dX0_meetBlocks_116 : decode cX0_meetBlocks 116 = .ok (.iadd, 1) := by decide +kernel
theorem dX0_meetBlocks_117 : decode cX0_meetBlocks 117 = .ok (.istore 7, 2) := by decide +kernel
theorem dX0_meetBlocks_119 : decode cX0_meetBlocks 119 = .ok (.goto (-78), 3) := by decide +kernel
theorem dX0_meetBlocks_122 : decode cX0_meetBlocks 122 = .ok (.iload 5, 2) := by decide +kernel
theorem dX0_meetBlocks_124 : decode cX0_meetBlocks 124 = .ok (.iload 4, 2) := by decide +kernel
theorem dX0_meetBlocks_126 : decode cX0_meetBlocks 126 = .ok (.iadd, 1) := by decide +kernel
theorem dX0_meetBlocks_127 : decode cX0_meetBlocks 127 = .ok (.istore 5, 2) := by decide +kernel
theorem dX0_meetBlocks_129 : decode cX0_meetBlocks 129 = .ok (.goto (-116), 3) := by decide +kernel
theorem dX0_meetBlocks_132 : decode cX0_meetBlocks 132 = .ok (.return_, 1) := by decide +kernel
theorem dX0_keyOf_0 : decode cX0_keyOf 0 = .ok (.iconst 0, 1) := by decide +kernel
theorem dX0_keyOf_1 : decode cX0_keyOf 1 = .ok (.istore 6, 2) := by decide +kernel
theorem dX0_keyOf_3 : decode cX0_keyOf 3 = .ok (.iconst 0, 1) := by decide +kernel
theorem dX0_keyOf_4 : decode cX0_keyOf 4 = .ok (.istore 7, 2) := by decide +kernel
theorem dX0_keyOf_6 : decode cX0_keyOf 6 = .ok (.iload 7, 2) := by decide +kernel
theorem dX0_keyOf_8 : decode cX0_keyOf 8 = .ok (.aload_n 0, 1) := by decide +kernel
theorem dX0_keyOf_9 : decode cX0_keyOf 9 = .ok (.getfield 15, 3) := by decide +kernel
theorem dX0_keyOf_12 : decode cX0_keyOf 12 = .ok (.if_icmp .ge 91, 3) := by decide +kernel
theorem dX0_keyOf_15 : decode cX0_keyOf 15 = .ok (.aload_n 2, 1) := by decide +kernel
theorem dX0_keyOf_16 : decode cX0_keyOf 16 = .ok (.iload 4, 2) := by decide +kernel
theorem dX0_keyOf_18 : decode cX0_keyOf 18 = .ok (.iload 7, 2) := by decide +kernel
theorem dX0_keyOf_20 : decode cX0_keyOf 20 = .ok (.iadd, 1) := by decide +kernel
theorem dX0_keyOf_21 : decode cX0_keyOf 21 = .ok (.iconst 1, 1) := by decide +kernel
theorem dX0_keyOf_22 : decode cX0_keyOf 22 = .ok (.isub, 1) := by decide +kernel
theorem dX0_keyOf_23 : decode cX0_keyOf 23 = .ok (.invokevirtual 57, 3) := by decide +kernel
theorem dX0_keyOf_26 : decode cX0_keyOf 26 = .ok (.iconst 4, 1) := by decide +kernel
theorem dX0_keyOf_27 : decode cX0_keyOf 27 = .ok (.imul, 1) := by decide +kernel
theorem dX0_keyOf_28 : decode cX0_keyOf 28 = .ok (.aload_n 3, 1) := by decide +kernel
theorem dX0_keyOf_29 : decode cX0_keyOf 29 = .ok (.iload 5, 2) := by decide +kernel
theorem dX0_keyOf_31 : decode cX0_keyOf 31 = .ok (.iload 7, 2) := by decide +kernel
theorem dX0_keyOf_33 : decode cX0_keyOf 33 = .ok (.iadd, 1) := by decide +kernel
theorem dX0_keyOf_34 : decode cX0_keyOf 34 = .ok (.iconst 1, 1) := by decide +kernel
theorem dX0_keyOf_35 : decode cX0_keyOf 35 = .ok (.isub, 1) := by decide +kernel
theorem dX0_keyOf_36 : decode cX0_keyOf 36 = .ok (.invokevirtual 57, 3) := by decide +kernel
theorem dX0_keyOf_39 : decode cX0_keyOf 39 = .ok (.iadd, 1) := by decide +kernel
theorem dX0_keyOf_40 : decode cX0_keyOf 40 = .ok (.istore 8, 2) := by decide +kernel
theorem dX0_keyOf_42 : decode cX0_keyOf 42 = .ok (.aload_n 1, 1) := by decide +kernel
theorem dX0_keyOf_43 : decode cX0_keyOf 43 = .ok (.iload 4, 2) := by decide +kernel
theorem dX0_keyOf_45 : decode cX0_keyOf 45 = .ok (.iconst 1, 1) := by decide +kernel
theorem dX0_keyOf_46 : decode cX0_keyOf 46 = .ok (.isub, 1) := by decide +kernel
theorem dX0_keyOf_47 : decode cX0_keyOf 47 = .ok (.iload 5, 2) := by decide +kernel
theorem dX0_keyOf_49 : decode cX0_keyOf 49 = .ok (.iload 7, 2) := by decide +kernel
theorem dX0_keyOf_51 : decode cX0_keyOf 51 = .ok (.iadd, 1) := by decide +kernel
theorem dX0_keyOf_52 : decode cX0_keyOf 52 = .ok (.invokevirtual 61, 3) := by decide +kernel
theorem dX0_keyOf_55 : decode cX0_keyOf 55 = .ok (.iconst 1, 1) := by decide +kernel
theorem dX0_keyOf_56 : decode cX0_keyOf 56 = .ok (.iadd, 1) := by decide +kernel
theorem dX0_keyOf_57 : decode cX0_keyOf 57 = .ok (.istore 9, 2) := by decide +kernel
theorem dX0_keyOf_59 : decode cX0_keyOf 59 = .ok (.aload_n 1, 1) := by decide +kernel
theorem dX0_keyOf_60 : decode cX0_keyOf 60 = .ok (.iload 4, 2) := by decide +kernel
theorem dX0_keyOf_62 : decode cX0_keyOf 62 = .ok (.iload 7, 2) := by decide +kernel
theorem dX0_keyOf_64 : decode cX0_keyOf 64 = .ok (.iadd, 1) := by decide +kernel
theorem dX0_keyOf_65 : decode cX0_keyOf 65 = .ok (.iload 5, 2) := by decide +kernel
theorem dX0_keyOf_67 : decode cX0_keyOf 67 = .ok (.iconst 1, 1) := by decide +kernel
theorem dX0_keyOf_68 : decode cX0_keyOf 68 = .ok (.isub, 1) := by decide +kernel
theorem dX0_keyOf_69 : decode cX0_keyOf 69 = .ok (.invokevirtual 66, 3) := by decide +kernel
theorem dX0_keyOf_72 : decode cX0_keyOf 72 = .ok (.iconst 1, 1) := by decide +kernel
theorem dX0_keyOf_73 : decode cX0_keyOf 73 = .ok (.iadd, 1) := by decide +kernel
theorem dX0_keyOf_74 : decode cX0_keyOf 74 = .ok (.istore 10, 2) := by decide +kernel
theorem dX0_keyOf_76 : decode cX0_keyOf 76 = .ok (.iload 6, 2) := by decide +kernel
theorem dX0_keyOf_78 : decode cX0_keyOf 78 = .ok (.sipush 144, 3) := by decide +kernel
theorem dX0_keyOf_81 : decode cX0_keyOf 81 = .ok (.imul, 1) := by decide +kernel
theorem dX0_keyOf_82 : decode cX0_keyOf 82 = .ok (.iload 8, 2) := by decide +kernel
theorem dX0_keyOf_84 : decode cX0_keyOf 84 = .ok (.iconst 3, 1) := by decide +kernel
theorem dX0_keyOf_85 : decode cX0_keyOf 85 = .ok (.imul, 1) := by decide +kernel
theorem dX0_keyOf_86 : decode cX0_keyOf 86 = .ok (.iload 9, 2) := by decide +kernel
theorem dX0_keyOf_88 : decode cX0_keyOf 88 = .ok (.iadd, 1) := by decide +kernel
theorem dX0_keyOf_89 : decode cX0_keyOf 89 = .ok (.iconst 3, 1) := by decide +kernel
theorem dX0_keyOf_90 : decode cX0_keyOf 90 = .ok (.imul, 1) := by decide +kernel
theorem dX0_keyOf_91 : decode cX0_keyOf 91 = .ok (.iadd, 1) := by decide +kernel
theorem dX0_keyOf_92 : decode cX0_keyOf 92 = .ok (.iload 10, 2) := by decide +kernel
theorem dX0_keyOf_94 : decode cX0_keyOf 94 = .ok (.iadd, 1) := by decide +kernel
theorem dX0_keyOf_95 : decode cX0_keyOf 95 = .ok (.istore 6, 2) := by decide +kernel
theorem dX0_keyOf_97 : decode cX0_keyOf 97 = .ok (.iinc 7 1, 3) := by decide +kernel
theorem dX0_keyOf_100 : decode cX0_keyOf 100 = .ok (.goto (-94), 3) := by decide +kernel
theorem dX0_keyOf_103 : decode cX0_keyOf 103 = .ok (.iload 6, 2) := by decide +kernel
theorem dX0_keyOf_105 : decode cX0_keyOf 105 = .ok (.ireturn, 1) := by decide +kernel
theorem dX0_meet_0 : decode cX0_meet 0 = .ok (.iload_n 1, 1) := by decide +kernel
theorem dX0_meet_1 : decode cX0_meet 1 = .ok (.bipush 64, 2) := by decide +kernel
theorem dX0_meet_3 : decode cX0_meet 3 = .ok (.idiv, 1) := by decide +kernel
theorem dX0_meet_4 : decode cX0_meet 4 = .ok (.istore_n 2, 1) := by decide +kernel
theorem dX0_meet_5 : decode cX0_meet 5 = .ok (.iload_n 1, 1) := by decide +kernel
theorem dX0_meet_6 : decode cX0_meet 6 = .ok (.ifCond .lt 10, 3) := by decide +kernel
theorem dX0_meet_9 : decode cX0_meet 9 = .ok (.iload_n 2, 1) := by decide +kernel
theorem dX0_meet_10 : decode cX0_meet 10 = .ok (.sipush 324, 3) := by decide +kernel
theorem dX0_meet_13 : decode cX0_meet 13 = .ok (.if_icmp .lt 4, 3) := by decide +kernel
theorem dX0_meet_16 : decode cX0_meet 16 = .ok (.return_, 1) := by decide +kernel
theorem dX0_meet_17 : decode cX0_meet 17 = .ok (.lconst 1, 1) := by decide +kernel
theorem dX0_meet_18 : decode cX0_meet 18 = .ok (.iload_n 1, 1) := by decide +kernel
theorem dX0_meet_19 : decode cX0_meet 19 = .ok (.bipush 64, 2) := by decide +kernel
theorem dX0_meet_21 : decode cX0_meet 21 = .ok (.irem, 1) := by decide +kernel
theorem dX0_meet_22 : decode cX0_meet 22 = .ok (.lshl, 1) := by decide +kernel
theorem dX0_meet_23 : decode cX0_meet 23 = .ok (.lstore_n 3, 1) := by decide +kernel
theorem dX0_meet_24 : decode cX0_meet 24 = .ok (.aload_n 0, 1) := by decide +kernel
theorem dX0_meet_25 : decode cX0_meet 25 = .ok (.getfield 11, 3) := by decide +kernel
theorem dX0_meet_28 : decode cX0_meet 28 = .ok (.iload_n 2, 1) := by decide +kernel
theorem dX0_meet_29 : decode cX0_meet 29 = .ok (.laload, 1) := by decide +kernel
theorem dX0_meet_30 : decode cX0_meet 30 = .ok (.lload_n 3, 1) := by decide +kernel
theorem dX0_meet_31 : decode cX0_meet 31 = .ok (.land, 1) := by decide +kernel
theorem dX0_meet_32 : decode cX0_meet 32 = .ok (.lconst 0, 1) := by decide +kernel
theorem dX0_meet_33 : decode cX0_meet 33 = .ok (.lcmp, 1) := by decide +kernel
theorem dX0_meet_34 : decode cX0_meet 34 = .ok (.ifCond .eq 16, 3) := by decide +kernel
theorem dX0_meet_37 : decode cX0_meet 37 = .ok (.aload_n 0, 1) := by decide +kernel
theorem dX0_meet_38 : decode cX0_meet 38 = .ok (.dup, 1) := by decide +kernel
theorem dX0_meet_39 : decode cX0_meet 39 = .ok (.getfield 19, 3) := by decide +kernel
theorem dX0_meet_42 : decode cX0_meet 42 = .ok (.iconst 1, 1) := by decide +kernel
theorem dX0_meet_43 : decode cX0_meet 43 = .ok (.iadd, 1) := by decide +kernel
theorem dX0_meet_44 : decode cX0_meet 44 = .ok (.putfield 19, 3) := by decide +kernel
theorem dX0_meet_47 : decode cX0_meet 47 = .ok (.goto 27, 3) := by decide +kernel
theorem dX0_meet_50 : decode cX0_meet 50 = .ok (.aload_n 0, 1) := by decide +kernel
theorem dX0_meet_51 : decode cX0_meet 51 = .ok (.getfield 11, 3) := by decide +kernel
theorem dX0_meet_54 : decode cX0_meet 54 = .ok (.iload_n 2, 1) := by decide +kernel
theorem dX0_meet_55 : decode cX0_meet 55 = .ok (.aload_n 0, 1) := by decide +kernel
theorem dX0_meet_56 : decode cX0_meet 56 = .ok (.getfield 11, 3) := by decide +kernel
theorem dX0_meet_59 : decode cX0_meet 59 = .ok (.iload_n 2, 1) := by decide +kernel
theorem dX0_meet_60 : decode cX0_meet 60 = .ok (.laload, 1) := by decide +kernel
theorem dX0_meet_61 : decode cX0_meet 61 = .ok (.lload_n 3, 1) := by decide +kernel
theorem dX0_meet_62 : decode cX0_meet 62 = .ok (.lor, 1) := by decide +kernel
theorem dX0_meet_63 : decode cX0_meet 63 = .ok (.lastore, 1) := by decide +kernel
theorem dX0_meet_64 : decode cX0_meet 64 = .ok (.aload_n 0, 1) := by decide +kernel
theorem dX0_meet_65 : decode cX0_meet 65 = .ok (.dup, 1) := by decide +kernel
theorem dX0_meet_66 : decode cX0_meet 66 = .ok (.getfield 22, 3) := by decide +kernel
theorem dX0_meet_69 : decode cX0_meet 69 = .ok (.iconst 1, 1) := by decide +kernel
theorem dX0_meet_70 : decode cX0_meet 70 = .ok (.iadd, 1) := by decide +kernel
theorem dX0_meet_71 : decode cX0_meet 71 = .ok (.putfield 22, 3) := by decide +kernel
theorem dX0_meet_74 : decode cX0_meet 74 = .ok (.return_, 1) := by decide +kernel
theorem dX1_init_0 : decode cX1_init 0 = .ok (.aload_n 0, 1) := by decide +kernel
theorem dX1_init_1 : decode cX1_init 1 = .ok (.invokespecial 3, 3) := by decide +kernel
theorem dX1_init_4 : decode cX1_init 4 = .ok (.aload_n 0, 1) := by decide +kernel
theorem dX1_init_5 : decode cX1_init 5 = .ok (.sipush 441, 3) := by decide +kernel
theorem dX1_init_8 : decode cX1_init 8 = .ok (.newarray .int, 2) := by decide +kernel
theorem dX1_init_10 : decode cX1_init 10 = .ok (.putfield 11, 3) := by decide +kernel
theorem dX1_init_13 : decode cX1_init 13 = .ok (.return_, 1) := by decide +kernel
theorem dX1_at_0 : decode cX1_at 0 = .ok (.iload_n 1, 1) := by decide +kernel
theorem dX1_at_1 : decode cX1_at 1 = .ok (.iload_n 2, 1) := by decide +kernel
theorem dX1_at_2 : decode cX1_at 2 = .ok (.invokestatic 15, 3) := by decide +kernel
theorem dX1_at_5 : decode cX1_at 5 = .ok (.ifCond .eq 17, 3) := by decide +kernel
theorem dX1_at_8 : decode cX1_at 8 = .ok (.aload_n 0, 1) := by decide +kernel
theorem dX1_at_9 : decode cX1_at 9 = .ok (.getfield 11, 3) := by decide +kernel
theorem dX1_at_12 : decode cX1_at 12 = .ok (.iload_n 1, 1) := by decide +kernel
theorem dX1_at_13 : decode cX1_at 13 = .ok (.bipush 21, 2) := by decide +kernel
theorem dX1_at_15 : decode cX1_at 15 = .ok (.imul, 1) := by decide +kernel
theorem dX1_at_16 : decode cX1_at 16 = .ok (.iload_n 2, 1) := by decide +kernel
theorem dX1_at_17 : decode cX1_at 17 = .ok (.iadd, 1) := by decide +kernel
theorem dX1_at_18 : decode cX1_at 18 = .ok (.iaload, 1) := by decide +kernel
theorem dX1_at_19 : decode cX1_at 19 = .ok (.goto 4, 3) := by decide +kernel
theorem dX1_at_22 : decode cX1_at 22 = .ok (.iconst (-1), 1) := by decide +kernel
theorem dX1_at_23 : decode cX1_at 23 = .ok (.ireturn, 1) := by decide +kernel
theorem dX1_stepAcross_0 : decode cX1_stepAcross 0 = .ok (.aload_n 0, 1) := by decide +kernel
theorem dX1_stepAcross_1 : decode cX1_stepAcross 1 = .ok (.iload_n 1, 1) := by decide +kernel
theorem dX1_stepAcross_2 : decode cX1_stepAcross 2 = .ok (.iload_n 2, 1) := by decide +kernel
theorem dX1_stepAcross_3 : decode cX1_stepAcross 3 = .ok (.invokevirtual 19, 3) := by decide +kernel
theorem dX1_stepAcross_6 : decode cX1_stepAcross 6 = .ok (.aload_n 0, 1) := by decide +kernel
theorem dX1_stepAcross_7 : decode cX1_stepAcross 7 = .ok (.iload_n 1, 1) := by decide +kernel
theorem dX1_stepAcross_8 : decode cX1_stepAcross 8 = .ok (.iload_n 2, 1) := by decide +kernel
theorem dX1_stepAcross_9 : decode cX1_stepAcross 9 = .ok (.iconst 1, 1) := by decide +kernel
theorem dX1_stepAcross_10 : decode cX1_stepAcross 10 = .ok (.isub, 1) := by decide +kernel
theorem dX1_stepAcross_11 : decode cX1_stepAcross 11 = .ok (.invokevirtual 19, 3) := by decide +kernel
theorem dX1_stepAcross_14 : decode cX1_stepAcross 14 = .ok (.isub, 1) := by decide +kernel
theorem dX1_stepAcross_15 : decode cX1_stepAcross 15 = .ok (.ireturn, 1) := by decide +kernel
theorem dX1_stepDown_0 : decode cX1_stepDown 0 = .ok (.aload_n 0, 1) := by decide +kernel
theorem dX1_stepDown_1 : decode cX1_stepDown 1 = .ok (.iload_n 1, 1) := by decide +kernel
theorem dX1_stepDown_2 : decode cX1_stepDown 2 = .ok (.iload_n 2, 1) := by decide +kernel
theorem dX1_stepDown_3 : decode cX1_stepDown 3 = .ok (.invokevirtual 19, 3) := by decide +kernel
theorem dX1_stepDown_6 : decode cX1_stepDown 6 = .ok (.aload_n 0, 1) := by decide +kernel
theorem dX1_stepDown_7 : decode cX1_stepDown 7 = .ok (.iload_n 1, 1) := by decide +kernel
theorem dX1_stepDown_8 : decode cX1_stepDown 8 = .ok (.iconst 1, 1) := by decide +kernel
theorem dX1_stepDown_9 : decode cX1_stepDown 9 = .ok (.isub, 1) := by decide +kernel
theorem dX1_stepDown_10 : decode cX1_stepDown 10 = .ok (.iload_n 2, 1) := by decide +kernel
theorem dX1_stepDown_11 : decode cX1_stepDown 11 = .ok (.invokevirtual 19, 3) := by decide +kernel
theorem dX1_stepDown_14 : decode cX1_stepDown 14 = .ok (.isub, 1) := by decide +kernel
theorem dX1_stepDown_15 : decode cX1_stepDown 15 = .ok (.ireturn, 1) := by decide +kernel
theorem dX1_fill_0 : decode cX1_fill 0 = .ok (.iconst 0, 1) := by decide +kernel
theorem dX1_fill_1 : decode cX1_fill 1 = .ok (.istore 4, 2) := by decide +kernel
theorem dX1_fill_3 : decode cX1_fill 3 = .ok (.iload 4, 2) := by decide +kernel
theorem dX1_fill_5 : decode cX1_fill 5 = .ok (.aload_n 2, 1) := by decide +kernel
theorem dX1_fill_6 : decode cX1_fill 6 = .ok (.invokevirtual 23, 3) := by decide +kernel
theorem dX1_fill_9 : decode cX1_fill 9 = .ok (.if_icmp .gt 18, 3) := by decide +kernel
theorem dX1_fill_12 : decode cX1_fill 12 = .ok (.aload_n 0, 1) := by decide +kernel
theorem dX1_fill_13 : decode cX1_fill 13 = .ok (.iconst 0, 1) := by decide +kernel
theorem dX1_fill_14 : decode cX1_fill 14 = .ok (.iload 4, 2) := by decide +kernel
theorem dX1_fill_16 : decode cX1_fill 16 = .ok (.iload 4, 2) := by decide +kernel
theorem dX1_fill_18 : decode cX1_fill 18 = .ok (.invokevirtual 29, 3) := by decide +kernel
theorem dX1_fill_21 : decode cX1_fill 21 = .ok (.iinc 4 1, 3) := by decide +kernel
theorem dX1_fill_24 : decode cX1_fill 24 = .ok (.goto (-21), 3) := by decide +kernel
theorem dX1_fill_27 : decode cX1_fill 27 = .ok (.iconst 1, 1) := by decide +kernel
theorem dX1_fill_28 : decode cX1_fill 28 = .ok (.istore 4, 2) := by decide +kernel
theorem dX1_fill_30 : decode cX1_fill 30 = .ok (.iload 4, 2) := by decide +kernel
theorem dX1_fill_32 : decode cX1_fill 32 = .ok (.aload_n 1, 1) := by decide +kernel
theorem dX1_fill_33 : decode cX1_fill 33 = .ok (.invokevirtual 23, 3) := by decide +kernel
theorem dX1_fill_36 : decode cX1_fill 36 = .ok (.if_icmp .gt 104, 3) := by decide +kernel
theorem dX1_fill_39 : decode cX1_fill 39 = .ok (.aload_n 0, 1) := by decide +kernel
theorem dX1_fill_40 : decode cX1_fill 40 = .ok (.iload 4, 2) := by decide +kernel
theorem dX1_fill_42 : decode cX1_fill 42 = .ok (.iconst 0, 1) := by decide +kernel
theorem dX1_fill_43 : decode cX1_fill 43 = .ok (.iload 4, 2) := by decide +kernel
theorem dX1_fill_45 : decode cX1_fill 45 = .ok (.iload_n 3, 1) := by decide +kernel
theorem dX1_fill_46 : decode cX1_fill 46 = .ok (.imul, 1) := by decide +kernel
theorem dX1_fill_47 : decode cX1_fill 47 = .ok (.invokevirtual 29, 3) := by decide +kernel
theorem dX1_fill_50 : decode cX1_fill 50 = .ok (.iconst 1, 1) := by decide +kernel
theorem dX1_fill_51 : decode cX1_fill 51 = .ok (.istore 5, 2) := by decide +kernel
theorem dX1_fill_53 : decode cX1_fill 53 = .ok (.iload 5, 2) := by decide +kernel
theorem dX1_fill_55 : decode cX1_fill 55 = .ok (.aload_n 2, 1) := by decide +kernel
theorem dX1_fill_56 : decode cX1_fill 56 = .ok (.invokevirtual 23, 3) := by decide +kernel
theorem dX1_fill_59 : decode cX1_fill 59 = .ok (.if_icmp .gt 75, 3) := by decide +kernel
theorem dX1_fill_62 : decode cX1_fill 62 = .ok (.aload_n 1, 1) := by decide +kernel
theorem dX1_fill_63 : decode cX1_fill 63 = .ok (.iload 4, 2) := by decide +kernel
theorem dX1_fill_65 : decode cX1_fill 65 = .ok (.iconst 1, 1) := by decide +kernel
theorem dX1_fill_66 : decode cX1_fill 66 = .ok (.isub, 1) := by decide +kernel
theorem dX1_fill_67 : decode cX1_fill 67 = .ok (.invokevirtual 33, 3) := by decide +kernel
theorem dX1_fill_70 : decode cX1_fill 70 = .ok (.aload_n 2, 1) := by decide +kernel
theorem dX1_fill_71 : decode cX1_fill 71 = .ok (.iload 5, 2) := by decide +kernel
theorem dX1_fill_73 : decode cX1_fill 73 = .ok (.iconst 1, 1) := by decide +kernel
theorem dX1_fill_74 : decode cX1_fill 74 = .ok (.isub, 1) := by decide +kernel
theorem dX1_fill_75 : decode cX1_fill 75 = .ok (.invokevirtual 33, 3) := by decide +kernel
theorem dX1_fill_78 : decode cX1_fill 78 = .ok (.invokestatic 36, 3) := by decide +kernel
theorem dX1_fill_81 : decode cX1_fill 81 = .ok (.istore 6, 2) := by decide +kernel
theorem dX1_fill_83 : decode cX1_fill 83 = .ok (.aload_n 0, 1) := by decide +kernel
theorem dX1_fill_84 : decode cX1_fill 84 = .ok (.iload 4, 2) := by decide +kernel
theorem dX1_fill_86 : decode cX1_fill 86 = .ok (.iload 5, 2) := by decide +kernel
theorem dX1_fill_88 : decode cX1_fill 88 = .ok (.aload_n 0, 1) := by decide +kernel
theorem dX1_fill_89 : decode cX1_fill 89 = .ok (.iload 4, 2) := by decide +kernel
theorem dX1_fill_91 : decode cX1_fill 91 = .ok (.iconst 1, 1) := by decide +kernel
theorem dX1_fill_92 : decode cX1_fill 92 = .ok (.isub, 1) := by decide +kernel
theorem dX1_fill_93 : decode cX1_fill 93 = .ok (.iload 5, 2) := by decide +kernel
theorem dX1_fill_95 : decode cX1_fill 95 = .ok (.invokevirtual 19, 3) := by decide +kernel
theorem dX1_fill_98 : decode cX1_fill 98 = .ok (.aload_n 0, 1) := by decide +kernel
theorem dX1_fill_99 : decode cX1_fill 99 = .ok (.iload 4, 2) := by decide +kernel
theorem dX1_fill_101 : decode cX1_fill 101 = .ok (.iload 5, 2) := by decide +kernel
theorem dX1_fill_103 : decode cX1_fill 103 = .ok (.iconst 1, 1) := by decide +kernel
theorem dX1_fill_104 : decode cX1_fill 104 = .ok (.isub, 1) := by decide +kernel
theorem dX1_fill_105 : decode cX1_fill 105 = .ok (.invokevirtual 19, 3) := by decide +kernel
theorem dX1_fill_108 : decode cX1_fill 108 = .ok (.aload_n 0, 1) := by decide +kernel
theorem dX1_fill_109 : decode cX1_fill 109 = .ok (.iload 4, 2) := by decide +kernel
theorem dX1_fill_111 : decode cX1_fill 111 = .ok (.iconst 1, 1) := by decide +kernel
theorem dX1_fill_112 : decode cX1_fill 112 = .ok (.isub, 1) := by decide +kernel
theorem dX1_fill_113 : decode cX1_fill 113 = .ok (.iload 5, 2) := by decide +kernel
theorem dX1_fill_115 : decode cX1_fill 115 = .ok (.iconst 1, 1) := by decide +kernel
theorem dX1_fill_116 : decode cX1_fill 116 = .ok (.isub, 1) := by decide +kernel
theorem dX1_fill_117 : decode cX1_fill 117 = .ok (.invokevirtual 19, 3) := by decide +kernel
theorem dX1_fill_120 : decode cX1_fill 120 = .ok (.iload 6, 2) := by decide +kernel
theorem dX1_fill_122 : decode cX1_fill 122 = .ok (.invokestatic 39, 3) := by decide +kernel
theorem dX1_fill_125 : decode cX1_fill 125 = .ok (.invokevirtual 29, 3) := by decide +kernel
theorem dX1_fill_128 : decode cX1_fill 128 = .ok (.iinc 5 1, 3) := by decide +kernel
theorem dX1_fill_131 : decode cX1_fill 131 = .ok (.goto (-78), 3) := by decide +kernel
theorem dX1_fill_134 : decode cX1_fill 134 = .ok (.iinc 4 1, 3) := by decide +kernel
theorem dX1_fill_137 : decode cX1_fill 137 = .ok (.goto (-107), 3) := by decide +kernel
theorem dX1_fill_140 : decode cX1_fill 140 = .ok (.return_, 1) := by decide +kernel
theorem dX1_put_0 : decode cX1_put 0 = .ok (.iload_n 1, 1) := by decide +kernel
theorem dX1_put_1 : decode cX1_put 1 = .ok (.iload_n 2, 1) := by decide +kernel
theorem dX1_put_2 : decode cX1_put 2 = .ok (.invokestatic 15, 3) := by decide +kernel
theorem dX1_put_5 : decode cX1_put 5 = .ok (.ifCond .eq 15, 3) := by decide +kernel
theorem dX1_put_8 : decode cX1_put 8 = .ok (.aload_n 0, 1) := by decide +kernel
theorem dX1_put_9 : decode cX1_put 9 = .ok (.getfield 11, 3) := by decide +kernel
theorem dX1_put_12 : decode cX1_put 12 = .ok (.iload_n 1, 1) := by decide +kernel
theorem dX1_put_13 : decode cX1_put 13 = .ok (.bipush 21, 2) := by decide +kernel
theorem dX1_put_15 : decode cX1_put 15 = .ok (.imul, 1) := by decide +kernel
theorem dX1_put_16 : decode cX1_put 16 = .ok (.iload_n 2, 1) := by decide +kernel
theorem dX1_put_17 : decode cX1_put 17 = .ok (.iadd, 1) := by decide +kernel
theorem dX1_put_18 : decode cX1_put 18 = .ok (.iload_n 3, 1) := by decide +kernel
theorem dX1_put_19 : decode cX1_put 19 = .ok (.iastore, 1) := by decide +kernel
theorem dX1_put_20 : decode cX1_put 20 = .ok (.return_, 1) := by decide +kernel
theorem dX1_isInside_0 : decode cX1_isInside 0 = .ok (.iload_n 0, 1) := by decide +kernel
theorem dX1_isInside_1 : decode cX1_isInside 1 = .ok (.ifCond .lt 23, 3) := by decide +kernel
theorem dX1_isInside_4 : decode cX1_isInside 4 = .ok (.iload_n 0, 1) := by decide +kernel
theorem dX1_isInside_5 : decode cX1_isInside 5 = .ok (.bipush 21, 2) := by decide +kernel
theorem dX1_isInside_7 : decode cX1_isInside 7 = .ok (.if_icmp .ge 17, 3) := by decide +kernel
theorem dX1_isInside_10 : decode cX1_isInside 10 = .ok (.iload_n 1, 1) := by decide +kernel
theorem dX1_isInside_11 : decode cX1_isInside 11 = .ok (.ifCond .lt 13, 3) := by decide +kernel
theorem dX1_isInside_14 : decode cX1_isInside 14 = .ok (.iload_n 1, 1) := by decide +kernel
theorem dX1_isInside_15 : decode cX1_isInside 15 = .ok (.bipush 21, 2) := by decide +kernel
theorem dX1_isInside_17 : decode cX1_isInside 17 = .ok (.if_icmp .ge 7, 3) := by decide +kernel
theorem dX1_isInside_20 : decode cX1_isInside 20 = .ok (.iconst 1, 1) := by decide +kernel
theorem dX1_isInside_21 : decode cX1_isInside 21 = .ok (.goto 4, 3) := by decide +kernel
theorem dX1_isInside_24 : decode cX1_isInside 24 = .ok (.iconst 0, 1) := by decide +kernel
theorem dX1_isInside_25 : decode cX1_isInside 25 = .ok (.ireturn, 1) := by decide +kernel
theorem dX2_init_0 : decode cX2_init 0 = .ok (.aload_n 0, 1) := by decide +kernel
theorem dX2_init_1 : decode cX2_init 1 = .ok (.invokespecial 3, 3) := by decide +kernel
theorem dX2_init_4 : decode cX2_init 4 = .ok (.aload_n 0, 1) := by decide +kernel
theorem dX2_init_5 : decode cX2_init 5 = .ok (.bipush 60, 2) := by decide +kernel
theorem dX2_init_7 : decode cX2_init 7 = .ok (.newarray .int, 2) := by decide +kernel
theorem dX2_init_9 : decode cX2_init 9 = .ok (.putfield 9, 3) := by decide +kernel
theorem dX2_init_12 : decode cX2_init 12 = .ok (.aload_n 0, 1) := by decide +kernel
theorem dX2_init_13 : decode cX2_init 13 = .ok (.iconst 0, 1) := by decide +kernel
theorem dX2_init_14 : decode cX2_init 14 = .ok (.putfield 15, 3) := by decide +kernel
theorem dX2_init_17 : decode cX2_init 17 = .ok (.return_, 1) := by decide +kernel
theorem dX3_init_0 : decode cX3_init 0 = .ok (.aload_n 0, 1) := by decide +kernel
theorem dX3_init_1 : decode cX3_init 1 = .ok (.invokespecial 3, 3) := by decide +kernel
theorem dX3_init_4 : decode cX3_init 4 = .ok (.aload_n 0, 1) := by decide +kernel
theorem dX3_init_5 : decode cX3_init 5 = .ok (.new 9, 3) := by decide +kernel
theorem dX3_init_8 : decode cX3_init 8 = .ok (.dup, 1) := by decide +kernel
theorem dX3_init_9 : decode cX3_init 9 = .ok (.invokespecial 11, 3) := by decide +kernel
theorem dX3_init_12 : decode cX3_init 12 = .ok (.putfield 12, 3) := by decide +kernel
theorem dX3_init_15 : decode cX3_init 15 = .ok (.aload_n 0, 1) := by decide +kernel
theorem dX3_init_16 : decode cX3_init 16 = .ok (.new 9, 3) := by decide +kernel
theorem dX3_init_19 : decode cX3_init 19 = .ok (.dup, 1) := by decide +kernel
theorem dX3_init_20 : decode cX3_init 20 = .ok (.invokespecial 11, 3) := by decide +kernel
theorem dX3_init_23 : decode cX3_init 23 = .ok (.putfield 18, 3) := by decide +kernel
theorem dX3_init_26 : decode cX3_init 26 = .ok (.aload_n 0, 1) := by decide +kernel
theorem dX3_init_27 : decode cX3_init 27 = .ok (.new 21, 3) := by decide +kernel
theorem dX3_init_30 : decode cX3_init 30 = .ok (.dup, 1) := by decide +kernel
theorem dX3_init_31 : decode cX3_init 31 = .ok (.invokespecial 23, 3) := by decide +kernel
theorem dX3_init_34 : decode cX3_init 34 = .ok (.putfield 24, 3) := by decide +kernel
theorem dX3_init_37 : decode cX3_init 37 = .ok (.aload_n 0, 1) := by decide +kernel
theorem dX3_init_38 : decode cX3_init 38 = .ok (.new 21, 3) := by decide +kernel
theorem dX3_init_41 : decode cX3_init 41 = .ok (.dup, 1) := by decide +kernel
theorem dX3_init_42 : decode cX3_init 42 = .ok (.invokespecial 23, 3) := by decide +kernel
theorem dX3_init_45 : decode cX3_init 45 = .ok (.putfield 28, 3) := by decide +kernel
theorem dX3_init_48 : decode cX3_init 48 = .ok (.return_, 1) := by decide +kernel
theorem dX3_prepare_0 : decode cX3_prepare 0 = .ok (.aload_n 0, 1) := by decide +kernel
theorem dX3_prepare_1 : decode cX3_prepare 1 = .ok (.getfield 12, 3) := by decide +kernel
theorem dX3_prepare_4 : decode cX3_prepare 4 = .ok (.aload_n 1, 1) := by decide +kernel
theorem dX3_prepare_5 : decode cX3_prepare 5 = .ok (.aload_n 2, 1) := by decide +kernel
theorem dX3_prepare_6 : decode cX3_prepare 6 = .ok (.iconst 1, 1) := by decide +kernel
theorem dX3_prepare_7 : decode cX3_prepare 7 = .ok (.invokevirtual 31, 3) := by decide +kernel
theorem dX3_prepare_10 : decode cX3_prepare 10 = .ok (.aload_n 0, 1) := by decide +kernel
theorem dX3_prepare_11 : decode cX3_prepare 11 = .ok (.getfield 24, 3) := by decide +kernel
theorem dX3_prepare_14 : decode cX3_prepare 14 = .ok (.aload_n 1, 1) := by decide +kernel
theorem dX3_prepare_15 : decode cX3_prepare 15 = .ok (.invokevirtual 35, 3) := by decide +kernel
theorem dX3_prepare_18 : decode cX3_prepare 18 = .ok (.aload_n 0, 1) := by decide +kernel
theorem dX3_prepare_19 : decode cX3_prepare 19 = .ok (.getfield 28, 3) := by decide +kernel
theorem dX3_prepare_22 : decode cX3_prepare 22 = .ok (.aload_n 2, 1) := by decide +kernel
theorem dX3_prepare_23 : decode cX3_prepare 23 = .ok (.invokevirtual 35, 3) := by decide +kernel
theorem dX3_prepare_26 : decode cX3_prepare 26 = .ok (.aload_n 0, 1) := by decide +kernel
theorem dX3_prepare_27 : decode cX3_prepare 27 = .ok (.getfield 18, 3) := by decide +kernel
theorem dX3_prepare_30 : decode cX3_prepare 30 = .ok (.aload_n 0, 1) := by decide +kernel
theorem dX3_prepare_31 : decode cX3_prepare 31 = .ok (.getfield 24, 3) := by decide +kernel
theorem dX3_prepare_34 : decode cX3_prepare 34 = .ok (.aload_n 0, 1) := by decide +kernel
theorem dX3_prepare_35 : decode cX3_prepare 35 = .ok (.getfield 28, 3) := by decide +kernel
theorem dX3_prepare_38 : decode cX3_prepare 38 = .ok (.iconst 1, 1) := by decide +kernel
theorem dX3_prepare_39 : decode cX3_prepare 39 = .ok (.invokevirtual 31, 3) := by decide +kernel
theorem dX3_prepare_42 : decode cX3_prepare 42 = .ok (.return_, 1) := by decide +kernel
theorem dX3_distanceWith_0 : decode cX3_distanceWith 0 = .ok (.aload_n 2, 1) := by decide +kernel
theorem dX3_distanceWith_1 : decode cX3_distanceWith 1 = .ok (.invokevirtual 39, 3) := by decide +kernel
theorem dX3_distanceWith_4 : decode cX3_distanceWith 4 = .ok (.istore 5, 2) := by decide +kernel
theorem dX3_distanceWith_6 : decode cX3_distanceWith 6 = .ok (.aload_n 1, 1) := by decide +kernel
theorem dX3_distanceWith_7 : decode cX3_distanceWith 7 = .ok (.invokevirtual 39, 3) := by decide +kernel
theorem dX3_distanceWith_10 : decode cX3_distanceWith 10 = .ok (.iload_n 3, 1) := by decide +kernel
theorem dX3_distanceWith_11 : decode cX3_distanceWith 11 = .ok (.isub, 1) := by decide +kernel
theorem dX3_distanceWith_12 : decode cX3_distanceWith 12 = .ok (.iconst 1, 1) := by decide +kernel
theorem dX3_distanceWith_13 : decode cX3_distanceWith 13 = .ok (.isub, 1) := by decide +kernel
theorem dX3_distanceWith_14 : decode cX3_distanceWith 14 = .ok (.istore 6, 2) := by decide +kernel
theorem dX3_distanceWith_16 : decode cX3_distanceWith 16 = .ok (.iload_n 3, 1) := by decide +kernel
theorem dX3_distanceWith_17 : decode cX3_distanceWith 17 = .ok (.iconst 1, 1) := by decide +kernel
theorem dX3_distanceWith_18 : decode cX3_distanceWith 18 = .ok (.iadd, 1) := by decide +kernel
theorem dX3_distanceWith_19 : decode cX3_distanceWith 19 = .ok (.istore 7, 2) := by decide +kernel
theorem dX3_distanceWith_21 : decode cX3_distanceWith 21 = .ok (.iload 7, 2) := by decide +kernel
theorem dX3_distanceWith_23 : decode cX3_distanceWith 23 = .ok (.aload_n 0, 1) := by decide +kernel
theorem dX3_distanceWith_24 : decode cX3_distanceWith 24 = .ok (.getfield 18, 3) := by decide +kernel
theorem dX3_distanceWith_27 : decode cX3_distanceWith 27 = .ok (.iload 6, 2) := by decide +kernel
theorem dX3_distanceWith_29 : decode cX3_distanceWith 29 = .ok (.iload 5, 2) := by decide +kernel
theorem dX3_distanceWith_31 : decode cX3_distanceWith 31 = .ok (.invokevirtual 43, 3) := by decide +kernel
theorem dX3_distanceWith_34 : decode cX3_distanceWith 34 = .ok (.iadd, 1) := by decide +kernel
theorem dX3_distanceWith_35 : decode cX3_distanceWith 35 = .ok (.istore 8, 2) := by decide +kernel
theorem dX3_distanceWith_37 : decode cX3_distanceWith 37 = .ok (.iconst 1, 1) := by decide +kernel
theorem dX3_distanceWith_38 : decode cX3_distanceWith 38 = .ok (.istore 9, 2) := by decide +kernel
theorem dX3_distanceWith_40 : decode cX3_distanceWith 40 = .ok (.iload 9, 2) := by decide +kernel
theorem dX3_distanceWith_42 : decode cX3_distanceWith 42 = .ok (.iload 5, 2) := by decide +kernel
theorem dX3_distanceWith_44 : decode cX3_distanceWith 44 = .ok (.if_icmp .gt 79, 3) := by decide +kernel
theorem dX3_distanceWith_47 : decode cX3_distanceWith 47 = .ok (.iload 4, 2) := by decide +kernel
theorem dX3_distanceWith_49 : decode cX3_distanceWith 49 = .ok (.aload_n 2, 1) := by decide +kernel
theorem dX3_distanceWith_50 : decode cX3_distanceWith 50 = .ok (.iload 9, 2) := by decide +kernel
theorem dX3_distanceWith_52 : decode cX3_distanceWith 52 = .ok (.iconst 1, 1) := by decide +kernel
theorem dX3_distanceWith_53 : decode cX3_distanceWith 53 = .ok (.isub, 1) := by decide +kernel
theorem dX3_distanceWith_54 : decode cX3_distanceWith 54 = .ok (.invokevirtual 47, 3) := by decide +kernel
theorem dX3_distanceWith_57 : decode cX3_distanceWith 57 = .ok (.invokestatic 50, 3) := by decide +kernel
theorem dX3_distanceWith_60 : decode cX3_distanceWith 60 = .ok (.istore 10, 2) := by decide +kernel
theorem dX3_distanceWith_62 : decode cX3_distanceWith 62 = .ok (.aload_n 0, 1) := by decide +kernel
theorem dX3_distanceWith_63 : decode cX3_distanceWith 63 = .ok (.getfield 12, 3) := by decide +kernel
theorem dX3_distanceWith_66 : decode cX3_distanceWith 66 = .ok (.iload_n 3, 1) := by decide +kernel
theorem dX3_distanceWith_67 : decode cX3_distanceWith 67 = .ok (.iload 9, 2) := by decide +kernel
theorem dX3_distanceWith_69 : decode cX3_distanceWith 69 = .ok (.invokevirtual 43, 3) := by decide +kernel
theorem dX3_distanceWith_72 : decode cX3_distanceWith 72 = .ok (.iload 7, 2) := by decide +kernel
theorem dX3_distanceWith_74 : decode cX3_distanceWith 74 = .ok (.aload_n 0, 1) := by decide +kernel
theorem dX3_distanceWith_75 : decode cX3_distanceWith 75 = .ok (.getfield 12, 3) := by decide +kernel
theorem dX3_distanceWith_78 : decode cX3_distanceWith 78 = .ok (.iload_n 3, 1) := by decide +kernel
theorem dX3_distanceWith_79 : decode cX3_distanceWith 79 = .ok (.iload 9, 2) := by decide +kernel
theorem dX3_distanceWith_81 : decode cX3_distanceWith 81 = .ok (.iconst 1, 1) := by decide +kernel
theorem dX3_distanceWith_82 : decode cX3_distanceWith 82 = .ok (.isub, 1) := by decide +kernel
theorem dX3_distanceWith_83 : decode cX3_distanceWith 83 = .ok (.invokevirtual 43, 3) := by decide +kernel
theorem dX3_distanceWith_86 : decode cX3_distanceWith 86 = .ok (.iload 10, 2) := by decide +kernel
theorem dX3_distanceWith_88 : decode cX3_distanceWith 88 = .ok (.invokestatic 53, 3) := by decide +kernel
theorem dX3_distanceWith_91 : decode cX3_distanceWith 91 = .ok (.istore 7, 2) := by decide +kernel
theorem dX3_distanceWith_93 : decode cX3_distanceWith 93 = .ok (.iload 8, 2) := by decide +kernel
theorem dX3_distanceWith_95 : decode cX3_distanceWith 95 = .ok (.iload 7, 2) := by decide +kernel
theorem dX3_distanceWith_97 : decode cX3_distanceWith 97 = .ok (.aload_n 0, 1) := by decide +kernel
theorem dX3_distanceWith_98 : decode cX3_distanceWith 98 = .ok (.getfield 18, 3) := by decide +kernel
theorem dX3_distanceWith_101 : decode cX3_distanceWith 101 = .ok (.iload 6, 2) := by decide +kernel
theorem dX3_distanceWith_103 : decode cX3_distanceWith 103 = .ok (.iload 5, 2) := by decide +kernel
theorem dX3_distanceWith_105 : decode cX3_distanceWith 105 = .ok (.iload 9, 2) := by decide +kernel
theorem dX3_distanceWith_107 : decode cX3_distanceWith 107 = .ok (.isub, 1) := by decide +kernel
theorem dX3_distanceWith_108 : decode cX3_distanceWith 108 = .ok (.invokevirtual 43, 3) := by decide +kernel
theorem dX3_distanceWith_111 : decode cX3_distanceWith 111 = .ok (.iadd, 1) := by decide +kernel
theorem dX3_distanceWith_112 : decode cX3_distanceWith 112 = .ok (.invokestatic 57, 3) := by decide +kernel
theorem dX3_distanceWith_115 : decode cX3_distanceWith 115 = .ok (.istore 8, 2) := by decide +kernel
theorem dX3_distanceWith_117 : decode cX3_distanceWith 117 = .ok (.iinc 9 1, 3) := by decide +kernel
theorem dX3_distanceWith_120 : decode cX3_distanceWith 120 = .ok (.goto (-80), 3) := by decide +kernel
theorem dX3_distanceWith_123 : decode cX3_distanceWith 123 = .ok (.iload 8, 2) := by decide +kernel
theorem dX3_distanceWith_125 : decode cX3_distanceWith 125 = .ok (.ireturn, 1) := by decide +kernel
theorem dX4_init_0 : decode cX4_init 0 = .ok (.aload_n 0, 1) := by decide +kernel
theorem dX4_init_1 : decode cX4_init 1 = .ok (.invokespecial 3, 3) := by decide +kernel
theorem dX4_init_4 : decode cX4_init 4 = .ok (.aload_n 0, 1) := by decide +kernel
theorem dX4_init_5 : decode cX4_init 5 = .ok (.bipush 6, 2) := by decide +kernel
theorem dX4_init_7 : decode cX4_init 7 = .ok (.anewarray 9, 3) := by decide +kernel
theorem dX4_init_10 : decode cX4_init 10 = .ok (.putfield 11, 3) := by decide +kernel
theorem dX4_init_13 : decode cX4_init 13 = .ok (.aload_n 0, 1) := by decide +kernel
theorem dX4_init_14 : decode cX4_init 14 = .ok (.iconst 0, 1) := by decide +kernel
theorem dX4_init_15 : decode cX4_init 15 = .ok (.putfield 17, 3) := by decide +kernel
theorem dX4_init_18 : decode cX4_init 18 = .ok (.aload_n 0, 1) := by decide +kernel
theorem dX4_init_19 : decode cX4_init 19 = .ok (.iconst 0, 1) := by decide +kernel
theorem dX4_init_20 : decode cX4_init 20 = .ok (.putfield 21, 3) := by decide +kernel
theorem dX4_init_23 : decode cX4_init 23 = .ok (.return_, 1) := by decide +kernel
theorem dX4_size_0 : decode cX4_size 0 = .ok (.aload_n 0, 1) := by decide +kernel
theorem dX4_size_1 : decode cX4_size 1 = .ok (.getfield 21, 3) := by decide +kernel
theorem dX4_size_4 : decode cX4_size 4 = .ok (.ireturn, 1) := by decide +kernel
theorem dX4_save_0 : decode cX4_save 0 = .ok (.aload_n 0, 1) := by decide +kernel
theorem dX4_save_1 : decode cX4_save 1 = .ok (.getfield 21, 3) := by decide +kernel
theorem dX4_save_4 : decode cX4_save 4 = .ok (.bipush 6, 2) := by decide +kernel
theorem dX4_save_6 : decode cX4_save 6 = .ok (.if_icmp .lt 26, 3) := by decide +kernel
theorem dX4_save_9 : decode cX4_save 9 = .ok (.aload_n 0, 1) := by decide +kernel
theorem dX4_save_10 : decode cX4_save 10 = .ok (.aload_n 0, 1) := by decide +kernel
theorem dX4_save_11 : decode cX4_save 11 = .ok (.getfield 17, 3) := by decide +kernel
theorem dX4_save_14 : decode cX4_save 14 = .ok (.iconst 1, 1) := by decide +kernel
theorem dX4_save_15 : decode cX4_save 15 = .ok (.iadd, 1) := by decide +kernel
theorem dX4_save_16 : decode cX4_save 16 = .ok (.bipush 6, 2) := by decide +kernel
theorem dX4_save_18 : decode cX4_save 18 = .ok (.irem, 1) := by decide +kernel
theorem dX4_save_19 : decode cX4_save 19 = .ok (.putfield 17, 3) := by decide +kernel
theorem dX4_save_22 : decode cX4_save 22 = .ok (.aload_n 0, 1) := by decide +kernel
theorem dX4_save_23 : decode cX4_save 23 = .ok (.dup, 1) := by decide +kernel
theorem dX4_save_24 : decode cX4_save 24 = .ok (.getfield 21, 3) := by decide +kernel
theorem dX4_save_27 : decode cX4_save 27 = .ok (.iconst 1, 1) := by decide +kernel
theorem dX4_save_28 : decode cX4_save 28 = .ok (.isub, 1) := by decide +kernel
theorem dX4_save_29 : decode cX4_save 29 = .ok (.putfield 21, 3) := by decide +kernel
theorem dX4_save_32 : decode cX4_save 32 = .ok (.aload_n 0, 1) := by decide +kernel
theorem dX4_save_33 : decode cX4_save 33 = .ok (.getfield 17, 3) := by decide +kernel
theorem dX4_save_36 : decode cX4_save 36 = .ok (.aload_n 0, 1) := by decide +kernel
theorem dX4_save_37 : decode cX4_save 37 = .ok (.getfield 21, 3) := by decide +kernel
theorem dX4_save_40 : decode cX4_save 40 = .ok (.iadd, 1) := by decide +kernel
theorem dX4_save_41 : decode cX4_save 41 = .ok (.bipush 6, 2) := by decide +kernel
theorem dX4_save_43 : decode cX4_save 43 = .ok (.irem, 1) := by decide +kernel
theorem dX4_save_44 : decode cX4_save 44 = .ok (.istore_n 2, 1) := by decide +kernel
theorem dX4_save_45 : decode cX4_save 45 = .ok (.aload_n 0, 1) := by decide +kernel
theorem dX4_save_46 : decode cX4_save 46 = .ok (.getfield 11, 3) := by decide +kernel
theorem dX4_save_49 : decode cX4_save 49 = .ok (.iload_n 2, 1) := by decide +kernel
theorem dX4_save_50 : decode cX4_save 50 = .ok (.aaload, 1) := by decide +kernel
theorem dX4_save_51 : decode cX4_save 51 = .ok (.ifnonnull 16, 3) := by decide +kernel
theorem dX4_save_54 : decode cX4_save 54 = .ok (.aload_n 0, 1) := by decide +kernel
theorem dX4_save_55 : decode cX4_save 55 = .ok (.getfield 11, 3) := by decide +kernel
theorem dX4_save_58 : decode cX4_save 58 = .ok (.iload_n 2, 1) := by decide +kernel
theorem dX4_save_59 : decode cX4_save 59 = .ok (.new 9, 3) := by decide +kernel
theorem dX4_save_62 : decode cX4_save 62 = .ok (.dup, 1) := by decide +kernel
theorem dX4_save_63 : decode cX4_save 63 = .ok (.invokespecial 24, 3) := by decide +kernel
theorem dX4_save_66 : decode cX4_save 66 = .ok (.aastore, 1) := by decide +kernel
theorem dX4_save_67 : decode cX4_save 67 = .ok (.aload_n 0, 1) := by decide +kernel
theorem dX4_save_68 : decode cX4_save 68 = .ok (.getfield 11, 3) := by decide +kernel
theorem dX4_save_71 : decode cX4_save 71 = .ok (.iload_n 2, 1) := by decide +kernel
theorem dX4_save_72 : decode cX4_save 72 = .ok (.aaload, 1) := by decide +kernel
theorem dX4_save_73 : decode cX4_save 73 = .ok (.aload_n 1, 1) := by decide +kernel
theorem dX4_save_74 : decode cX4_save 74 = .ok (.invokevirtual 25, 3) := by decide +kernel
theorem dX4_save_77 : decode cX4_save 77 = .ok (.aload_n 0, 1) := by decide +kernel
theorem dX4_save_78 : decode cX4_save 78 = .ok (.dup, 1) := by decide +kernel
theorem dX4_save_79 : decode cX4_save 79 = .ok (.getfield 21, 3) := by decide +kernel
theorem dX4_save_82 : decode cX4_save 82 = .ok (.iconst 1, 1) := by decide +kernel
theorem dX4_save_83 : decode cX4_save 83 = .ok (.iadd, 1) := by decide +kernel
theorem dX4_save_84 : decode cX4_save 84 = .ok (.putfield 21, 3) := by decide +kernel
theorem dX4_save_87 : decode cX4_save 87 = .ok (.return_, 1) := by decide +kernel
theorem dX4_restore_0 : decode cX4_restore 0 = .ok (.aload_n 0, 1) := by decide +kernel
theorem dX4_restore_1 : decode cX4_restore 1 = .ok (.getfield 21, 3) := by decide +kernel
theorem dX4_restore_4 : decode cX4_restore 4 = .ok (.ifCond .gt 4, 3) := by decide +kernel
theorem dX4_restore_7 : decode cX4_restore 7 = .ok (.return_, 1) := by decide +kernel
theorem dX4_restore_8 : decode cX4_restore 8 = .ok (.aload_n 0, 1) := by decide +kernel
theorem dX4_restore_9 : decode cX4_restore 9 = .ok (.dup, 1) := by decide +kernel
theorem dX4_restore_10 : decode cX4_restore 10 = .ok (.getfield 21, 3) := by decide +kernel
theorem dX4_restore_13 : decode cX4_restore 13 = .ok (.iconst 1, 1) := by decide +kernel
theorem dX4_restore_14 : decode cX4_restore 14 = .ok (.isub, 1) := by decide +kernel
theorem dX4_restore_15 : decode cX4_restore 15 = .ok (.putfield 21, 3) := by decide +kernel
theorem dX4_restore_18 : decode cX4_restore 18 = .ok (.aload_n 0, 1) := by decide +kernel
theorem dX4_restore_19 : decode cX4_restore 19 = .ok (.getfield 11, 3) := by decide +kernel
theorem dX4_restore_22 : decode cX4_restore 22 = .ok (.aload_n 0, 1) := by decide +kernel
theorem dX4_restore_23 : decode cX4_restore 23 = .ok (.getfield 17, 3) := by decide +kernel
theorem dX4_restore_26 : decode cX4_restore 26 = .ok (.aload_n 0, 1) := by decide +kernel
theorem dX4_restore_27 : decode cX4_restore 27 = .ok (.getfield 21, 3) := by decide +kernel
theorem dX4_restore_30 : decode cX4_restore 30 = .ok (.iadd, 1) := by decide +kernel
theorem dX4_restore_31 : decode cX4_restore 31 = .ok (.bipush 6, 2) := by decide +kernel
theorem dX4_restore_33 : decode cX4_restore 33 = .ok (.irem, 1) := by decide +kernel
theorem dX4_restore_34 : decode cX4_restore 34 = .ok (.aaload, 1) := by decide +kernel
theorem dX4_restore_35 : decode cX4_restore 35 = .ok (.astore_n 2, 1) := by decide +kernel
theorem dX4_restore_36 : decode cX4_restore 36 = .ok (.aload_n 2, 1) := by decide +kernel
theorem dX4_restore_37 : decode cX4_restore 37 = .ok (.ifnull 8, 3) := by decide +kernel
theorem dX4_restore_40 : decode cX4_restore 40 = .ok (.aload_n 1, 1) := by decide +kernel
theorem dX4_restore_41 : decode cX4_restore 41 = .ok (.aload_n 2, 1) := by decide +kernel
theorem dX4_restore_42 : decode cX4_restore 42 = .ok (.invokevirtual 25, 3) := by decide +kernel
theorem dX4_restore_45 : decode cX4_restore 45 = .ok (.return_, 1) := by decide +kernel
theorem dX5_init_0 : decode cX5_init 0 = .ok (.aload_n 0, 1) := by decide +kernel
theorem dX5_init_1 : decode cX5_init 1 = .ok (.invokespecial 3, 3) := by decide +kernel
theorem dX5_init_4 : decode cX5_init 4 = .ok (.aload_n 0, 1) := by decide +kernel
theorem dX5_init_5 : decode cX5_init 5 = .ok (.new 9, 3) := by decide +kernel
theorem dX5_init_8 : decode cX5_init 8 = .ok (.dup, 1) := by decide +kernel
theorem dX5_init_9 : decode cX5_init 9 = .ok (.invokespecial 11, 3) := by decide +kernel
theorem dX5_init_12 : decode cX5_init 12 = .ok (.putfield 12, 3) := by decide +kernel
theorem dX5_init_15 : decode cX5_init 15 = .ok (.aload_n 0, 1) := by decide +kernel
theorem dX5_init_16 : decode cX5_init 16 = .ok (.new 9, 3) := by decide +kernel
theorem dX5_init_19 : decode cX5_init 19 = .ok (.dup, 1) := by decide +kernel
theorem dX5_init_20 : decode cX5_init 20 = .ok (.invokespecial 11, 3) := by decide +kernel
theorem dX5_init_23 : decode cX5_init 23 = .ok (.putfield 18, 3) := by decide +kernel
theorem dX5_init_26 : decode cX5_init 26 = .ok (.aload_n 0, 1) := by decide +kernel
theorem dX5_init_27 : decode cX5_init 27 = .ok (.iconst 4, 1) := by decide +kernel
theorem dX5_init_28 : decode cX5_init 28 = .ok (.putfield 21, 3) := by decide +kernel
theorem dX5_init_31 : decode cX5_init 31 = .ok (.return_, 1) := by decide +kernel
theorem dX5_text_0 : decode cX5_text 0 = .ok (.iload_n 1, 1) := by decide +kernel
theorem dX5_text_1 : decode cX5_text 1 = .ok (.ifCond .ne 10, 3) := by decide +kernel
theorem dX5_text_4 : decode cX5_text 4 = .ok (.aload_n 0, 1) := by decide +kernel
theorem dX5_text_5 : decode cX5_text 5 = .ok (.getfield 12, 3) := by decide +kernel
theorem dX5_text_8 : decode cX5_text 8 = .ok (.goto 7, 3) := by decide +kernel
theorem dX5_text_11 : decode cX5_text 11 = .ok (.aload_n 0, 1) := by decide +kernel
theorem dX5_text_12 : decode cX5_text 12 = .ok (.getfield 18, 3) := by decide +kernel
theorem dX5_text_15 : decode cX5_text 15 = .ok (.areturn, 1) := by decide +kernel
theorem dX5_alphabet_0 : decode cX5_alphabet 0 = .ok (.aload_n 0, 1) := by decide +kernel
theorem dX5_alphabet_1 : decode cX5_alphabet 1 = .ok (.getfield 21, 3) := by decide +kernel
theorem dX5_alphabet_4 : decode cX5_alphabet 4 = .ok (.ireturn, 1) := by decide +kernel
theorem dX5_setLetters_0 : decode cX5_setLetters 0 = .ok (.aload_n 0, 1) := by decide +kernel
theorem dX5_setLetters_1 : decode cX5_setLetters 1 = .ok (.iload_n 1, 1) := by decide +kernel
theorem dX5_setLetters_2 : decode cX5_setLetters 2 = .ok (.putfield 21, 3) := by decide +kernel
theorem dX5_setLetters_5 : decode cX5_setLetters 5 = .ok (.return_, 1) := by decide +kernel
theorem dX5_swapTexts_0 : decode cX5_swapTexts 0 = .ok (.aload_n 0, 1) := by decide +kernel
theorem dX5_swapTexts_1 : decode cX5_swapTexts 1 = .ok (.getfield 12, 3) := by decide +kernel
theorem dX5_swapTexts_4 : decode cX5_swapTexts 4 = .ok (.astore_n 1, 1) := by decide +kernel
theorem dX5_swapTexts_5 : decode cX5_swapTexts 5 = .ok (.aload_n 0, 1) := by decide +kernel
theorem dX5_swapTexts_6 : decode cX5_swapTexts 6 = .ok (.aload_n 0, 1) := by decide +kernel
theorem dX5_swapTexts_7 : decode cX5_swapTexts 7 = .ok (.getfield 18, 3) := by decide +kernel
theorem dX5_swapTexts_10 : decode cX5_swapTexts 10 = .ok (.putfield 12, 3) := by decide +kernel
theorem dX5_swapTexts_13 : decode cX5_swapTexts 13 = .ok (.aload_n 0, 1) := by decide +kernel
theorem dX5_swapTexts_14 : decode cX5_swapTexts 14 = .ok (.aload_n 1, 1) := by decide +kernel
theorem dX5_swapTexts_15 : decode cX5_swapTexts 15 = .ok (.putfield 18, 3) := by decide +kernel
theorem dX5_swapTexts_18 : decode cX5_swapTexts 18 = .ok (.return_, 1) := by decide +kernel
theorem dX5_copyFrom_0 : decode cX5_copyFrom 0 = .ok (.aload_n 0, 1) := by decide +kernel
theorem dX5_copyFrom_1 : decode cX5_copyFrom 1 = .ok (.getfield 12, 3) := by decide +kernel
theorem dX5_copyFrom_4 : decode cX5_copyFrom 4 = .ok (.aload_n 1, 1) := by decide +kernel
theorem dX5_copyFrom_5 : decode cX5_copyFrom 5 = .ok (.iconst 0, 1) := by decide +kernel
theorem dX5_copyFrom_6 : decode cX5_copyFrom 6 = .ok (.invokevirtual 25, 3) := by decide +kernel
theorem dX5_copyFrom_9 : decode cX5_copyFrom 9 = .ok (.invokevirtual 29, 3) := by decide +kernel
theorem dX5_copyFrom_12 : decode cX5_copyFrom 12 = .ok (.aload_n 0, 1) := by decide +kernel
theorem dX5_copyFrom_13 : decode cX5_copyFrom 13 = .ok (.getfield 18, 3) := by decide +kernel
theorem dX5_copyFrom_16 : decode cX5_copyFrom 16 = .ok (.aload_n 1, 1) := by decide +kernel
theorem dX5_copyFrom_17 : decode cX5_copyFrom 17 = .ok (.iconst 1, 1) := by decide +kernel
theorem dX5_copyFrom_18 : decode cX5_copyFrom 18 = .ok (.invokevirtual 25, 3) := by decide +kernel
theorem dX5_copyFrom_21 : decode cX5_copyFrom 21 = .ok (.invokevirtual 29, 3) := by decide +kernel
theorem dX5_copyFrom_24 : decode cX5_copyFrom 24 = .ok (.aload_n 0, 1) := by decide +kernel
theorem dX5_copyFrom_25 : decode cX5_copyFrom 25 = .ok (.aload_n 1, 1) := by decide +kernel
theorem dX5_copyFrom_26 : decode cX5_copyFrom 26 = .ok (.invokevirtual 33, 3) := by decide +kernel
theorem dX5_copyFrom_29 : decode cX5_copyFrom 29 = .ok (.putfield 21, 3) := by decide +kernel
theorem dX5_copyFrom_32 : decode cX5_copyFrom 32 = .ok (.return_, 1) := by decide +kernel
theorem dX6_init_0 : decode cX6_init 0 = .ok (.aload_n 0, 1) := by decide +kernel
theorem dX6_init_1 : decode cX6_init 1 = .ok (.invokespecial 3, 3) := by decide +kernel
theorem dX6_init_4 : decode cX6_init 4 = .ok (.aload_n 0, 1) := by decide +kernel
theorem dX6_init_5 : decode cX6_init 5 = .ok (.bipush 20, 2) := by decide +kernel
theorem dX6_init_7 : decode cX6_init 7 = .ok (.newarray .int, 2) := by decide +kernel
theorem dX6_init_9 : decode cX6_init 9 = .ok (.putfield 9, 3) := by decide +kernel
theorem dX6_init_12 : decode cX6_init 12 = .ok (.aload_n 0, 1) := by decide +kernel
theorem dX6_init_13 : decode cX6_init 13 = .ok (.iconst 0, 1) := by decide +kernel
theorem dX6_init_14 : decode cX6_init 14 = .ok (.putfield 15, 3) := by decide +kernel
theorem dX6_init_17 : decode cX6_init 17 = .ok (.return_, 1) := by decide +kernel
theorem dX6_size_0 : decode cX6_size 0 = .ok (.aload_n 0, 1) := by decide +kernel
theorem dX6_size_1 : decode cX6_size 1 = .ok (.getfield 15, 3) := by decide +kernel
theorem dX6_size_4 : decode cX6_size 4 = .ok (.ireturn, 1) := by decide +kernel
theorem dX6_at_0 : decode cX6_at 0 = .ok (.iload_n 1, 1) := by decide +kernel
theorem dX6_at_1 : decode cX6_at 1 = .ok (.ifCond .lt 20, 3) := by decide +kernel
theorem dX6_at_4 : decode cX6_at 4 = .ok (.iload_n 1, 1) := by decide +kernel
theorem dX6_at_5 : decode cX6_at 5 = .ok (.aload_n 0, 1) := by decide +kernel
theorem dX6_at_6 : decode cX6_at 6 = .ok (.getfield 15, 3) := by decide +kernel
theorem dX6_at_9 : decode cX6_at 9 = .ok (.if_icmp .ge 12, 3) := by decide +kernel
theorem dX6_at_12 : decode cX6_at 12 = .ok (.aload_n 0, 1) := by decide +kernel
theorem dX6_at_13 : decode cX6_at 13 = .ok (.getfield 9, 3) := by decide +kernel
theorem dX6_at_16 : decode cX6_at 16 = .ok (.iload_n 1, 1) := by decide +kernel
theorem dX6_at_17 : decode cX6_at 17 = .ok (.iaload, 1) := by decide +kernel
theorem dX6_at_18 : decode cX6_at 18 = .ok (.goto 4, 3) := by decide +kernel
theorem dX6_at_21 : decode cX6_at 21 = .ok (.iconst (-1), 1) := by decide +kernel
theorem dX6_at_22 : decode cX6_at 22 = .ok (.ireturn, 1) := by decide +kernel
theorem dX6_set_0 : decode cX6_set 0 = .ok (.iload_n 1, 1) := by decide +kernel
theorem dX6_set_1 : decode cX6_set 1 = .ok (.ifCond .lt 18, 3) := by decide +kernel
theorem dX6_set_4 : decode cX6_set 4 = .ok (.iload_n 1, 1) := by decide +kernel
theorem dX6_set_5 : decode cX6_set 5 = .ok (.aload_n 0, 1) := by decide +kernel
theorem dX6_set_6 : decode cX6_set 6 = .ok (.getfield 15, 3) := by decide +kernel
theorem dX6_set_9 : decode cX6_set 9 = .ok (.if_icmp .ge 10, 3) := by decide +kernel
theorem dX6_set_12 : decode cX6_set 12 = .ok (.aload_n 0, 1) := by decide +kernel
theorem dX6_set_13 : decode cX6_set 13 = .ok (.getfield 9, 3) := by decide +kernel
theorem dX6_set_16 : decode cX6_set 16 = .ok (.iload_n 1, 1) := by decide +kernel
theorem dX6_set_17 : decode cX6_set 17 = .ok (.iload_n 2, 1) := by decide +kernel
theorem dX6_set_18 : decode cX6_set 18 = .ok (.iastore, 1) := by decide +kernel
theorem dX6_set_19 : decode cX6_set 19 = .ok (.return_, 1) := by decide +kernel
theorem dX6_putIn_0 : decode cX6_putIn 0 = .ok (.iload_n 1, 1) := by decide +kernel
theorem dX6_putIn_1 : decode cX6_putIn 1 = .ok (.ifCond .lt 20, 3) := by decide +kernel
theorem dX6_putIn_4 : decode cX6_putIn 4 = .ok (.iload_n 1, 1) := by decide +kernel
theorem dX6_putIn_5 : decode cX6_putIn 5 = .ok (.aload_n 0, 1) := by decide +kernel
theorem dX6_putIn_6 : decode cX6_putIn 6 = .ok (.getfield 15, 3) := by decide +kernel
theorem dX6_putIn_9 : decode cX6_putIn 9 = .ok (.if_icmp .gt 12, 3) := by decide +kernel
theorem dX6_putIn_12 : decode cX6_putIn 12 = .ok (.aload_n 0, 1) := by decide +kernel
theorem dX6_putIn_13 : decode cX6_putIn 13 = .ok (.getfield 15, 3) := by decide +kernel
theorem dX6_putIn_16 : decode cX6_putIn 16 = .ok (.bipush 20, 2) := by decide +kernel
theorem dX6_putIn_18 : decode cX6_putIn 18 = .ok (.if_icmp .lt 4, 3) := by decide +kernel
theorem dX6_putIn_21 : decode cX6_putIn 21 = .ok (.return_, 1) := by decide +kernel
theorem dX6_putIn_22 : decode cX6_putIn 22 = .ok (.aload_n 0, 1) := by decide +kernel
theorem dX6_putIn_23 : decode cX6_putIn 23 = .ok (.getfield 15, 3) := by decide +kernel
theorem dX6_putIn_26 : decode cX6_putIn 26 = .ok (.istore_n 3, 1) := by decide +kernel
theorem dX6_putIn_27 : decode cX6_putIn 27 = .ok (.iload_n 3, 1) := by decide +kernel
theorem dX6_putIn_28 : decode cX6_putIn 28 = .ok (.iload_n 1, 1) := by decide +kernel
theorem dX6_putIn_29 : decode cX6_putIn 29 = .ok (.if_icmp .le 23, 3) := by decide +kernel
theorem dX6_putIn_32 : decode cX6_putIn 32 = .ok (.aload_n 0, 1) := by decide +kernel
theorem dX6_putIn_33 : decode cX6_putIn 33 = .ok (.getfield 9, 3) := by decide +kernel
theorem dX6_putIn_36 : decode cX6_putIn 36 = .ok (.iload_n 3, 1) := by decide +kernel
theorem dX6_putIn_37 : decode cX6_putIn 37 = .ok (.aload_n 0, 1) := by decide +kernel
theorem dX6_putIn_38 : decode cX6_putIn 38 = .ok (.getfield 9, 3) := by decide +kernel
theorem dX6_putIn_41 : decode cX6_putIn 41 = .ok (.iload_n 3, 1) := by decide +kernel
theorem dX6_putIn_42 : decode cX6_putIn 42 = .ok (.iconst 1, 1) := by decide +kernel
theorem dX6_putIn_43 : decode cX6_putIn 43 = .ok (.isub, 1) := by decide +kernel
theorem dX6_putIn_44 : decode cX6_putIn 44 = .ok (.iaload, 1) := by decide +kernel
theorem dX6_putIn_45 : decode cX6_putIn 45 = .ok (.iastore, 1) := by decide +kernel
theorem dX6_putIn_46 : decode cX6_putIn 46 = .ok (.iinc 3 (-1), 3) := by decide +kernel
theorem dX6_putIn_49 : decode cX6_putIn 49 = .ok (.goto (-22), 3) := by decide +kernel
theorem dX6_putIn_52 : decode cX6_putIn 52 = .ok (.aload_n 0, 1) := by decide +kernel
theorem dX6_putIn_53 : decode cX6_putIn 53 = .ok (.getfield 9, 3) := by decide +kernel
theorem dX6_putIn_56 : decode cX6_putIn 56 = .ok (.iload_n 1, 1) := by decide +kernel
theorem dX6_putIn_57 : decode cX6_putIn 57 = .ok (.iload_n 2, 1) := by decide +kernel
theorem dX6_putIn_58 : decode cX6_putIn 58 = .ok (.iastore, 1) := by decide +kernel
theorem dX6_putIn_59 : decode cX6_putIn 59 = .ok (.aload_n 0, 1) := by decide +kernel
theorem dX6_putIn_60 : decode cX6_putIn 60 = .ok (.dup, 1) := by decide +kernel
theorem dX6_putIn_61 : decode cX6_putIn 61 = .ok (.getfield 15, 3) := by decide +kernel
theorem dX6_putIn_64 : decode cX6_putIn 64 = .ok (.iconst 1, 1) := by decide +kernel
theorem dX6_putIn_65 : decode cX6_putIn 65 = .ok (.iadd, 1) := by decide +kernel
theorem dX6_putIn_66 : decode cX6_putIn 66 = .ok (.putfield 15, 3) := by decide +kernel
theorem dX6_putIn_69 : decode cX6_putIn 69 = .ok (.return_, 1) := by decide +kernel
theorem dX6_takeOut_0 : decode cX6_takeOut 0 = .ok (.iload_n 1, 1) := by decide +kernel
theorem dX6_takeOut_1 : decode cX6_takeOut 1 = .ok (.ifCond .lt 11, 3) := by decide +kernel
theorem dX6_takeOut_4 : decode cX6_takeOut 4 = .ok (.iload_n 1, 1) := by decide +kernel
theorem dX6_takeOut_5 : decode cX6_takeOut 5 = .ok (.aload_n 0, 1) := by decide +kernel
theorem dX6_takeOut_6 : decode cX6_takeOut 6 = .ok (.getfield 15, 3) := by decide +kernel
theorem dX6_takeOut_9 : decode cX6_takeOut 9 = .ok (.if_icmp .lt 4, 3) := by decide +kernel
theorem dX6_takeOut_12 : decode cX6_takeOut 12 = .ok (.return_, 1) := by decide +kernel
theorem dX6_takeOut_13 : decode cX6_takeOut 13 = .ok (.aload_n 0, 1) := by decide +kernel
theorem dX6_takeOut_14 : decode cX6_takeOut 14 = .ok (.dup, 1) := by decide +kernel
theorem dX6_takeOut_15 : decode cX6_takeOut 15 = .ok (.getfield 15, 3) := by decide +kernel
theorem dX6_takeOut_18 : decode cX6_takeOut 18 = .ok (.iconst 1, 1) := by decide +kernel
theorem dX6_takeOut_19 : decode cX6_takeOut 19 = .ok (.isub, 1) := by decide +kernel
theorem dX6_takeOut_20 : decode cX6_takeOut 20 = .ok (.putfield 15, 3) := by decide +kernel
theorem dX6_takeOut_23 : decode cX6_takeOut 23 = .ok (.iload_n 1, 1) := by decide +kernel
theorem dX6_takeOut_24 : decode cX6_takeOut 24 = .ok (.istore_n 2, 1) := by decide +kernel
theorem dX6_takeOut_25 : decode cX6_takeOut 25 = .ok (.iload_n 2, 1) := by decide +kernel
theorem dX6_takeOut_26 : decode cX6_takeOut 26 = .ok (.aload_n 0, 1) := by decide +kernel
theorem dX6_takeOut_27 : decode cX6_takeOut 27 = .ok (.getfield 15, 3) := by decide +kernel
theorem dX6_takeOut_30 : decode cX6_takeOut 30 = .ok (.if_icmp .ge 23, 3) := by decide +kernel
theorem dX6_takeOut_33 : decode cX6_takeOut 33 = .ok (.aload_n 0, 1) := by decide +kernel
theorem dX6_takeOut_34 : decode cX6_takeOut 34 = .ok (.getfield 9, 3) := by decide +kernel
theorem dX6_takeOut_37 : decode cX6_takeOut 37 = .ok (.iload_n 2, 1) := by decide +kernel
theorem dX6_takeOut_38 : decode cX6_takeOut 38 = .ok (.aload_n 0, 1) := by decide +kernel
theorem dX6_takeOut_39 : decode cX6_takeOut 39 = .ok (.getfield 9, 3) := by decide +kernel
theorem dX6_takeOut_42 : decode cX6_takeOut 42 = .ok (.iload_n 2, 1) := by decide +kernel
theorem dX6_takeOut_43 : decode cX6_takeOut 43 = .ok (.iconst 1, 1) := by decide +kernel
theorem dX6_takeOut_44 : decode cX6_takeOut 44 = .ok (.iadd, 1) := by decide +kernel
theorem dX6_takeOut_45 : decode cX6_takeOut 45 = .ok (.iaload, 1) := by decide +kernel
theorem dX6_takeOut_46 : decode cX6_takeOut 46 = .ok (.iastore, 1) := by decide +kernel
theorem dX6_takeOut_47 : decode cX6_takeOut 47 = .ok (.iinc 2 1, 3) := by decide +kernel
theorem dX6_takeOut_50 : decode cX6_takeOut 50 = .ok (.goto (-25), 3) := by decide +kernel
theorem dX6_takeOut_53 : decode cX6_takeOut 53 = .ok (.return_, 1) := by decide +kernel
theorem dX6_empty_0 : decode cX6_empty 0 = .ok (.aload_n 0, 1) := by decide +kernel
theorem dX6_empty_1 : decode cX6_empty 1 = .ok (.iconst 0, 1) := by decide +kernel
theorem dX6_empty_2 : decode cX6_empty 2 = .ok (.putfield 15, 3) := by decide +kernel
theorem dX6_empty_5 : decode cX6_empty 5 = .ok (.return_, 1) := by decide +kernel
theorem dX6_copyFrom_0 : decode cX6_copyFrom 0 = .ok (.aload_n 0, 1) := by decide +kernel
theorem dX6_copyFrom_1 : decode cX6_copyFrom 1 = .ok (.invokevirtual 19, 3) := by decide +kernel
theorem dX6_copyFrom_4 : decode cX6_copyFrom 4 = .ok (.iconst 0, 1) := by decide +kernel
theorem dX6_copyFrom_5 : decode cX6_copyFrom 5 = .ok (.istore_n 2, 1) := by decide +kernel
theorem dX6_copyFrom_6 : decode cX6_copyFrom 6 = .ok (.iload_n 2, 1) := by decide +kernel
theorem dX6_copyFrom_7 : decode cX6_copyFrom 7 = .ok (.aload_n 1, 1) := by decide +kernel
theorem dX6_copyFrom_8 : decode cX6_copyFrom 8 = .ok (.invokevirtual 22, 3) := by decide +kernel
theorem dX6_copyFrom_11 : decode cX6_copyFrom 11 = .ok (.if_icmp .ge 19, 3) := by decide +kernel
theorem dX6_copyFrom_14 : decode cX6_copyFrom 14 = .ok (.aload_n 0, 1) := by decide +kernel
theorem dX6_copyFrom_15 : decode cX6_copyFrom 15 = .ok (.iload_n 2, 1) := by decide +kernel
theorem dX6_copyFrom_16 : decode cX6_copyFrom 16 = .ok (.aload_n 1, 1) := by decide +kernel
theorem dX6_copyFrom_17 : decode cX6_copyFrom 17 = .ok (.iload_n 2, 1) := by decide +kernel
theorem dX6_copyFrom_18 : decode cX6_copyFrom 18 = .ok (.invokevirtual 25, 3) := by decide +kernel
theorem dX6_copyFrom_21 : decode cX6_copyFrom 21 = .ok (.invokevirtual 29, 3) := by decide +kernel
theorem dX6_copyFrom_24 : decode cX6_copyFrom 24 = .ok (.iinc 2 1, 3) := by decide +kernel
theorem dX6_copyFrom_27 : decode cX6_copyFrom 27 = .ok (.goto (-21), 3) := by decide +kernel
theorem dX6_copyFrom_30 : decode cX6_copyFrom 30 = .ok (.return_, 1) := by decide +kernel
theorem dX6_copyBackward_0 : decode cX6_copyBackward 0 = .ok (.aload_n 0, 1) := by decide +kernel
theorem dX6_copyBackward_1 : decode cX6_copyBackward 1 = .ok (.invokevirtual 19, 3) := by decide +kernel
theorem dX6_copyBackward_4 : decode cX6_copyBackward 4 = .ok (.iconst 0, 1) := by decide +kernel
theorem dX6_copyBackward_5 : decode cX6_copyBackward 5 = .ok (.istore_n 2, 1) := by decide +kernel
theorem dX6_copyBackward_6 : decode cX6_copyBackward 6 = .ok (.iload_n 2, 1) := by decide +kernel
theorem dX6_copyBackward_7 : decode cX6_copyBackward 7 = .ok (.aload_n 1, 1) := by decide +kernel
theorem dX6_copyBackward_8 : decode cX6_copyBackward 8 = .ok (.invokevirtual 22, 3) := by decide +kernel
theorem dX6_copyBackward_11 : decode cX6_copyBackward 11 = .ok (.if_icmp .ge 26, 3) := by decide +kernel
theorem dX6_copyBackward_14 : decode cX6_copyBackward 14 = .ok (.aload_n 0, 1) := by decide +kernel
theorem dX6_copyBackward_15 : decode cX6_copyBackward 15 = .ok (.iload_n 2, 1) := by decide +kernel
theorem dX6_copyBackward_16 : decode cX6_copyBackward 16 = .ok (.aload_n 1, 1) := by decide +kernel
theorem dX6_copyBackward_17 : decode cX6_copyBackward 17 = .ok (.aload_n 1, 1) := by decide +kernel
theorem dX6_copyBackward_18 : decode cX6_copyBackward 18 = .ok (.invokevirtual 22, 3) := by decide +kernel
theorem dX6_copyBackward_21 : decode cX6_copyBackward 21 = .ok (.iconst 1, 1) := by decide +kernel
theorem dX6_copyBackward_22 : decode cX6_copyBackward 22 = .ok (.isub, 1) := by decide +kernel
theorem dX6_copyBackward_23 : decode cX6_copyBackward 23 = .ok (.iload_n 2, 1) := by decide +kernel
theorem dX6_copyBackward_24 : decode cX6_copyBackward 24 = .ok (.isub, 1) := by decide +kernel
theorem dX6_copyBackward_25 : decode cX6_copyBackward 25 = .ok (.invokevirtual 25, 3) := by decide +kernel
theorem dX6_copyBackward_28 : decode cX6_copyBackward 28 = .ok (.invokevirtual 29, 3) := by decide +kernel
theorem dX6_copyBackward_31 : decode cX6_copyBackward 31 = .ok (.iinc 2 1, 3) := by decide +kernel
theorem dX6_copyBackward_34 : decode cX6_copyBackward 34 = .ok (.goto (-28), 3) := by decide +kernel
theorem dX6_copyBackward_37 : decode cX6_copyBackward 37 = .ok (.return_, 1) := by decide +kernel
theorem dX6_keepsTo_0 : decode cX6_keepsTo 0 = .ok (.iconst 0, 1) := by decide +kernel
theorem dX6_keepsTo_1 : decode cX6_keepsTo 1 = .ok (.istore_n 2, 1) := by decide +kernel
theorem dX6_keepsTo_2 : decode cX6_keepsTo 2 = .ok (.iload_n 2, 1) := by decide +kernel
theorem dX6_keepsTo_3 : decode cX6_keepsTo 3 = .ok (.aload_n 0, 1) := by decide +kernel
theorem dX6_keepsTo_4 : decode cX6_keepsTo 4 = .ok (.getfield 15, 3) := by decide +kernel
theorem dX6_keepsTo_7 : decode cX6_keepsTo 7 = .ok (.if_icmp .ge 20, 3) := by decide +kernel
theorem dX6_keepsTo_10 : decode cX6_keepsTo 10 = .ok (.aload_n 0, 1) := by decide +kernel
theorem dX6_keepsTo_11 : decode cX6_keepsTo 11 = .ok (.iload_n 2, 1) := by decide +kernel
theorem dX6_keepsTo_12 : decode cX6_keepsTo 12 = .ok (.invokevirtual 25, 3) := by decide +kernel
theorem dX6_keepsTo_15 : decode cX6_keepsTo 15 = .ok (.iload_n 1, 1) := by decide +kernel
theorem dX6_keepsTo_16 : decode cX6_keepsTo 16 = .ok (.if_icmp .lt 5, 3) := by decide +kernel
theorem dX6_keepsTo_19 : decode cX6_keepsTo 19 = .ok (.iconst 0, 1) := by decide +kernel
theorem dX6_keepsTo_20 : decode cX6_keepsTo 20 = .ok (.ireturn, 1) := by decide +kernel
theorem dX6_keepsTo_21 : decode cX6_keepsTo 21 = .ok (.iinc 2 1, 3) := by decide +kernel
theorem dX6_keepsTo_24 : decode cX6_keepsTo 24 = .ok (.goto (-22), 3) := by decide +kernel
theorem dX6_keepsTo_27 : decode cX6_keepsTo 27 = .ok (.iconst 1, 1) := by decide +kernel
theorem dX6_keepsTo_28 : decode cX6_keepsTo 28 = .ok (.ireturn, 1) := by decide +kernel
theorem dX7_init_0 : decode cX7_init 0 = .ok (.aload_n 0, 1) := by decide +kernel
theorem dX7_init_1 : decode cX7_init 1 = .ok (.invokespecial 3, 3) := by decide +kernel
theorem dX7_init_4 : decode cX7_init 4 = .ok (.aload_n 0, 1) := by decide +kernel
theorem dX7_init_5 : decode cX7_init 5 = .ok (.bipush 40, 2) := by decide +kernel
theorem dX7_init_7 : decode cX7_init 7 = .ok (.newarray .int, 2) := by decide +kernel
theorem dX7_init_9 : decode cX7_init 9 = .ok (.putfield 11, 3) := by decide +kernel
theorem dX7_init_12 : decode cX7_init 12 = .ok (.aload_n 0, 1) := by decide +kernel
theorem dX7_init_13 : decode cX7_init 13 = .ok (.iconst 0, 1) := by decide +kernel
theorem dX7_init_14 : decode cX7_init 14 = .ok (.putfield 15, 3) := by decide +kernel
theorem dX7_init_17 : decode cX7_init 17 = .ok (.return_, 1) := by decide +kernel
theorem dX7_size_0 : decode cX7_size 0 = .ok (.aload_n 0, 1) := by decide +kernel
theorem dX7_size_1 : decode cX7_size 1 = .ok (.getfield 15, 3) := by decide +kernel
theorem dX7_size_4 : decode cX7_size 4 = .ok (.ireturn, 1) := by decide +kernel
theorem dX7_at_0 : decode cX7_at 0 = .ok (.iload_n 1, 1) := by decide +kernel
theorem dX7_at_1 : decode cX7_at 1 = .ok (.ifCond .lt 27, 3) := by decide +kernel
theorem dX7_at_4 : decode cX7_at 4 = .ok (.iload_n 1, 1) := by decide +kernel
theorem dX7_at_5 : decode cX7_at 5 = .ok (.aload_n 0, 1) := by decide +kernel
theorem dX7_at_6 : decode cX7_at 6 = .ok (.getfield 15, 3) := by decide +kernel
theorem dX7_at_9 : decode cX7_at 9 = .ok (.if_icmp .ge 19, 3) := by decide +kernel
theorem dX7_at_12 : decode cX7_at 12 = .ok (.aload_n 0, 1) := by decide +kernel
theorem dX7_at_13 : decode cX7_at 13 = .ok (.getfield 11, 3) := by decide +kernel
theorem dX7_at_16 : decode cX7_at 16 = .ok (.aload_n 0, 1) := by decide +kernel
theorem dX7_at_17 : decode cX7_at 17 = .ok (.getfield 15, 3) := by decide +kernel
theorem dX7_at_20 : decode cX7_at 20 = .ok (.iconst 1, 1) := by decide +kernel
theorem dX7_at_21 : decode cX7_at 21 = .ok (.isub, 1) := by decide +kernel
theorem dX7_at_22 : decode cX7_at 22 = .ok (.iload_n 1, 1) := by decide +kernel
theorem dX7_at_23 : decode cX7_at 23 = .ok (.isub, 1) := by decide +kernel
theorem dX7_at_24 : decode cX7_at 24 = .ok (.iaload, 1) := by decide +kernel
theorem dX7_at_25 : decode cX7_at 25 = .ok (.goto 4, 3) := by decide +kernel
theorem dX7_at_28 : decode cX7_at 28 = .ok (.iconst (-1), 1) := by decide +kernel
theorem dX7_at_29 : decode cX7_at 29 = .ok (.ireturn, 1) := by decide +kernel
theorem dX7_stepsOf_0 : decode cX7_stepsOf 0 = .ok (.iconst 0, 1) := by decide +kernel
theorem dX7_stepsOf_1 : decode cX7_stepsOf 1 = .ok (.istore_n 2, 1) := by decide +kernel
theorem dX7_stepsOf_2 : decode cX7_stepsOf 2 = .ok (.iconst 0, 1) := by decide +kernel
