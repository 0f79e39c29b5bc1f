theorem dX0_init_0 : decode cX0_init 0 = .ok (.aload_n 0, 1) := by decide +kernel
theorem dX0_init_1 : decode cX0_init 1 = .ok (.invokespecial 5, 3) := by decide +kernel
theorem dX0_init_4 : decode cX0_init 4 = .ok (.aload_n 0, 1) := by decide +kernel
theorem dX0_init_5 : decode cX0_init 5 = .ok (.sipush 324, 3) := by decide +kernel
theorem dX0_init_8 : decode cX0_init 8 = .ok (.newarray .long, 2) := by decide +kernel
theorem dX0_init_10 : decode cX0_init 10 = .ok (.putfield 11, 3) := by decide +kernel
theorem dX0_init_13 : decode cX0_init 13 = .ok (.aload_n 0, 1) := by decide +kernel
theorem dX0_init_14 : decode cX0_init 14 = .ok (.iconst 2, 1) := by decide +kernel
theorem dX0_init_15 : decode cX0_init 15 = .ok (.putfield 15, 3) := by decide +kernel
theorem dX0_init_18 : decode cX0_init 18 = .ok (.aload_n 0, 1) := by decide +kernel
theorem dX0_init_19 : decode cX0_init 19 = .ok (.iconst 0, 1) := by decide +kernel
theorem dX0_init_20 : decode cX0_init 20 = .ok (.putfield 19, 3) := by decide +kernel
theorem dX0_init_23 : decode cX0_init 23 = .ok (.aload_n 0, 1) := by decide +kernel
theorem dX0_init_24 : decode cX0_init 24 = .ok (.iconst 0, 1) := by decide +kernel
theorem dX0_init_25 : decode cX0_init 25 = .ok (.putfield 22, 3) := by decide +kernel
theorem dX0_init_28 : decode cX0_init 28 = .ok (.aload_n 0, 1) := by decide +kernel
theorem dX0_init_29 : decode cX0_init 29 = .ok (.iconst 0, 1) := by decide +kernel
theorem dX0_init_30 : decode cX0_init 30 = .ok (.putfield 25, 3) := by decide +kernel
theorem dX0_init_33 : decode cX0_init 33 = .ok (.return_, 1) := by decide +kernel
theorem dX0_blockSize_0 : decode cX0_blockSize 0 = .ok (.aload_n 0, 1) := by decide +kernel
theorem dX0_blockSize_1 : decode cX0_blockSize 1 = .ok (.getfield 15, 3) := by decide +kernel
theorem dX0_blockSize_4 : decode cX0_blockSize 4 = .ok (.ireturn, 1) := by decide +kernel
theorem dX0_hitCount_0 : decode cX0_hitCount 0 = .ok (.aload_n 0, 1) := by decide +kernel
theorem dX0_hitCount_1 : decode cX0_hitCount 1 = .ok (.getfield 19, 3) := by decide +kernel
theorem dX0_hitCount_4 : decode cX0_hitCount 4 = .ok (.ireturn, 1) := by decide +kernel
theorem dX0_missCount_0 : decode cX0_missCount 0 = .ok (.aload_n 0, 1) := by decide +kernel
theorem dX0_missCount_1 : decode cX0_missCount 1 = .ok (.getfield 22, 3) := by decide +kernel
theorem dX0_missCount_4 : decode cX0_missCount 4 = .ok (.ireturn, 1) := by decide +kernel
theorem dX0_singleCount_0 : decode cX0_singleCount 0 = .ok (.aload_n 0, 1) := by decide +kernel
theorem dX0_singleCount_1 : decode cX0_singleCount 1 = .ok (.getfield 25, 3) := by decide +kernel
theorem dX0_singleCount_4 : decode cX0_singleCount 4 = .ok (.ireturn, 1) := by decide +kernel
theorem dX0_startAnew_0 : decode cX0_startAnew 0 = .ok (.iconst 0, 1) := by decide +kernel
theorem dX0_startAnew_1 : decode cX0_startAnew 1 = .ok (.istore_n 2, 1) := by decide +kernel
theorem dX0_startAnew_2 : decode cX0_startAnew 2 = .ok (.iload_n 2, 1) := by decide +kernel
theorem dX0_startAnew_3 : decode cX0_startAnew 3 = .ok (.sipush 324, 3) := by decide +kernel
theorem dX0_startAnew_6 : decode cX0_startAnew 6 = .ok (.if_icmp .ge 16, 3) := by decide +kernel
theorem dX0_startAnew_9 : decode cX0_startAnew 9 = .ok (.aload_n 0, 1) := by decide +kernel
theorem dX0_startAnew_10 : decode cX0_startAnew 10 = .ok (.getfield 11, 3) := by decide +kernel
theorem dX0_startAnew_13 : decode cX0_startAnew 13 = .ok (.iload_n 2, 1) := by decide +kernel
theorem dX0_startAnew_14 : decode cX0_startAnew 14 = .ok (.lconst 0, 1) := by decide +kernel
theorem dX0_startAnew_15 : decode cX0_startAnew 15 = .ok (.lastore, 1) := by decide +kernel
theorem dX0_startAnew_16 : decode cX0_startAnew 16 = .ok (.iinc 2 1, 3) := by decide +kernel
theorem dX0_startAnew_19 : decode cX0_startAnew 19 = .ok (.goto (-17), 3) := by decide +kernel
theorem dX0_startAnew_22 : decode cX0_startAnew 22 = .ok (.aload_n 0, 1) := by decide +kernel
theorem dX0_startAnew_23 : decode cX0_startAnew 23 = .ok (.iload_n 1, 1) := by decide +kernel
theorem dX0_startAnew_24 : decode cX0_startAnew 24 = .ok (.putfield 15, 3) := by decide +kernel
theorem dX0_startAnew_27 : decode cX0_startAnew 27 = .ok (.aload_n 0, 1) := by decide +kernel
theorem dX0_startAnew_28 : decode cX0_startAnew 28 = .ok (.iconst 0, 1) := by decide +kernel
theorem dX0_startAnew_29 : decode cX0_startAnew 29 = .ok (.putfield 19, 3) := by decide +kernel
theorem dX0_startAnew_32 : decode cX0_startAnew 32 = .ok (.aload_n 0, 1) := by decide +kernel
theorem dX0_startAnew_33 : decode cX0_startAnew 33 = .ok (.iconst 0, 1) := by decide +kernel
theorem dX0_startAnew_34 : decode cX0_startAnew 34 = .ok (.putfield 22, 3) := by decide +kernel
theorem dX0_startAnew_37 : decode cX0_startAnew 37 = .ok (.aload_n 0, 1) := by decide +kernel
theorem dX0_startAnew_38 : decode cX0_startAnew 38 = .ok (.iconst 0, 1) := by decide +kernel
theorem dX0_startAnew_39 : decode cX0_startAnew 39 = .ok (.putfield 25, 3) := by decide +kernel
theorem dX0_startAnew_42 : decode cX0_startAnew 42 = .ok (.return_, 1) := by decide +kernel
theorem dX0_copyFrom_0 : decode cX0_copyFrom 0 = .ok (.aload_n 1, 1) := by decide +kernel
theorem dX0_copyFrom_1 : decode cX0_copyFrom 1 = .ok (.getfield 11, 3) := by decide +kernel
theorem dX0_copyFrom_4 : decode cX0_copyFrom 4 = .ok (.iconst 0, 1) := by decide +kernel
theorem dX0_copyFrom_5 : decode cX0_copyFrom 5 = .ok (.aload_n 0, 1) := by decide +kernel
theorem dX0_copyFrom_6 : decode cX0_copyFrom 6 = .ok (.getfield 11, 3) := by decide +kernel
theorem dX0_copyFrom_9 : decode cX0_copyFrom 9 = .ok (.iconst 0, 1) := by decide +kernel
theorem dX0_copyFrom_10 : decode cX0_copyFrom 10 = .ok (.sipush 324, 3) := by decide +kernel
theorem dX0_copyFrom_13 : decode cX0_copyFrom 13 = .ok (.invokestatic 28, 3) := by decide +kernel
theorem dX0_copyFrom_16 : decode cX0_copyFrom 16 = .ok (.aload_n 0, 1) := by decide +kernel
theorem dX0_copyFrom_17 : decode cX0_copyFrom 17 = .ok (.aload_n 1, 1) := by decide +kernel
theorem dX0_copyFrom_18 : decode cX0_copyFrom 18 = .ok (.getfield 15, 3) := by decide +kernel
theorem dX0_copyFrom_21 : decode cX0_copyFrom 21 = .ok (.putfield 15, 3) := by decide +kernel
theorem dX0_copyFrom_24 : decode cX0_copyFrom 24 = .ok (.aload_n 0, 1) := by decide +kernel
theorem dX0_copyFrom_25 : decode cX0_copyFrom 25 = .ok (.aload_n 1, 1) := by decide +kernel
theorem dX0_copyFrom_26 : decode cX0_copyFrom 26 = .ok (.getfield 19, 3) := by decide +kernel
theorem dX0_copyFrom_29 : decode cX0_copyFrom 29 = .ok (.putfield 19, 3) := by decide +kernel
theorem dX0_copyFrom_32 : decode cX0_copyFrom 32 = .ok (.aload_n 0, 1) := by decide +kernel
theorem dX0_copyFrom_33 : decode cX0_copyFrom 33 = .ok (.aload_n 1, 1) := by decide +kernel
theorem dX0_copyFrom_34 : decode cX0_copyFrom 34 = .ok (.getfield 22, 3) := by decide +kernel
theorem dX0_copyFrom_37 : decode cX0_copyFrom 37 = .ok (.putfield 22, 3) := by decide +kernel
theorem dX0_copyFrom_40 : decode cX0_copyFrom 40 = .ok (.aload_n 0, 1) := by decide +kernel
theorem dX0_copyFrom_41 : decode cX0_copyFrom 41 = .ok (.aload_n 1, 1) := by decide +kernel
theorem dX0_copyFrom_42 : decode cX0_copyFrom 42 = .ok (.getfield 25, 3) := by decide +kernel
theorem dX0_copyFrom_45 : decode cX0_copyFrom 45 = .ok (.putfield 25, 3) := by decide +kernel
theorem dX0_copyFrom_48 : decode cX0_copyFrom 48 = .ok (.return_, 1) := by decide +kernel
theorem dX0_meetBlocks_0 : decode cX0_meetBlocks 0 = .ok (.iconst 1, 1) := by decide +kernel
theorem dX0_meetBlocks_1 : decode cX0_meetBlocks 1 = .ok (.aload_n 0, 1) := by decide +kernel
theorem dX0_meetBlocks_2 : decode cX0_meetBlocks 2 = .ok (.getfield 15, 3) := by decide +kernel
theorem dX0_meetBlocks_5 : decode cX0_meetBlocks 5 = .ok (.invokestatic 34, 3) := by decide +kernel
theorem dX0_meetBlocks_8 : decode cX0_meetBlocks 8 = .ok (.istore 4, 2) := by decide +kernel
theorem dX0_meetBlocks_10 : decode cX0_meetBlocks 10 = .ok (.iconst 1, 1) := by decide +kernel
theorem dX0_meetBlocks_11 : decode cX0_meetBlocks 11 = .ok (.istore 5, 2) := by decide +kernel
theorem dX0_meetBlocks_13 : decode cX0_meetBlocks 13 = .ok (.iload 5, 2) := by decide +kernel
theorem dX0_meetBlocks_15 : decode cX0_meetBlocks 15 = .ok (.aload_n 2, 1) := by decide +kernel
theorem dX0_meetBlocks_16 : decode cX0_meetBlocks 16 = .ok (.invokevirtual 40, 3) := by decide +kernel
theorem dX0_meetBlocks_19 : decode cX0_meetBlocks 19 = .ok (.if_icmp .gt 113, 3) := by decide +kernel
theorem dX0_meetBlocks_22 : decode cX0_meetBlocks 22 = .ok (.iload 4, 2) := by decide +kernel
theorem dX0_meetBlocks_24 : decode cX0_meetBlocks 24 = .ok (.aload_n 2, 1) := by decide +kernel
theorem dX0_meetBlocks_25 : decode cX0_meetBlocks 25 = .ok (.invokevirtual 40, 3) := by decide +kernel
theorem dX0_meetBlocks_28 : decode cX0_meetBlocks 28 = .ok (.iload 5, 2) := by decide +kernel
theorem dX0_meetBlocks_30 : decode cX0_meetBlocks 30 = .ok (.isub, 1) := by decide +kernel
theorem dX0_meetBlocks_31 : decode cX0_meetBlocks 31 = .ok (.iconst 1, 1) := by decide +kernel
theorem dX0_meetBlocks_32 : decode cX0_meetBlocks 32 = .ok (.iadd, 1) := by decide +kernel
theorem dX0_meetBlocks_33 : decode cX0_meetBlocks 33 = .ok (.invokestatic 46, 3) := by decide +kernel
theorem dX0_meetBlocks_36 : decode cX0_meetBlocks 36 = .ok (.istore 6, 2) := by decide +kernel
theorem dX0_meetBlocks_38 : decode cX0_meetBlocks 38 = .ok (.iconst 1, 1) := by decide +kernel
theorem dX0_meetBlocks_39 : decode cX0_meetBlocks 39 = .ok (.istore 7, 2) := by decide +kernel
theorem dX0_meetBlocks_41 : decode cX0_meetBlocks 41 = .ok (.iload 7, 2) := by decide +kernel
theorem dX0_meetBlocks_43 : decode cX0_meetBlocks 43 = .ok (.aload_n 3, 1) := by decide +kernel
theorem dX0_meetBlocks_44 : decode cX0_meetBlocks 44 = .ok (.invokevirtual 40, 3) := by decide +kernel
theorem dX0_meetBlocks_47 : decode cX0_meetBlocks 47 = .ok (.if_icmp .gt 75, 3) := by decide +kernel
theorem dX0_meetBlocks_50 : decode cX0_meetBlocks 50 = .ok (.iload 4, 2) := by decide +kernel
theorem dX0_meetBlocks_52 : decode cX0_meetBlocks 52 = .ok (.aload_n 3, 1) := by decide +kernel
theorem dX0_meetBlocks_53 : decode cX0_meetBlocks 53 = .ok (.invokevirtual 40, 3) := by decide +kernel
theorem dX0_meetBlocks_56 : decode cX0_meetBlocks 56 = .ok (.iload 7, 2) := by decide +kernel
theorem dX0_meetBlocks_58 : decode cX0_meetBlocks 58 = .ok (.isub, 1) := by decide +kernel
theorem dX0_meetBlocks_59 : decode cX0_meetBlocks 59 = .ok (.iconst 1, 1) := by decide +kernel
theorem dX0_meetBlocks_60 : decode cX0_meetBlocks 60 = .ok (.iadd, 1) := by decide +kernel
theorem dX0_meetBlocks_61 : decode cX0_meetBlocks 61 = .ok (.invokestatic 46, 3) := by decide +kernel
theorem dX0_meetBlocks_64 : decode cX0_meetBlocks 64 = .ok (.istore 8, 2) := by decide +kernel
theorem dX0_meetBlocks_66 : decode cX0_meetBlocks 66 = .ok (.iload 6, 2) := by decide +kernel
theorem dX0_meetBlocks_68 : decode cX0_meetBlocks 68 = .ok (.iload 4, 2) := by decide +kernel
theorem dX0_meetBlocks_70 : decode cX0_meetBlocks 70 = .ok (.if_icmp .ne 28, 3) := by decide +kernel
theorem dX0_meetBlocks_73 : decode cX0_meetBlocks 73 = .ok (.iload 8, 2) := by decide +kernel
theorem dX0_meetBlocks_75 : decode cX0_meetBlocks 75 = .ok (.iload 4, 2) := by decide +kernel
theorem dX0_meetBlocks_77 : decode cX0_meetBlocks 77 = .ok (.if_icmp .ne 21, 3) := by decide +kernel
theorem dX0_meetBlocks_80 : decode cX0_meetBlocks 80 = .ok (.aload_n 0, 1) := by decide +kernel
theorem dX0_meetBlocks_81 : decode cX0_meetBlocks 81 = .ok (.aload_n 0, 1) := by decide +kernel
theorem dX0_meetBlocks_82 : decode cX0_meetBlocks 82 = .ok (.aload_n 1, 1) := by decide +kernel
theorem dX0_meetBlocks_83 : decode cX0_meetBlocks 83 = .ok (.aload_n 2, 1) := by decide +kernel
theorem dX0_meetBlocks_84 : decode cX0_meetBlocks 84 = .ok (.aload_n 3, 1) := by decide +kernel
theorem dX0_meetBlocks_85 : decode cX0_meetBlocks 85 = .ok (.iload 5, 2) := by decide +kernel
theorem dX0_meetBlocks_87 : decode cX0_meetBlocks 87 = .ok (.iload 7, 2) := by decide +kernel
theorem dX0_meetBlocks_89 : decode cX0_meetBlocks 89 = .ok (.invokevirtual 49, 3) := by decide +kernel
theorem dX0_meetBlocks_92 : decode cX0_meetBlocks 92 = .ok (.invokevirtual 53, 3) := by decide +kernel
theorem dX0_meetBlocks_95 : decode cX0_meetBlocks 95 = .ok (.goto 17, 3) := by decide +kernel
theorem dX0_meetBlocks_98 : decode cX0_meetBlocks 98 = .ok (.aload_n 0, 1) := by decide +kernel
theorem dX0_meetBlocks_99 : decode cX0_meetBlocks 99 = .ok (.dup, 1) := by decide +kernel
theorem dX0_meetBlocks_100 : decode cX0_meetBlocks 100 = .ok (.getfield 25, 3) := by decide +kernel
theorem dX0_meetBlocks_103 : decode cX0_meetBlocks 103 = .ok (.iload 6, 2) := by decide +kernel
theorem dX0_meetBlocks_105 : decode cX0_meetBlocks 105 = .ok (.iload 8, 2) := by decide +kernel
theorem dX0_meetBlocks_107 : decode cX0_meetBlocks 107 = .ok (.imul, 1) := by decide +kernel
theorem dX0_meetBlocks_108 : decode cX0_meetBlocks 108 = .ok (.iadd, 1) := by decide +kernel
theorem dX0_meetBlocks_109 : decode cX0_meetBlocks 109 = .ok (.putfield 25, 3) := by decide +kernel
theorem dX0_meetBlocks_112 : decode cX0_meetBlocks 112 = .ok (.iload 7, 2) := by decide +kernel
theorem dX0_meetBlocks_114 : decode cX0_meetBlocks 114 = .ok (.iload 4, 2) := by decide +kernel
theorem dX0_meetBlocks_116 : decode cX0_meetBlocks 116 = .ok (.iadd, 1) := by decide +kernel
theorem dX0_meetBlocks_117 : decode cX0_meetBlocks 117 = .ok (.istore 7, 2) := by decide +kernel
theorem dX0_meetBlocks_119 : decode cX0_meetBlocks 119 = .ok (.goto (-78), 3) := by decide +kernel
theorem dX0_meetBlocks_122 : decode cX0_meetBlocks 122 = .ok (.iload 5, 2) := by decide +kernel
theorem dX0_meetBlocks_124 : decode cX0_meetBlocks 124 = .ok (.iload 4, 2) := by decide +kernel
theorem dX0_meetBlocks_126 : decode cX0_meetBlocks 126 = .ok (.iadd, 1) := by decide +kernel
theorem dX0_meetBlocks_127 : decode cX0_meetBlocks 127 = .ok (.istore 5, 2) := by decide +kernel
theorem dX0_meetBlocks_129 : decode cX0_meetBlocks 129 = .ok (.goto (-116), 3) := by decide +kernel
theorem dX0_meetBlocks_132 : decode cX0_meetBlocks 132 = .ok (.return_, 1) := by decide +kernel
theorem dX0_keyOf_0 : decode cX0_keyOf 0 = .ok (.iconst 0, 1) := by decide +kernel
theorem dX0_keyOf_1 : decode cX0_keyOf 1 = .ok (.istore 6, 2) := by decide +kernel
theorem dX0_keyOf_3 : decode cX0_keyOf 3 = .ok (.iconst 0, 1) := by decide +kernel
theorem dX0_keyOf_4 : decode cX0_keyOf 4 = .ok (.istore 7, 2) := by decide +kernel
theorem dX0_keyOf_6 : decode cX0_keyOf 6 = .ok (.iload 7, 2) := by decide +kernel
theorem dX0_keyOf_8 : decode cX0_keyOf 8 = .ok (.aload_n 0, 1) := by decide +kernel
theorem dX0_keyOf_9 : decode cX0_keyOf 9 = .ok (.getfield 15, 3) := by decide +kernel
theorem dX0_keyOf_12 : decode cX0_keyOf 12 = .ok (.if_icmp .ge 91, 3) := by decide +kernel
theorem dX0_keyOf_15 : decode cX0_keyOf 15 = .ok (.aload_n 2, 1) := by decide +kernel
theorem dX0_keyOf_16 : decode cX0_keyOf 16 = .ok (.iload 4, 2) := by decide +kernel
theorem dX0_keyOf_18 : decode cX0_keyOf 18 = .ok (.iload 7, 2) := by decide +kernel
theorem dX0_keyOf_20 : decode cX0_keyOf 20 = .ok (.iadd, 1) := by decide +kernel
theorem dX0_keyOf_21 : decode cX0_keyOf 21 = .ok (.iconst 1, 1) := by decide +kernel
theorem dX0_keyOf_22 : decode cX0_keyOf 22 = .ok (.isub, 1) := by decide +kernel
theorem dX0_keyOf_23 : decode cX0_keyOf 23 = .ok (.invokevirtual 57, 3) := by decide +kernel
theorem dX0_keyOf_26 : decode cX0_keyOf 26 = .ok (.iconst 4, 1) := by decide +kernel
theorem dX0_keyOf_27 : decode cX0_keyOf 27 = .ok (.imul, 1) := by decide +kernel
theorem dX0_keyOf_28 : decode cX0_keyOf 28 = .ok (.aload_n 3, 1) := by decide +kernel
theorem dX0_keyOf_29 : decode cX0_keyOf 29 = .ok (.iload 5, 2) := by decide +kernel
theorem dX0_keyOf_31 : decode cX0_keyOf 31 = .ok (.iload 7, 2) := by decide +kernel
theorem dX0_keyOf_33 : decode cX0_keyOf 33 = .ok (.iadd, 1) := by decide +kernel
theorem dX0_keyOf_34 : decode cX0_keyOf 34 = .ok (.iconst 1, 1) := by decide +kernel
theorem dX0_keyOf_35 : decode cX0_keyOf 35 = .ok (.isub, 1) := by decide +kernel
theorem dX0_keyOf_36 : decode cX0_keyOf 36 = .ok (.invokevirtual 57, 3) := by decide +kernel
theorem dX0_keyOf_39 : decode cX0_keyOf 39 = .ok (.iadd, 1) := by decide +kernel
theorem dX0_keyOf_40 : decode cX0_keyOf 40 = .ok (.istore 8, 2) := by decide +kernel
theorem dX0_keyOf_42 : decode cX0_keyOf 42 = .ok (.aload_n 1, 1) := by decide +kernel
theorem dX0_keyOf_43 : decode cX0_keyOf 43 = .ok (.iload 4, 2) := by decide +kernel
theorem dX0_keyOf_45 : decode cX0_keyOf 45 = .ok (.iconst 1, 1) := by decide +kernel
theorem dX0_keyOf_46 : decode cX0_keyOf 46 = .ok (.isub, 1) := by decide +kernel
theorem dX0_keyOf_47 : decode cX0_keyOf 47 = .ok (.iload 5, 2) := by decide +kernel
theorem dX0_keyOf_49 : decode cX0_keyOf 49 = .ok (.iload 7, 2) := by decide +kernel
theorem dX0_keyOf_51 : decode cX0_keyOf 51 = .ok (.iadd, 1) := by decide +kernel
theorem dX0_keyOf_52 : decode cX0_keyOf 52 = .ok (.invokevirtual 61, 3) := by decide +kernel
theorem dX0_keyOf_55 : decode cX0_keyOf 55 = .ok (.iconst 1, 1) := by decide +kernel
theorem dX0_keyOf_56 : decode cX0_keyOf 56 = .ok (.iadd, 1) := by decide +kernel
theorem dX0_keyOf_57 : decode cX0_keyOf 57 = .ok (.istore 9, 2) := by decide +kernel
theorem dX0_keyOf_59 : decode cX0_keyOf 59 = .ok (.aload_n 1, 1) := by decide +kernel
theorem dX0_keyOf_60 : decode cX0_keyOf 60 = .ok (.iload 4, 2) := by decide +kernel
theorem dX0_keyOf_62 : decode cX0_keyOf 62 = .ok (.iload 7, 2) := by decide +kernel
theorem dX0_keyOf_64 : decode cX0_keyOf 64 = .ok (.iadd, 1) := by decide +kernel
theorem dX0_keyOf_65 : decode cX0_keyOf 65 = .ok (.iload 5, 2) := by decide +kernel
theorem dX0_keyOf_67 : decode cX0_keyOf 67 = .ok (.iconst 1, 1) := by decide +kernel
theorem dX0_keyOf_68 : decode cX0_keyOf 68 = .ok (.isub, 1) := by decide +kernel
theorem dX0_keyOf_69 : decode cX0_keyOf 69 = .ok (.invokevirtual 66, 3) := by decide +kernel
theorem dX0_keyOf_72 : decode cX0_keyOf 72 = .ok (.iconst 1, 1) := by decide +kernel
theorem dX0_keyOf_73 : decode cX0_keyOf 73 = .ok (.iadd, 1) := by decide +kernel
theorem dX0_keyOf_74 : decode cX0_keyOf 74 = .ok (.istore 10, 2) := by decide +kernel
theorem dX0_keyOf_76 : decode cX0_keyOf 76 = .ok (.iload 6, 2) := by decide +kernel
theorem dX0_keyOf_78 : decode cX0_keyOf 78 = .ok (.sipush 144, 3) := by decide +kernel
theorem dX0_keyOf_81 : decode cX0_keyOf 81 = .ok (.imul, 1) := by decide +kernel
theorem dX0_keyOf_82 : decode cX0_keyOf 82 = .ok (.iload 8, 2) := by decide +kernel
theorem dX0_keyOf_84 : decode cX0_keyOf 84 = .ok (.iconst 3, 1) := by decide +kernel
theorem dX0_keyOf_85 : decode cX0_keyOf 85 = .ok (.imul, 1) := by decide +kernel
theorem dX0_keyOf_86 : decode cX0_keyOf 86 = .ok (.iload 9, 2) := by decide +kernel
theorem dX0_keyOf_88 : decode cX0_keyOf 88 = .ok (.iadd, 1) := by decide +kernel
theorem dX0_keyOf_89 : decode cX0_keyOf 89 = .ok (.iconst 3, 1) := by decide +kernel
theorem dX0_keyOf_90 : decode cX0_keyOf 90 = .ok (.imul, 1) := by decide +kernel
theorem dX0_keyOf_91 : decode cX0_keyOf 91 = .ok (.iadd, 1) := by decide +kernel
theorem dX0_keyOf_92 : decode cX0_keyOf 92 = .ok (.iload 10, 2) := by decide +kernel
theorem dX0_keyOf_94 : decode cX0_keyOf 94 = .ok (.iadd, 1) := by decide +kernel
theorem dX0_keyOf_95 : decode cX0_keyOf 95 = .ok (.istore 6, 2) := by decide +kernel
theorem dX0_keyOf_97 : decode cX0_keyOf 97 = .ok (.iinc 7 1, 3) := by decide +kernel
theorem dX0_keyOf_100 : decode cX0_keyOf 100 = .ok (.goto (-94), 3) := by decide +kernel
theorem dX0_keyOf_103 : decode cX0_keyOf 103 = .ok (.iload 6, 2) := by decide +kernel
theorem dX0_keyOf_105 : decode cX0_keyOf 105 = .ok (.ireturn, 1) := by decide +kernel
theorem dX0_meet_0 : decode cX0_meet 0 = .ok (.iload_n 1, 1) := by decide +kernel
theorem dX0_meet_1 : decode cX0_meet 1 = .ok (.bipush 64, 2) := by decide +kernel
theorem dX0_meet_3 : decode cX0_meet 3 = .ok (.idiv, 1) := by decide +kernel
theorem dX0_meet_4 : decode cX0_meet 4 = .ok (.istore_n 2, 1) := by decide +kernel
theorem dX0_meet_5 : decode cX0_meet 5 = .ok (.iload_n 1, 1) := by decide +kernel
theorem dX0_meet_6 : decode cX0_meet 6 = .ok (.ifCond .lt 10, 3) := by decide +kernel
theorem dX0_meet_9 : decode cX0_meet 9 = .ok (.iload_n 2, 1) := by decide +kernel
theorem dX0_meet_10 : decode cX0_meet 10 = .ok (.sipush 324, 3) := by decide +kernel
theorem dX0_meet_13 : decode cX0_meet 13 = .ok (.if_icmp .lt 4, 3) := by decide +kernel
theorem dX0_meet_16 : decode cX0_meet 16 = .ok (.return_, 1) := by decide +kernel
theorem dX0_meet_17 : decode cX0_meet 17 = .ok (.lconst 1, 1) := by decide +kernel
theorem dX0_meet_18 : decode cX0_meet 18 = .ok (.iload_n 1, 1) := by decide +kernel
theorem dX0_meet_19 : decode cX0_meet 19 = .ok (.bipush 64, 2) := by decide +kernel
theorem dX0_meet_21 : decode cX0_meet 21 = .ok (.irem, 1) := by decide +kernel
theorem dX0_meet_22 : decode cX0_meet 22 = .ok (.lshl, 1) := by decide +kernel
theorem dX0_meet_23 : decode cX0_meet 23 = .ok (.lstore_n 3, 1) := by decide +kernel
theorem dX0_meet_24 : decode cX0_meet 24 = .ok (.aload_n 0, 1) := by decide +kernel
theorem dX0_meet_25 : decode cX0_meet 25 = .ok (.getfield 11, 3) := by decide +kernel
theorem dX0_meet_28 : decode cX0_meet 28 = .ok (.iload_n 2, 1) := by decide +kernel
theorem dX0_meet_29 : decode cX0_meet 29 = .ok (.laload, 1) := by decide +kernel
theorem dX0_meet_30 : decode cX0_meet 30 = .ok (.lload_n 3, 1) := by decide +kernel
theorem dX0_meet_31 : decode cX0_meet 31 = .ok (.land, 1) := by decide +kernel
theorem dX0_meet_32 : decode cX0_meet 32 = .ok (.lconst 0, 1) := by decide +kernel
theorem dX0_meet_33 : decode cX0_meet 33 = .ok (.lcmp, 1) := by decide +kernel
theorem dX0_meet_34 : decode cX0_meet 34 = .ok (.ifCond .eq 16, 3) := by decide +kernel
theorem dX0_meet_37 : decode cX0_meet 37 = .ok (.aload_n 0, 1) := by decide +kernel
theorem dX0_meet_38 : decode cX0_meet 38 = .ok (.dup, 1) := by decide +kernel
theorem dX0_meet_39 : decode cX0_meet 39 = .ok (.getfield 19, 3) := by decide +kernel
theorem dX0_meet_42 : decode cX0_meet 42 = .ok (.iconst 1, 1) := by decide +kernel
theorem dX0_meet_43 : decode cX0_meet 43 = .ok (.iadd, 1) := by decide +kernel
theorem dX0_meet_44 : decode cX0_meet 44 = .ok (.putfield 19, 3) := by decide +kernel
theorem dX0_meet_47 : decode cX0_meet 47 = .ok (.goto 27, 3) := by decide +kernel
theorem dX0_meet_50 : decode cX0_meet 50 = .ok (.aload_n 0, 1) := by decide +kernel
theorem dX0_meet_51 : decode cX0_meet 51 = .ok (.getfield 11, 3) := by decide +kernel
theorem dX0_meet_54 : decode cX0_meet 54 = .ok (.iload_n 2, 1) := by decide +kernel
theorem dX0_meet_55 : decode cX0_meet 55 = .ok (.aload_n 0, 1) := by decide +kernel
theorem dX0_meet_56 : decode cX0_meet 56 = .ok (.getfield 11, 3) := by decide +kernel
theorem dX0_meet_59 : decode cX0_meet 59 = .ok (.iload_n 2, 1) := by decide +kernel
theorem dX0_meet_60 : decode cX0_meet 60 = .ok (.laload, 1) := by decide +kernel
theorem dX0_meet_61 : decode cX0_meet 61 = .ok (.lload_n 3, 1) := by decide +kernel
theorem dX0_meet_62 : decode cX0_meet 62 = .ok (.lor, 1) := by decide +kernel
theorem dX0_meet_63 : decode cX0_meet 63 = .ok (.lastore, 1) := by decide +kernel
theorem dX0_meet_64 : decode cX0_meet 64 = .ok (.aload_n 0, 1) := by decide +kernel
theorem dX0_meet_65 : decode cX0_meet 65 = .ok (.dup, 1) := by decide +kernel
theorem dX0_meet_66 : decode cX0_meet 66 = .ok (.getfield 22, 3) := by decide +kernel
theorem dX0_meet_69 : decode cX0_meet 69 = .ok (.iconst 1, 1) := by decide +kernel
theorem dX0_meet_70 : decode cX0_meet 70 = .ok (.iadd, 1) := by decide +kernel
theorem dX0_meet_71 : decode cX0_meet 71 = .ok (.putfield 22, 3) := by decide +kernel
theorem dX0_meet_74 : decode cX0_meet 74 = .ok (.return_, 1) := by decide +kernel
theorem dX1_init_0 : decode cX1_init 0 = .ok (.aload_n 0, 1) := by decide +kernel
theorem dX1_init_1 : decode cX1_init 1 = .ok (.invokespecial 3, 3) := by decide +kernel
theorem dX1_init_4 : decode cX1_init 4 = .ok (.aload_n 0, 1) := by decide +kernel
theorem dX1_init_5 : decode cX1_init 5 = .ok (.sipush 441, 3) := by decide +kernel
theorem dX1_init_8 : decode cX1_init 8 = .ok (.newarray .int, 2) := by decide +kernel
theorem dX1_init_10 : decode cX1_init 10 = .ok (.putfield 11, 3) := by decide +kernel
theorem dX1_init_13 : decode cX1_init 13 = .ok (.return_, 1) := by decide +kernel
theorem dX1_at_0 : decode cX1_at 0 = .ok (.iload_n 1, 1) := by decide +kernel
theorem dX1_at_1 : decode cX1_at 1 = .ok (.iload_n 2, 1) := by decide +kernel
theorem dX1_at_2 : decode cX1_at 2 = .ok (.invokestatic 15, 3) := by decide +kernel
theorem dX1_at_5 : decode cX1_at 5 = .ok (.ifCond .eq 17, 3) := by decide +kernel
theorem dX1_at_8 : decode cX1_at 8 = .ok (.aload_n 0, 1) := by decide +kernel
theorem dX1_at_9 : decode cX1_at 9 = .ok (.getfield 11, 3) := by decide +kernel
theorem dX1_at_12 : decode cX1_at 12 = .ok (.iload_n 1, 1) := by decide +kernel
theorem dX1_at_13 : decode cX1_at 13 = .ok (.bipush 21, 2) := by decide +kernel
theorem dX1_at_15 : decode cX1_at 15 = .ok (.imul, 1) := by decide +kernel
theorem dX1_at_16 : decode cX1_at 16 = .ok (.iload_n 2, 1) := by decide +kernel
theorem dX1_at_17 : decode cX1_at 17 = .ok (.iadd, 1) := by decide +kernel
theorem dX1_at_18 : decode cX1_at 18 = .ok (.iaload, 1) := by decide +kernel
theorem dX1_at_19 : decode cX1_at 19 = .ok (.goto 4, 3) := by decide +kernel
theorem dX1_at_22 : decode cX1_at 22 = .ok (.iconst (-1), 1) := by decide +kernel
theorem dX1_at_23 : decode cX1_at 23 = .ok (.ireturn, 1) := by decide +kernel
theorem dX1_stepAcross_0 : decode cX1_stepAcross 0 = .ok (.aload_n 0, 1) := by decide +kernel
theorem dX1_stepAcross_1 : decode cX1_stepAcross 1 = .ok (.iload_n 1, 1) := by decide +kernel
theorem dX1_stepAcross_2 : decode cX1_stepAcross 2 = .ok (.iload_n 2, 1) := by decide +kernel
theorem dX1_stepAcross_3 : decode cX1_stepAcross 3 = .ok (.invokevirtual 19, 3) := by decide +kernel
theorem dX1_stepAcross_6 : decode cX1_stepAcross 6 = .ok (.aload_n 0, 1) := by decide +kernel
theorem dX1_stepAcross_7 : decode cX1_stepAcross 7 = .ok (.iload_n 1, 1) := by decide +kernel
theorem dX1_stepAcross_8 : decode cX1_stepAcross 8 = .ok (.iload_n 2, 1) := by decide +kernel
theorem dX1_stepAcross_9 : decode cX1_stepAcross 9 = .ok (.iconst 1, 1) := by decide +kernel
theorem dX1_stepAcross_10 : decode cX1_stepAcross 10 = .ok (.isub, 1) := by decide +kernel
theorem dX1_stepAcross_11 : decode cX1_stepAcross 11 = .ok (.invokevirtual 19, 3) := by decide +kernel
theorem dX1_stepAcross_14 : decode cX1_stepAcross 14 = .ok (.isub, 1) := by decide +kernel
theorem dX1_stepAcross_15 : decode cX1_stepAcross 15 = .ok (.ireturn, 1) := by decide +kernel
theorem dX1_stepDown_0 : decode cX1_stepDown 0 = .ok (.aload_n 0, 1) := by decide +kernel
theorem dX1_stepDown_1 : decode cX1_stepDown 1 = .ok (.iload_n 1, 1) := by decide +kernel
theorem dX1_stepDown_2 : decode cX1_stepDown 2 = .ok (.iload_n 2, 1) := by decide +kernel
theorem dX1_stepDown_3 : decode cX1_stepDown 3 = .ok (.invokevirtual 19, 3) := by decide +kernel
theorem dX1_stepDown_6 : decode cX1_stepDown 6 = .ok (.aload_n 0, 1) := by decide +kernel
theorem dX1_stepDown_7 : decode cX1_stepDown 7 = .ok (.iload_n 1, 1) := by decide +kernel
theorem dX1_stepDown_8 : decode cX1_stepDown 8 = .ok (.iconst 1, 1) := by decide +kernel
theorem dX1_stepDown_9 : decode cX1_stepDown 9 = .ok (.isub, 1) := by decide +kernel
theorem dX1_stepDown_10 : decode cX1_stepDown 10 = .ok (.iload_n 2, 1) := by decide +kernel
theorem dX1_stepDown_11 : decode cX1_stepDown 11 = .ok (.invokevirtual 19, 3) := by decide +kernel
theorem dX1_stepDown_14 : decode cX1_stepDown 14 = .ok (.isub, 1) := by decide +kernel
theorem dX1_stepDown_15 : decode cX1_stepDown 15 = .ok (.ireturn, 1) := by decide +kernel
theorem dX1_fill_0 : decode cX1_fill 0 = .ok (.iconst 0, 1) := by decide +kernel
theorem dX1_fill_1 : decode cX1_fill 1 = .ok (.istore 4, 2) := by decide +kernel
theorem dX1_fill_3 : decode cX1_fill 3 = .ok (.iload 4, 2) := by decide +kernel
theorem dX1_fill_5 : decode cX1_fill 5 = .ok (.aload_n 2, 1) := by decide +kernel
theorem dX1_fill_6 : decode cX1_fill 6 = .ok (.invokevirtual 23, 3) := by decide +kernel
theorem dX1_fill_9 : decode cX1_fill 9 = .ok (.if_icmp .gt 18, 3) := by decide +kernel
theorem dX1_fill_12 : decode cX1_fill 12 = .ok (.aload_n 0, 1) := by decide +kernel
theorem dX1_fill_13 : decode cX1_fill 13 = .ok (.iconst 0, 1) := by decide +kernel
theorem dX1_fill_14 : decode cX1_fill 14 = .ok (.iload 4, 2) := by decide +kernel
theorem dX1_fill_16 : decode cX1_fill 16 = .ok (.iload 4, 2) := by decide +kernel
theorem dX1_fill_18 : decode cX1_fill 18 = .ok (.invokevirtual 29, 3) := by decide +kernel
theorem dX1_fill_21 : decode cX1_fill 21 = .ok (.iinc 4 1, 3) := by decide +kernel
theorem dX1_fill_24 : decode cX1_fill 24 = .ok (.goto (-21), 3) := by decide +kernel
theorem dX1_fill_27 : decode cX1_fill 27 = .ok (.iconst 1, 1) := by decide +kernel
theorem dX1_fill_28 : decode cX1_fill 28 = .ok (.istore 4, 2) := by decide +kernel
theorem dX1_fill_30 : decode cX1_fill 30 = .ok (.iload 4, 2) := by decide +kernel
theorem dX1_fill_32 : decode cX1_fill 32 = .ok (.aload_n 1, 1) := by decide +kernel
theorem dX1_fill_33 : decode cX1_fill 33 = .ok (.invokevirtual 23, 3) := by decide +kernel
theorem dX1_fill_36 : decode cX1_fill 36 = .ok (.if_icmp .gt 104, 3) := by decide +kernel
theorem dX1_fill_39 : decode cX1_fill 39 = .ok (.aload_n 0, 1) := by decide +kernel
theorem dX1_fill_40 : decode cX1_fill 40 = .ok (.iload 4, 2) := by decide +kernel
theorem dX1_fill_42 : decode cX1_fill 42 = .ok (.iconst 0, 1) := by decide +kernel
theorem dX1_fill_43 : decode cX1_fill 43 = .ok (.iload 4, 2) := by decide +kernel
theorem dX1_fill_45 : decode cX1_fill 45 = .ok (.iload_n 3, 1) := by decide +kernel
theorem dX1_fill_46 : decode cX1_fill 46 = .ok (.imul, 1) := by decide +kernel
theorem dX1_fill_47 : decode cX1_fill 47 = .ok (.invokevirtual 29, 3) := by decide +kernel
theorem dX1_fill_50 : decode cX1_fill 50 = .ok (.iconst 1, 1) := by decide +kernel
theorem dX1_fill_51 : decode cX1_fill 51 = .ok (.istore 5, 2) := by decide +kernel
theorem dX1_fill_53 : decode cX1_fill 53 = .ok (.iload 5, 2) := by decide +kernel
theorem dX1_fill_55 : decode cX1_fill 55 = .ok (.aload_n 2, 1) := by decide +kernel
theorem dX1_fill_56 : decode cX1_fill 56 = .ok (.invokevirtual 23, 3) := by decide +kernel
theorem dX1_fill_59 : decode cX1_fill 59 = .ok (.if_icmp .gt 75, 3) := by decide +kernel
theorem dX1_fill_62 : decode cX1_fill 62 = .ok (.aload_n 1, 1) := by decide +kernel
theorem dX1_fill_63 : decode cX1_fill 63 = .ok (.iload 4, 2) := by decide +kernel
theorem dX1_fill_65 : decode cX1_fill 65 = .ok (.iconst 1, 1) := by decide +kernel
theorem dX1_fill_66 : decode cX1_fill 66 = .ok (.isub, 1) := by decide +kernel
theorem dX1_fill_67 : decode cX1_fill 67 = .ok (.invokevirtual 33, 3) := by decide +kernel
theorem dX1_fill_70 : decode cX1_fill 70 = .ok (.aload_n 2, 1) := by decide +kernel
theorem dX1_fill_71 : decode cX1_fill 71 = .ok (.iload 5, 2) := by decide +kernel
theorem dX1_fill_73 : decode cX1_fill 73 = .ok (.iconst 1, 1) := by decide +kernel
theorem dX1_fill_74 : decode cX1_fill 74 = .ok (.isub, 1) := by decide +kernel
theorem dX1_fill_75 : decode cX1_fill 75 = .ok (.invokevirtual 33, 3) := by decide +kernel
theorem dX1_fill_78 : decode cX1_fill 78 = .ok (.invokestatic 36, 3) := by decide +kernel
theorem dX1_fill_81 : decode cX1_fill 81 = .ok (.istore 6, 2) := by decide +kernel
theorem dX1_fill_83 : decode cX1_fill 83 = .ok (.aload_n 0, 1) := by decide +kernel
theorem dX1_fill_84 : decode cX1_fill 84 = .ok (.iload 4, 2) := by decide +kernel
theorem dX1_fill_86 : decode cX1_fill 86 = .ok (.iload 5, 2) := by decide +kernel
theorem dX1_fill_88 : decode cX1_fill 88 = .ok (.aload_n 0, 1) := by decide +kernel
theorem dX1_fill_89 : decode cX1_fill 89 = .ok (.iload 4, 2) := by decide +kernel
theorem dX1_fill_91 : decode cX1_fill 91 = .ok (.iconst 1, 1) := by decide +kernel
theorem dX1_fill_92 : decode cX1_fill 92 = .ok (.isub, 1) := by decide +kernel
theorem dX1_fill_93 : decode cX1_fill 93 = .ok (.iload 5, 2) := by decide +kernel
theorem dX1_fill_95 : decode cX1_fill 95 = .ok (.invokevirtual 19, 3) := by decide +kernel
theorem dX1_fill_98 : decode cX1_fill 98 = .ok (.aload_n 0, 1) := by decide +kernel
theorem dX1_fill_99 : decode cX1_fill 99 = .ok (.iload 4, 2) := by decide +kernel
theorem dX1_fill_101 : decode cX1_fill 101 = .ok (.iload 5, 2) := by decide +kernel
theorem dX1_fill_103 : decode cX1_fill 103 = .ok (.iconst 1, 1) := by decide +kernel
theorem dX1_fill_104 : decode cX1_fill 104 = .ok (.isub, 1) := by decide +kernel
theorem dX1_fill_105 : decode cX1_fill 105 = .ok (.invokevirtual 19, 3) := by decide +kernel
theorem dX1_fill_108 : decode cX1_fill 108 = .ok (.aload_n 0, 1) := by decide +kernel
theorem dX1_fill_109 : decode cX1_fill 109 = .ok (.iload 4, 2) := by decide +kernel
theorem dX1_fill_111 : decode cX1_fill 111 = .ok (.iconst 1, 1) := by decide +kernel
theorem dX1_fill_112 : decode cX1_fill 112 = .ok (.isub, 1) := by decide +kernel
theorem dX1_fill_113 : decode cX1_fill 113 = .ok (.iload 5, 2) := by decide +kernel
theorem dX1_fill_115 : decode cX1_fill 115 = .ok (.iconst 1, 1) := by decide +kernel
theorem dX1_fill_116 : decode cX1_fill 116 = .ok (.isub, 1) := by decide +kernel
theorem dX1_fill_117 : decode cX1_fill 117 = .ok (.invokevirtual 19, 3) := by decide +kernel
theorem dX1_fill_120 : decode cX1_fill 120 = .ok (.iload 6, 2) := by decide +kernel
theorem dX1_fill_122 : decode cX1_fill 122 = .ok (.invokestatic 39, 3) := by decide +kernel
theorem dX1_fill_125 : decode cX1_fill 125 = .ok (.invokevirtual 29, 3) := by decide +kernel
theorem dX1_fill_128 : decode cX1_fill 128 = .ok (.iinc 5 1, 3) := by decide +kernel
theorem dX1_fill_131 : decode cX1_fill 131 = .ok (.goto (-78), 3) := by decide +kernel
theorem dX1_fill_134 : decode cX1_fill 134 = .ok (.iinc 4 1, 3) := by decide +kernel
theorem dX1_fill_137 : decode cX1_fill 137 = .ok (.goto (-107), 3) := by decide +kernel
theorem dX1_fill_140 : decode cX1_fill 140 = .ok (.return_, 1) := by decide +kernel
theorem dX1_put_0 : decode cX1_put 0 = .ok (.iload_n 1, 1) := by decide +kernel
theorem dX1_put_1 : decode cX1_put 1 = .ok (.iload_n 2, 1) := by decide +kernel
theorem dX1_put_2 : decode cX1_put 2 = .ok (.invokestatic 15, 3) := by decide +kernel
theorem dX1_put_5 : decode cX1_put 5 = .ok (.ifCond .eq 15, 3) := by decide +kernel
theorem dX1_put_8 : decode cX1_put 8 = .ok (.aload_n 0, 1) := by decide +kernel
theorem dX1_put_9 : decode cX1_put 9 = .ok (.getfield 11, 3) := by decide +kernel
theorem dX1_put_12 : decode cX1_put 12 = .ok (.iload_n 1, 1) := by decide +kernel
theorem dX1_put_13 : decode cX1_put 13 = .ok (.bipush 21, 2) := by decide +kernel
theorem dX1_put_15 : decode cX1_put 15 = .ok (.imul, 1) := by decide +kernel
theorem dX1_put_16 : decode cX1_put 16 = .ok (.iload_n 2, 1) := by decide +kernel
theorem dX1_put_17 : decode cX1_put 17 = .ok (.iadd, 1) := by decide +kernel
theorem dX1_put_18 : decode cX1_put 18 = .ok (.iload_n 3, 1) := by decide +kernel
theorem dX1_put_19 : decode cX1_put 19 = .ok (.iastore, 1) := by decide +kernel
theorem dX1_put_20 : decode cX1_put 20 = .ok (.return_, 1) := by decide +kernel
theorem dX1_isInside_0 : decode cX1_isInside 0 = .ok (.iload_n 0, 1) := by decide +kernel
theorem dX1_isInside_1 : decode cX1_isInside 1 = .ok (.ifCond .lt 23, 3) := by decide +kernel
theorem dX1_isInside_4 : decode cX1_isInside 4 = .ok (.iload_n 0, 1) := by decide +kernel
theorem dX1_isInside_5 : decode cX1_isInside 5 = .ok (.bipush 21, 2) := by decide +kernel
theorem dX1_isInside_7 : decode cX1_isInside 7 = .ok (.if_icmp .ge 17, 3) := by decide +kernel
theorem dX1_isInside_10 : decode cX1_isInside 10 = .ok (.iload_n 1, 1) := by decide +kernel
theorem dX1_isInside_11 : decode cX1_isInside 11 = .ok (.ifCond .lt 13, 3) := by decide +kernel
theorem dX1_isInside_14 : decode cX1_isInside 14 = .ok (.iload_n 1, 1) := by decide +kernel
theorem dX1_isInside_15 : decode cX1_isInside 15 = .ok (.bipush 21, 2) := by decide +kernel
theorem dX1_isInside_17 : decode cX1_isInside 17 = .ok (.if_icmp .ge 7, 3) := by decide +kernel
theorem dX1_isInside_20 : decode cX1_isInside 20 = .ok (.iconst 1, 1) := by decide +kernel
theorem dX1_isInside_21 : decode cX1_isInside 21 = .ok (.goto 4, 3) := by decide +kernel
theorem dX1_isInside_24 : decode cX1_isInside 24 = .ok (.iconst 0, 1) := by decide +kernel
theorem dX1_isInside_25 : decode cX1_isInside 25 = .ok (.ireturn, 1) := by decide +kernel
theorem dX2_init_0 : decode cX2_init 0 = .ok (.aload_n 0, 1) := by decide +kernel
theorem dX2_init_1 : decode cX2_init 1 = .ok (.invokespecial 3, 3) := by decide +kernel
theorem dX2_init_4 : decode cX2_init 4 = .ok (.aload_n 0, 1) := by decide +kernel
theorem dX2_init_5 : decode cX2_init 5 = .ok (.bipush 60, 2) := by decide +kernel
theorem dX2_init_7 : decode cX2_init 7 = .ok (.newarray .int, 2) := by decide +kernel
theorem dX2_init_9 : decode cX2_init 9 = .ok (.putfield 9, 3) := by decide +kernel
theorem dX2_init_12 : decode cX2_init 12 = .ok (.aload_n 0, 1) := by decide +kernel
theorem dX2_init_13 : decode cX2_init 13 = .ok (.iconst 0, 1) := by decide +kernel
theorem dX2_init_14 : decode cX2_init 14 = .ok (.putfield 15, 3) := by decide +kernel
theorem dX2_init_17 : decode cX2_init 17 = .ok (.return_, 1) := by decide +kernel
theorem dX2_size_0 : decode cX2_size 0 = .ok (.aload_n 0, 1) := by decide +kernel
theorem dX2_size_1 : decode cX2_size 1 = .ok (.getfield 15, 3) := by decide +kernel
theorem dX2_size_4 : decode cX2_size 4 = .ok (.ireturn, 1) := by decide +kernel
theorem dX2_put_0 : decode cX2_put 0 = .ok (.aload_n 0, 1) := by decide +kernel
theorem dX2_put_1 : decode cX2_put 1 = .ok (.getfield 15, 3) := by decide +kernel
theorem dX2_put_4 : decode cX2_put 4 = .ok (.bipush 60, 2) := by decide +kernel
theorem dX2_put_6 : decode cX2_put 6 = .ok (.if_icmp .ge 23, 3) := by decide +kernel
theorem dX2_put_9 : decode cX2_put 9 = .ok (.aload_n 0, 1) := by decide +kernel
theorem dX2_put_10 : decode cX2_put 10 = .ok (.getfield 9, 3) := by decide +kernel
theorem dX2_put_13 : decode cX2_put 13 = .ok (.aload_n 0, 1) := by decide +kernel
theorem dX2_put_14 : decode cX2_put 14 = .ok (.getfield 15, 3) := by decide +kernel
theorem dX2_put_17 : decode cX2_put 17 = .ok (.iload_n 1, 1) := by decide +kernel
theorem dX2_put_18 : decode cX2_put 18 = .ok (.iastore, 1) := by decide +kernel
theorem dX2_put_19 : decode cX2_put 19 = .ok (.aload_n 0, 1) := by decide +kernel
theorem dX2_put_20 : decode cX2_put 20 = .ok (.dup, 1) := by decide +kernel
theorem dX2_put_21 : decode cX2_put 21 = .ok (.getfield 15, 3) := by decide +kernel
theorem dX2_put_24 : decode cX2_put 24 = .ok (.iconst 1, 1) := by decide +kernel
theorem dX2_put_25 : decode cX2_put 25 = .ok (.iadd, 1) := by decide +kernel
theorem dX2_put_26 : decode cX2_put 26 = .ok (.putfield 15, 3) := by decide +kernel
theorem dX2_put_29 : decode cX2_put 29 = .ok (.return_, 1) := by decide +kernel
theorem dX2_empty_0 : decode cX2_empty 0 = .ok (.aload_n 0, 1) := by decide +kernel
theorem dX2_empty_1 : decode cX2_empty 1 = .ok (.iconst 0, 1) := by decide +kernel
theorem dX2_empty_2 : decode cX2_empty 2 = .ok (.putfield 15, 3) := by decide +kernel
theorem dX2_empty_5 : decode cX2_empty 5 = .ok (.return_, 1) := by decide +kernel
theorem dX2_errorPlace_0 : decode cX2_errorPlace 0 = .ok (.iconst 0, 1) := by decide +kernel
theorem dX2_errorPlace_1 : decode cX2_errorPlace 1 = .ok (.istore_n 1, 1) := by decide +kernel
theorem dX2_errorPlace_2 : decode cX2_errorPlace 2 = .ok (.iconst 0, 1) := by decide +kernel
theorem dX2_errorPlace_3 : decode cX2_errorPlace 3 = .ok (.istore_n 2, 1) := by decide +kernel
theorem dX2_errorPlace_4 : decode cX2_errorPlace 4 = .ok (.iconst 0, 1) := by decide +kernel
theorem dX2_errorPlace_5 : decode cX2_errorPlace 5 = .ok (.istore_n 3, 1) := by decide +kernel
theorem dX2_errorPlace_6 : decode cX2_errorPlace 6 = .ok (.iload_n 3, 1) := by decide +kernel
theorem dX2_errorPlace_7 : decode cX2_errorPlace 7 = .ok (.aload_n 0, 1) := by decide +kernel
theorem dX2_errorPlace_8 : decode cX2_errorPlace 8 = .ok (.getfield 15, 3) := by decide +kernel
theorem dX2_errorPlace_11 : decode cX2_errorPlace 11 = .ok (.if_icmp .ge 57, 3) := by decide +kernel
theorem dX2_errorPlace_14 : decode cX2_errorPlace 14 = .ok (.aload_n 0, 1) := by decide +kernel
theorem dX2_errorPlace_15 : decode cX2_errorPlace 15 = .ok (.getfield 9, 3) := by decide +kernel
theorem dX2_errorPlace_18 : decode cX2_errorPlace 18 = .ok (.iload_n 3, 1) := by decide +kernel
theorem dX2_errorPlace_19 : decode cX2_errorPlace 19 = .ok (.iaload, 1) := by decide +kernel
theorem dX2_errorPlace_20 : decode cX2_errorPlace 20 = .ok (.bipush 124, 2) := by decide +kernel
theorem dX2_errorPlace_22 : decode cX2_errorPlace 22 = .ok (.if_icmp .ne 14, 3) := by decide +kernel
theorem dX2_errorPlace_25 : decode cX2_errorPlace 25 = .ok (.iload_n 2, 1) := by decide +kernel
theorem dX2_errorPlace_26 : decode cX2_errorPlace 26 = .ok (.ifCond .ne 10, 3) := by decide +kernel
theorem dX2_errorPlace_29 : decode cX2_errorPlace 29 = .ok (.iconst 1, 1) := by decide +kernel
theorem dX2_errorPlace_30 : decode cX2_errorPlace 30 = .ok (.istore_n 2, 1) := by decide +kernel
theorem dX2_errorPlace_31 : decode cX2_errorPlace 31 = .ok (.iconst 0, 1) := by decide +kernel
theorem dX2_errorPlace_32 : decode cX2_errorPlace 32 = .ok (.istore_n 1, 1) := by decide +kernel
theorem dX2_errorPlace_33 : decode cX2_errorPlace 33 = .ok (.goto 29, 3) := by decide +kernel
theorem dX2_errorPlace_36 : decode cX2_errorPlace 36 = .ok (.aload_n 0, 1) := by decide +kernel
theorem dX2_errorPlace_37 : decode cX2_errorPlace 37 = .ok (.getfield 9, 3) := by decide +kernel
theorem dX2_errorPlace_40 : decode cX2_errorPlace 40 = .ok (.iload_n 3, 1) := by decide +kernel
theorem dX2_errorPlace_41 : decode cX2_errorPlace 41 = .ok (.iaload, 1) := by decide +kernel
theorem dX2_errorPlace_42 : decode cX2_errorPlace 42 = .ok (.invokestatic 19, 3) := by decide +kernel
theorem dX2_errorPlace_45 : decode cX2_errorPlace 45 = .ok (.ifCond .eq 15, 3) := by decide +kernel
theorem dX2_errorPlace_48 : decode cX2_errorPlace 48 = .ok (.iload_n 1, 1) := by decide +kernel
theorem dX2_errorPlace_49 : decode cX2_errorPlace 49 = .ok (.bipush 20, 2) := by decide +kernel
theorem dX2_errorPlace_51 : decode cX2_errorPlace 51 = .ok (.if_icmp .ge 9, 3) := by decide +kernel
theorem dX2_errorPlace_54 : decode cX2_errorPlace 54 = .ok (.iinc 1 1, 3) := by decide +kernel
theorem dX2_errorPlace_57 : decode cX2_errorPlace 57 = .ok (.goto 5, 3) := by decide +kernel
theorem dX2_errorPlace_60 : decode cX2_errorPlace 60 = .ok (.iload_n 3, 1) := by decide +kernel
theorem dX2_errorPlace_61 : decode cX2_errorPlace 61 = .ok (.ireturn, 1) := by decide +kernel
theorem dX2_errorPlace_62 : decode cX2_errorPlace 62 = .ok (.iinc 3 1, 3) := by decide +kernel
theorem dX2_errorPlace_65 : decode cX2_errorPlace 65 = .ok (.goto (-59), 3) := by decide +kernel
theorem dX2_errorPlace_68 : decode cX2_errorPlace 68 = .ok (.aload_n 0, 1) := by decide +kernel
theorem dX2_errorPlace_69 : decode cX2_errorPlace 69 = .ok (.getfield 15, 3) := by decide +kernel
theorem dX2_errorPlace_72 : decode cX2_errorPlace 72 = .ok (.ireturn, 1) := by decide +kernel
theorem dX2_isComplete_0 : decode cX2_isComplete 0 = .ok (.aload_n 0, 1) := by decide +kernel
theorem dX2_isComplete_1 : decode cX2_isComplete 1 = .ok (.invokevirtual 23, 3) := by decide +kernel
theorem dX2_isComplete_4 : decode cX2_isComplete 4 = .ok (.aload_n 0, 1) := by decide +kernel
theorem dX2_isComplete_5 : decode cX2_isComplete 5 = .ok (.getfield 15, 3) := by decide +kernel
theorem dX2_isComplete_8 : decode cX2_isComplete 8 = .ok (.if_icmp .ne 18, 3) := by decide +kernel
theorem dX2_isComplete_11 : decode cX2_isComplete 11 = .ok (.aload_n 0, 1) := by decide +kernel
theorem dX2_isComplete_12 : decode cX2_isComplete 12 = .ok (.invokevirtual 27, 3) := by decide +kernel
theorem dX2_isComplete_15 : decode cX2_isComplete 15 = .ok (.aload_n 0, 1) := by decide +kernel
theorem dX2_isComplete_16 : decode cX2_isComplete 16 = .ok (.getfield 15, 3) := by decide +kernel
theorem dX2_isComplete_19 : decode cX2_isComplete 19 = .ok (.if_icmp .ge 7, 3) := by decide +kernel
theorem dX2_isComplete_22 : decode cX2_isComplete 22 = .ok (.iconst 1, 1) := by decide +kernel
theorem dX2_isComplete_23 : decode cX2_isComplete 23 = .ok (.goto 4, 3) := by decide +kernel
theorem dX2_isComplete_26 : decode cX2_isComplete 26 = .ok (.iconst 0, 1) := by decide +kernel
theorem dX2_isComplete_27 : decode cX2_isComplete 27 = .ok (.ireturn, 1) := by decide +kernel
theorem dX2_keepsTo_0 : decode cX2_keepsTo 0 = .ok (.iconst 0, 1) := by decide +kernel
theorem dX2_keepsTo_1 : decode cX2_keepsTo 1 = .ok (.istore_n 2, 1) := by decide +kernel
theorem dX2_keepsTo_2 : decode cX2_keepsTo 2 = .ok (.iload_n 2, 1) := by decide +kernel
theorem dX2_keepsTo_3 : decode cX2_keepsTo 3 = .ok (.aload_n 0, 1) := by decide +kernel
theorem dX2_keepsTo_4 : decode cX2_keepsTo 4 = .ok (.getfield 15, 3) := by decide +kernel
theorem dX2_keepsTo_7 : decode cX2_keepsTo 7 = .ok (.if_icmp .ge 35, 3) := by decide +kernel
theorem dX2_keepsTo_10 : decode cX2_keepsTo 10 = .ok (.aload_n 0, 1) := by decide +kernel
theorem dX2_keepsTo_11 : decode cX2_keepsTo 11 = .ok (.getfield 9, 3) := by decide +kernel
theorem dX2_keepsTo_14 : decode cX2_keepsTo 14 = .ok (.iload_n 2, 1) := by decide +kernel
theorem dX2_keepsTo_15 : decode cX2_keepsTo 15 = .ok (.iaload, 1) := by decide +kernel
theorem dX2_keepsTo_16 : decode cX2_keepsTo 16 = .ok (.bipush 124, 2) := by decide +kernel
theorem dX2_keepsTo_18 : decode cX2_keepsTo 18 = .ok (.if_icmp .eq 18, 3) := by decide +kernel
theorem dX2_keepsTo_21 : decode cX2_keepsTo 21 = .ok (.aload_n 0, 1) := by decide +kernel
theorem dX2_keepsTo_22 : decode cX2_keepsTo 22 = .ok (.getfield 9, 3) := by decide +kernel
theorem dX2_keepsTo_25 : decode cX2_keepsTo 25 = .ok (.iload_n 2, 1) := by decide +kernel
theorem dX2_keepsTo_26 : decode cX2_keepsTo 26 = .ok (.iaload, 1) := by decide +kernel
theorem dX2_keepsTo_27 : decode cX2_keepsTo 27 = .ok (.bipush 97, 2) := by decide +kernel
theorem dX2_keepsTo_29 : decode cX2_keepsTo 29 = .ok (.isub, 1) := by decide +kernel
theorem dX2_keepsTo_30 : decode cX2_keepsTo 30 = .ok (.iload_n 1, 1) := by decide +kernel
theorem dX2_keepsTo_31 : decode cX2_keepsTo 31 = .ok (.if_icmp .lt 5, 3) := by decide +kernel
theorem dX2_keepsTo_34 : decode cX2_keepsTo 34 = .ok (.iconst 0, 1) := by decide +kernel
theorem dX2_keepsTo_35 : decode cX2_keepsTo 35 = .ok (.ireturn, 1) := by decide +kernel
theorem dX2_keepsTo_36 : decode cX2_keepsTo 36 = .ok (.iinc 2 1, 3) := by decide +kernel
theorem dX2_keepsTo_39 : decode cX2_keepsTo 39 = .ok (.goto (-37), 3) := by decide +kernel
theorem dX2_keepsTo_42 : decode cX2_keepsTo 42 = .ok (.iconst 1, 1) := by decide +kernel
theorem dX2_keepsTo_43 : decode cX2_keepsTo 43 = .ok (.ireturn, 1) := by decide +kernel
theorem dX2_moveTo_0 : decode cX2_moveTo 0 = .ok (.aload_n 0, 1) := by decide +kernel
theorem dX2_moveTo_1 : decode cX2_moveTo 1 = .ok (.invokevirtual 27, 3) := by decide +kernel
theorem dX2_moveTo_4 : decode cX2_moveTo 4 = .ok (.istore_n 3, 1) := by decide +kernel
theorem dX2_moveTo_5 : decode cX2_moveTo 5 = .ok (.aload_n 1, 1) := by decide +kernel
theorem dX2_moveTo_6 : decode cX2_moveTo 6 = .ok (.invokevirtual 30, 3) := by decide +kernel
theorem dX2_moveTo_9 : decode cX2_moveTo 9 = .ok (.aload_n 2, 1) := by decide +kernel
theorem dX2_moveTo_10 : decode cX2_moveTo 10 = .ok (.invokevirtual 30, 3) := by decide +kernel
theorem dX2_moveTo_13 : decode cX2_moveTo 13 = .ok (.iconst 0, 1) := by decide +kernel
theorem dX2_moveTo_14 : decode cX2_moveTo 14 = .ok (.istore 4, 2) := by decide +kernel
theorem dX2_moveTo_16 : decode cX2_moveTo 16 = .ok (.iload 4, 2) := by decide +kernel
theorem dX2_moveTo_18 : decode cX2_moveTo 18 = .ok (.iload_n 3, 1) := by decide +kernel
theorem dX2_moveTo_19 : decode cX2_moveTo 19 = .ok (.if_icmp .ge 27, 3) := by decide +kernel
theorem dX2_moveTo_22 : decode cX2_moveTo 22 = .ok (.aload_n 1, 1) := by decide +kernel
theorem dX2_moveTo_23 : decode cX2_moveTo 23 = .ok (.aload_n 1, 1) := by decide +kernel
theorem dX2_moveTo_24 : decode cX2_moveTo 24 = .ok (.invokevirtual 35, 3) := by decide +kernel
theorem dX2_moveTo_27 : decode cX2_moveTo 27 = .ok (.aload_n 0, 1) := by decide +kernel
theorem dX2_moveTo_28 : decode cX2_moveTo 28 = .ok (.getfield 9, 3) := by decide +kernel
theorem dX2_moveTo_31 : decode cX2_moveTo 31 = .ok (.iload 4, 2) := by decide +kernel
theorem dX2_moveTo_33 : decode cX2_moveTo 33 = .ok (.iaload, 1) := by decide +kernel
theorem dX2_moveTo_34 : decode cX2_moveTo 34 = .ok (.bipush 97, 2) := by decide +kernel
theorem dX2_moveTo_36 : decode cX2_moveTo 36 = .ok (.isub, 1) := by decide +kernel
theorem dX2_moveTo_37 : decode cX2_moveTo 37 = .ok (.invokevirtual 37, 3) := by decide +kernel
theorem dX2_moveTo_40 : decode cX2_moveTo 40 = .ok (.iinc 4 1, 3) := by decide +kernel
theorem dX2_moveTo_43 : decode cX2_moveTo 43 = .ok (.goto (-27), 3) := by decide +kernel
theorem dX2_moveTo_46 : decode cX2_moveTo 46 = .ok (.iload_n 3, 1) := by decide +kernel
theorem dX2_moveTo_47 : decode cX2_moveTo 47 = .ok (.iconst 1, 1) := by decide +kernel
theorem dX2_moveTo_48 : decode cX2_moveTo 48 = .ok (.iadd, 1) := by decide +kernel
theorem dX2_moveTo_49 : decode cX2_moveTo 49 = .ok (.istore 4, 2) := by decide +kernel
theorem dX2_moveTo_51 : decode cX2_moveTo 51 = .ok (.iload 4, 2) := by decide +kernel
theorem dX2_moveTo_53 : decode cX2_moveTo 53 = .ok (.aload_n 0, 1) := by decide +kernel
theorem dX2_moveTo_54 : decode cX2_moveTo 54 = .ok (.getfield 15, 3) := by decide +kernel
theorem dX2_moveTo_57 : decode cX2_moveTo 57 = .ok (.if_icmp .ge 27, 3) := by decide +kernel
theorem dX2_moveTo_60 : decode cX2_moveTo 60 = .ok (.aload_n 2, 1) := by decide +kernel
theorem dX2_moveTo_61 : decode cX2_moveTo 61 = .ok (.aload_n 2, 1) := by decide +kernel
theorem dX2_moveTo_62 : decode cX2_moveTo 62 = .ok (.invokevirtual 35, 3) := by decide +kernel
theorem dX2_moveTo_65 : decode cX2_moveTo 65 = .ok (.aload_n 0, 1) := by decide +kernel
theorem dX2_moveTo_66 : decode cX2_moveTo 66 = .ok (.getfield 9, 3) := by decide +kernel
theorem dX2_moveTo_69 : decode cX2_moveTo 69 = .ok (.iload 4, 2) := by decide +kernel
theorem dX2_moveTo_71 : decode cX2_moveTo 71 = .ok (.iaload, 1) := by decide +kernel
theorem dX2_moveTo_72 : decode cX2_moveTo 72 = .ok (.bipush 97, 2) := by decide +kernel
theorem dX2_moveTo_74 : decode cX2_moveTo 74 = .ok (.isub, 1) := by decide +kernel
theorem dX2_moveTo_75 : decode cX2_moveTo 75 = .ok (.invokevirtual 37, 3) := by decide +kernel
theorem dX2_moveTo_78 : decode cX2_moveTo 78 = .ok (.iinc 4 1, 3) := by decide +kernel
theorem dX2_moveTo_81 : decode cX2_moveTo 81 = .ok (.goto (-30), 3) := by decide +kernel
theorem dX2_moveTo_84 : decode cX2_moveTo 84 = .ok (.aload_n 0, 1) := by decide +kernel
theorem dX2_moveTo_85 : decode cX2_moveTo 85 = .ok (.invokevirtual 41, 3) := by decide +kernel
theorem dX2_moveTo_88 : decode cX2_moveTo 88 = .ok (.return_, 1) := by decide +kernel
theorem dX2_barPlace_0 : decode cX2_barPlace 0 = .ok (.iconst 0, 1) := by decide +kernel
theorem dX2_barPlace_1 : decode cX2_barPlace 1 = .ok (.istore_n 1, 1) := by decide +kernel
theorem dX2_barPlace_2 : decode cX2_barPlace 2 = .ok (.iload_n 1, 1) := by decide +kernel
theorem dX2_barPlace_3 : decode cX2_barPlace 3 = .ok (.aload_n 0, 1) := by decide +kernel
theorem dX2_barPlace_4 : decode cX2_barPlace 4 = .ok (.getfield 15, 3) := by decide +kernel
theorem dX2_barPlace_7 : decode cX2_barPlace 7 = .ok (.if_icmp .ge 22, 3) := by decide +kernel
theorem dX2_barPlace_10 : decode cX2_barPlace 10 = .ok (.aload_n 0, 1) := by decide +kernel
theorem dX2_barPlace_11 : decode cX2_barPlace 11 = .ok (.getfield 9, 3) := by decide +kernel
theorem dX2_barPlace_14 : decode cX2_barPlace 14 = .ok (.iload_n 1, 1) := by decide +kernel
theorem dX2_barPlace_15 : decode cX2_barPlace 15 = .ok (.iaload, 1) := by decide +kernel
theorem dX2_barPlace_16 : decode cX2_barPlace 16 = .ok (.bipush 124, 2) := by decide +kernel
theorem dX2_barPlace_18 : decode cX2_barPlace 18 = .ok (.if_icmp .ne 5, 3) := by decide +kernel
theorem dX2_barPlace_21 : decode cX2_barPlace 21 = .ok (.iload_n 1, 1) := by decide +kernel
theorem dX2_barPlace_22 : decode cX2_barPlace 22 = .ok (.ireturn, 1) := by decide +kernel
theorem dX2_barPlace_23 : decode cX2_barPlace 23 = .ok (.iinc 1 1, 3) := by decide +kernel
theorem dX2_barPlace_26 : decode cX2_barPlace 26 = .ok (.goto (-24), 3) := by decide +kernel
theorem dX2_barPlace_29 : decode cX2_barPlace 29 = .ok (.aload_n 0, 1) := by decide +kernel
theorem dX2_barPlace_30 : decode cX2_barPlace 30 = .ok (.getfield 15, 3) := by decide +kernel
theorem dX2_barPlace_33 : decode cX2_barPlace 33 = .ok (.ireturn, 1) := by decide +kernel
theorem dX2_isLetter_0 : decode cX2_isLetter 0 = .ok (.iload_n 0, 1) := by decide +kernel
theorem dX2_isLetter_1 : decode cX2_isLetter 1 = .ok (.bipush 97, 2) := by decide +kernel
theorem dX2_isLetter_3 : decode cX2_isLetter 3 = .ok (.if_icmp .lt 13, 3) := by decide +kernel
theorem dX2_isLetter_6 : decode cX2_isLetter 6 = .ok (.iload_n 0, 1) := by decide +kernel
theorem dX2_isLetter_7 : decode cX2_isLetter 7 = .ok (.bipush 101, 2) := by decide +kernel
theorem dX2_isLetter_9 : decode cX2_isLetter 9 = .ok (.if_icmp .ge 7, 3) := by decide +kernel
theorem dX2_isLetter_12 : decode cX2_isLetter 12 = .ok (.iconst 1, 1) := by decide +kernel
theorem dX2_isLetter_13 : decode cX2_isLetter 13 = .ok (.goto 4, 3) := by decide +kernel
theorem dX2_isLetter_16 : decode cX2_isLetter 16 = .ok (.iconst 0, 1) := by decide +kernel
theorem dX2_isLetter_17 : decode cX2_isLetter 17 = .ok (.ireturn, 1) := by decide +kernel
theorem dX3_init_0 : decode cX3_init 0 = .ok (.aload_n 0, 1) := by decide +kernel
theorem dX3_init_1 : decode cX3_init 1 = .ok (.invokespecial 3, 3) := by decide +kernel
theorem dX3_init_4 : decode cX3_init 4 = .ok (.aload_n 0, 1) := by decide +kernel
theorem dX3_init_5 : decode cX3_init 5 = .ok (.new 9, 3) := by decide +kernel
theorem dX3_init_8 : decode cX3_init 8 = .ok (.dup, 1) := by decide +kernel
theorem dX3_init_9 : decode cX3_init 9 = .ok (.invokespecial 11, 3) := by decide +kernel
theorem dX3_init_12 : decode cX3_init 12 = .ok (.putfield 12, 3) := by decide +kernel
theorem dX3_init_15 : decode cX3_init 15 = .ok (.aload_n 0, 1) := by decide +kernel
theorem dX3_init_16 : decode cX3_init 16 = .ok (.new 9, 3) := by decide +kernel
theorem dX3_init_19 : decode cX3_init 19 = .ok (.dup, 1) := by decide +kernel
theorem dX3_init_20 : decode cX3_init 20 = .ok (.invokespecial 11, 3) := by decide +kernel
theorem dX3_init_23 : decode cX3_init 23 = .ok (.putfield 18, 3) := by decide +kernel
theorem dX3_init_26 : decode cX3_init 26 = .ok (.aload_n 0, 1) := by decide +kernel
theorem dX3_init_27 : decode cX3_init 27 = .ok (.new 21, 3) := by decide +kernel
theorem dX3_init_30 : decode cX3_init 30 = .ok (.dup, 1) := by decide +kernel
theorem dX3_init_31 : decode cX3_init 31 = .ok (.invokespecial 23, 3) := by decide +kernel
theorem dX3_init_34 : decode cX3_init 34 = .ok (.putfield 24, 3) := by decide +kernel
theorem dX3_init_37 : decode cX3_init 37 = .ok (.aload_n 0, 1) := by decide +kernel
theorem dX3_init_38 : decode cX3_init 38 = .ok (.new 21, 3) := by decide +kernel
theorem dX3_init_41 : decode cX3_init 41 = .ok (.dup, 1) := by decide +kernel
theorem dX3_init_42 : decode cX3_init 42 = .ok (.invokespecial 23, 3) := by decide +kernel
theorem dX3_init_45 : decode cX3_init 45 = .ok (.putfield 28, 3) := by decide +kernel
theorem dX3_init_48 : decode cX3_init 48 = .ok (.return_, 1) := by decide +kernel
theorem dX3_prepare_0 : decode cX3_prepare 0 = .ok (.aload_n 0, 1) := by decide +kernel
theorem dX3_prepare_1 : decode cX3_prepare 1 = .ok (.getfield 12, 3) := by decide +kernel
theorem dX3_prepare_4 : decode cX3_prepare 4 = .ok (.aload_n 1, 1) := by decide +kernel
theorem dX3_prepare_5 : decode cX3_prepare 5 = .ok (.aload_n 2, 1) := by decide +kernel
theorem dX3_prepare_6 : decode cX3_prepare 6 = .ok (.iconst 1, 1) := by decide +kernel
theorem dX3_prepare_7 : decode cX3_prepare 7 = .ok (.invokevirtual 31, 3) := by decide +kernel
theorem dX3_prepare_10 : decode cX3_prepare 10 = .ok (.aload_n 0, 1) := by decide +kernel
theorem dX3_prepare_11 : decode cX3_prepare 11 = .ok (.getfield 24, 3) := by decide +kernel
theorem dX3_prepare_14 : decode cX3_prepare 14 = .ok (.aload_n 1, 1) := by decide +kernel
theorem dX3_prepare_15 : decode cX3_prepare 15 = .ok (.invokevirtual 35, 3) := by decide +kernel
theorem dX3_prepare_18 : decode cX3_prepare 18 = .ok (.aload_n 0, 1) := by decide +kernel
theorem dX3_prepare_19 : decode cX3_prepare 19 = .ok (.getfield 28, 3) := by decide +kernel
theorem dX3_prepare_22 : decode cX3_prepare 22 = .ok (.aload_n 2, 1) := by decide +kernel
theorem dX3_prepare_23 : decode cX3_prepare 23 = .ok (.invokevirtual 35, 3) := by decide +kernel
theorem dX3_prepare_26 : decode cX3_prepare 26 = .ok (.aload_n 0, 1) := by decide +kernel
theorem dX3_prepare_27 : decode cX3_prepare 27 = .ok (.getfield 18, 3) := by decide +kernel
theorem dX3_prepare_30 : decode cX3_prepare 30 = .ok (.aload_n 0, 1) := by decide +kernel
theorem dX3_prepare_31 : decode cX3_prepare 31 = .ok (.getfield 24, 3) := by decide +kernel
theorem dX3_prepare_34 : decode cX3_prepare 34 = .ok (.aload_n 0, 1) := by decide +kernel
theorem dX3_prepare_35 : decode cX3_prepare 35 = .ok (.getfield 28, 3) := by decide +kernel
theorem dX3_prepare_38 : decode cX3_prepare 38 = .ok (.iconst 1, 1) := by decide +kernel
theorem dX3_prepare_39 : decode cX3_prepare 39 = .ok (.invokevirtual 31, 3) := by decide +kernel
theorem dX3_prepare_42 : decode cX3_prepare 42 = .ok (.return_, 1) := by decide +kernel
theorem dX3_distanceWith_0 : decode cX3_distanceWith 0 = .ok (.aload_n 2, 1) := by decide +kernel
theorem dX3_distanceWith_1 : decode cX3_distanceWith 1 = .ok (.invokevirtual 39, 3) := by decide +kernel
theorem dX3_distanceWith_4 : decode cX3_distanceWith 4 = .ok (.istore 5, 2) := by decide +kernel
theorem dX3_distanceWith_6 : decode cX3_distanceWith 6 = .ok (.aload_n 1, 1) := by decide +kernel
theorem dX3_distanceWith_7 : decode cX3_distanceWith 7 = .ok (.invokevirtual 39, 3) := by decide +kernel
theorem dX3_distanceWith_10 : decode cX3_distanceWith 10 = .ok (.iload_n 3, 1) := by decide +kernel
theorem dX3_distanceWith_11 : decode cX3_distanceWith 11 = .ok (.isub, 1) := by decide +kernel
theorem dX3_distanceWith_12 : decode cX3_distanceWith 12 = .ok (.iconst 1, 1) := by decide +kernel
theorem dX3_distanceWith_13 : decode cX3_distanceWith 13 = .ok (.isub, 1) := by decide +kernel
theorem dX3_distanceWith_14 : decode cX3_distanceWith 14 = .ok (.istore 6, 2) := by decide +kernel
theorem dX3_distanceWith_16 : decode cX3_distanceWith 16 = .ok (.iload_n 3, 1) := by decide +kernel
theorem dX3_distanceWith_17 : decode cX3_distanceWith 17 = .ok (.iconst 1, 1) := by decide +kernel
theorem dX3_distanceWith_18 : decode cX3_distanceWith 18 = .ok (.iadd, 1) := by decide +kernel
theorem dX3_distanceWith_19 : decode cX3_distanceWith 19 = .ok (.istore 7, 2) := by decide +kernel
theorem dX3_distanceWith_21 : decode cX3_distanceWith 21 = .ok (.iload 7, 2) := by decide +kernel
theorem dX3_distanceWith_23 : decode cX3_distanceWith 23 = .ok (.aload_n 0, 1) := by decide +kernel
theorem dX3_distanceWith_24 : decode cX3_distanceWith 24 = .ok (.getfield 18, 3) := by decide +kernel
theorem dX3_distanceWith_27 : decode cX3_distanceWith 27 = .ok (.iload 6, 2) := by decide +kernel
theorem dX3_distanceWith_29 : decode cX3_distanceWith 29 = .ok (.iload 5, 2) := by decide +kernel
theorem dX3_distanceWith_31 : decode cX3_distanceWith 31 = .ok (.invokevirtual 43, 3) := by decide +kernel
theorem dX3_distanceWith_34 : decode cX3_distanceWith 34 = .ok (.iadd, 1) := by decide +kernel
theorem dX3_distanceWith_35 : decode cX3_distanceWith 35 = .ok (.istore 8, 2) := by decide +kernel
theorem dX3_distanceWith_37 : decode cX3_distanceWith 37 = .ok (.iconst 1, 1) := by decide +kernel
theorem dX3_distanceWith_38 : decode cX3_distanceWith 38 = .ok (.istore 9, 2) := by decide +kernel
theorem dX3_distanceWith_40 : decode cX3_distanceWith 40 = .ok (.iload 9, 2) := by decide +kernel
theorem dX3_distanceWith_42 : decode cX3_distanceWith 42 = .ok (.iload 5, 2) := by decide +kernel
theorem dX3_distanceWith_44 : decode cX3_distanceWith 44 = .ok (.if_icmp .gt 79, 3) := by decide +kernel
theorem dX3_distanceWith_47 : decode cX3_distanceWith 47 = .ok (.iload 4, 2) := by decide +kernel
theorem dX3_distanceWith_49 : decode cX3_distanceWith 49 = .ok (.aload_n 2, 1) := by decide +kernel
theorem dX3_distanceWith_50 : decode cX3_distanceWith 50 = .ok (.iload 9, 2) := by decide +kernel
theorem dX3_distanceWith_52 : decode cX3_distanceWith 52 = .ok (.iconst 1, 1) := by decide +kernel
theorem dX3_distanceWith_53 : decode cX3_distanceWith 53 = .ok (.isub, 1) := by decide +kernel
theorem dX3_distanceWith_54 : decode cX3_distanceWith 54 = .ok (.invokevirtual 47, 3) := by decide +kernel
theorem dX3_distanceWith_57 : decode cX3_distanceWith 57 = .ok (.invokestatic 50, 3) := by decide +kernel
theorem dX3_distanceWith_60 : decode cX3_distanceWith 60 = .ok (.istore 10, 2) := by decide +kernel
theorem dX3_distanceWith_62 : decode cX3_distanceWith 62 = .ok (.aload_n 0, 1) := by decide +kernel
theorem dX3_distanceWith_63 : decode cX3_distanceWith 63 = .ok (.getfield 12, 3) := by decide +kernel
theorem dX3_distanceWith_66 : decode cX3_distanceWith 66 = .ok (.iload_n 3, 1) := by decide +kernel
theorem dX3_distanceWith_67 : decode cX3_distanceWith 67 = .ok (.iload 9, 2) := by decide +kernel
theorem dX3_distanceWith_69 : decode cX3_distanceWith 69 = .ok (.invokevirtual 43, 3) := by decide +kernel
theorem dX3_distanceWith_72 : decode cX3_distanceWith 72 = .ok (.iload 7, 2) := by decide +kernel
theorem dX3_distanceWith_74 : decode cX3_distanceWith 74 = .ok (.aload_n 0, 1) := by decide +kernel
theorem dX3_distanceWith_75 : decode cX3_distanceWith 75 = .ok (.getfield 12, 3) := by decide +kernel
theorem dX3_distanceWith_78 : decode cX3_distanceWith 78 = .ok (.iload_n 3, 1) := by decide +kernel
theorem dX3_distanceWith_79 : decode cX3_distanceWith 79 = .ok (.iload 9, 2) := by decide +kernel
theorem dX3_distanceWith_81 : decode cX3_distanceWith 81 = .ok (.iconst 1, 1) := by decide +kernel
theorem dX3_distanceWith_82 : decode cX3_distanceWith 82 = .ok (.isub, 1) := by decide +kernel
theorem dX3_distanceWith_83 : decode cX3_distanceWith 83 = .ok (.invokevirtual 43, 3) := by decide +kernel
theorem dX3_distanceWith_86 : decode cX3_distanceWith 86 = .ok (.iload 10, 2) := by decide +kernel
theorem dX3_distanceWith_88 : decode cX3_distanceWith 88 = .ok (.invokestatic 53, 3) := by decide +kernel
theorem dX3_distanceWith_91 : decode cX3_distanceWith 91 = .ok (.istore 7, 2) := by decide +kernel
theorem dX3_distanceWith_93 : decode cX3_distanceWith 93 = .ok (.iload 8, 2) := by decide +kernel
theorem dX3_distanceWith_95 : decode cX3_distanceWith 95 = .ok (.iload 7, 2) := by decide +kernel
theorem dX3_distanceWith_97 : decode cX3_distanceWith 97 = .ok (.aload_n 0, 1) := by decide +kernel
theorem dX3_distanceWith_98 : decode cX3_distanceWith 98 = .ok (.getfield 18, 3) := by decide +kernel
theorem dX3_distanceWith_101 : decode cX3_distanceWith 101 = .ok (.iload 6, 2) := by decide +kernel
theorem dX3_distanceWith_103 : decode cX3_distanceWith 103 = .ok (.iload 5, 2) := by decide +kernel
theorem dX3_distanceWith_105 : decode cX3_distanceWith 105 = .ok (.iload 9, 2) := by decide +kernel
theorem dX3_distanceWith_107 : decode cX3_distanceWith 107 = .ok (.isub, 1) := by decide +kernel
theorem dX3_distanceWith_108 : decode cX3_distanceWith 108 = .ok (.invokevirtual 43, 3) := by decide +kernel
theorem dX3_distanceWith_111 : decode cX3_distanceWith 111 = .ok (.iadd, 1) := by decide +kernel
theorem dX3_distanceWith_112 : decode cX3_distanceWith 112 = .ok (.invokestatic 57, 3) := by decide +kernel
theorem dX3_distanceWith_115 : decode cX3_distanceWith 115 = .ok (.istore 8, 2) := by decide +kernel
theorem dX3_distanceWith_117 : decode cX3_distanceWith 117 = .ok (.iinc 9 1, 3) := by decide +kernel
theorem dX3_distanceWith_120 : decode cX3_distanceWith 120 = .ok (.goto (-80), 3) := by decide +kernel
theorem dX3_distanceWith_123 : decode cX3_distanceWith 123 = .ok (.iload 8, 2) := by decide +kernel
theorem dX3_distanceWith_125 : decode cX3_distanceWith 125 = .ok (.ireturn, 1) := by decide +kernel
theorem dX4_init_0 : decode cX4_init 0 = .ok (.aload_n 0, 1) := by decide +kernel
theorem dX4_init_1 : decode cX4_init 1 = .ok (.invokespecial 3, 3) := by decide +kernel
theorem dX4_init_4 : decode cX4_init 4 = .ok (.aload_n 0, 1) := by decide +kernel
theorem dX4_init_5 : decode cX4_init 5 = .ok (.bipush 6, 2) := by decide +kernel
theorem dX4_init_7 : decode cX4_init 7 = .ok (.anewarray 9, 3) := by decide +kernel
theorem dX4_init_10 : decode cX4_init 10 = .ok (.putfield 11, 3) := by decide +kernel
theorem dX4_init_13 : decode cX4_init 13 = .ok (.aload_n 0, 1) := by decide +kernel
theorem dX4_init_14 : decode cX4_init 14 = .ok (.iconst 0, 1) := by decide +kernel
theorem dX4_init_15 : decode cX4_init 15 = .ok (.putfield 17, 3) := by decide +kernel
theorem dX4_init_18 : decode cX4_init 18 = .ok (.aload_n 0, 1) := by decide +kernel
theorem dX4_init_19 : decode cX4_init 19 = .ok (.iconst 0, 1) := by decide +kernel
theorem dX4_init_20 : decode cX4_init 20 = .ok (.putfield 21, 3) := by decide +kernel
theorem dX4_init_23 : decode cX4_init 23 = .ok (.return_, 1) := by decide +kernel
theorem dX4_size_0 : decode cX4_size 0 = .ok (.aload_n 0, 1) := by decide +kernel
theorem dX4_size_1 : decode cX4_size 1 = .ok (.getfield 21, 3) := by decide +kernel
theorem dX4_size_4 : decode cX4_size 4 = .ok (.ireturn, 1) := by decide +kernel
theorem dX4_save_0 : decode cX4_save 0 = .ok (.aload_n 0, 1) := by decide +kernel
theorem dX4_save_1 : decode cX4_save 1 = .ok (.getfield 21, 3) := by decide +kernel
theorem dX4_save_4 : decode cX4_save 4 = .ok (.bipush 6, 2) := by decide +kernel
theorem dX4_save_6 : decode cX4_save 6 = .ok (.if_icmp .lt 26, 3) := by decide +kernel
theorem dX4_save_9 : decode cX4_save 9 = .ok (.aload_n 0, 1) := by decide +kernel
theorem dX4_save_10 : decode cX4_save 10 = .ok (.aload_n 0, 1) := by decide +kernel
theorem dX4_save_11 : decode cX4_save 11 = .ok (.getfield 17, 3) := by decide +kernel
theorem dX4_save_14 : decode cX4_save 14 = .ok (.iconst 1, 1) := by decide +kernel
theorem dX4_save_15 : decode cX4_save 15 = .ok (.iadd, 1) := by decide +kernel
theorem dX4_save_16 : decode cX4_save 16 = .ok (.bipush 6, 2) := by decide +kernel
theorem dX4_save_18 : decode cX4_save 18 = .ok (.irem, 1) := by decide +kernel
theorem dX4_save_19 : decode cX4_save 19 = .ok (.putfield 17, 3) := by decide +kernel
theorem dX4_save_22 : decode cX4_save 22 = .ok (.aload_n 0, 1) := by decide +kernel
theorem dX4_save_23 : decode cX4_save 23 = .ok (.dup, 1) := by decide +kernel
theorem dX4_save_24 : decode cX4_save 24 = .ok (.getfield 21, 3) := by decide +kernel
theorem dX4_save_27 : decode cX4_save 27 = .ok (.iconst 1, 1) := by decide +kernel
theorem dX4_save_28 : decode cX4_save 28 = .ok (.isub, 1) := by decide +kernel
theorem dX4_save_29 : decode cX4_save 29 = .ok (.putfield 21, 3) := by decide +kernel
theorem dX4_save_32 : decode cX4_save 32 = .ok (.aload_n 0, 1) := by decide +kernel
theorem dX4_save_33 : decode cX4_save 33 = .ok (.getfield 17, 3) := by decide +kernel
theorem dX4_save_36 : decode cX4_save 36 = .ok (.aload_n 0, 1) := by decide +kernel
theorem dX4_save_37 : decode cX4_save 37 = .ok (.getfield 21, 3) := by decide +kernel
theorem dX4_save_40 : decode cX4_save 40 = .ok (.iadd, 1) := by decide +kernel
theorem dX4_save_41 : decode cX4_save 41 = .ok (.bipush 6, 2) := by decide +kernel
theorem dX4_save_43 : decode cX4_save 43 = .ok (.irem, 1) := by decide +kernel
theorem dX4_save_44 : decode cX4_save 44 = .ok (.istore_n 2, 1) := by decide +kernel
theorem dX4_save_45 : decode cX4_save 45 = .ok (.aload_n 0, 1) := by decide +kernel
theorem dX4_save_46 : decode cX4_save 46 = .ok (.getfield 11, 3) := by decide +kernel
theorem dX4_save_49 : decode cX4_save 49 = .ok (.iload_n 2, 1) := by decide +kernel
theorem dX4_save_50 : decode cX4_save 50 = .ok (.aaload, 1) := by decide +kernel
theorem dX4_save_51 : decode cX4_save 51 = .ok (.ifnonnull 16, 3) := by decide +kernel
theorem dX4_save_54 : decode cX4_save 54 = .ok (.aload_n 0, 1) := by decide +kernel
theorem dX4_save_55 : decode cX4_save 55 = .ok (.getfield 11, 3) := by decide +kernel
theorem dX4_save_58 : decode cX4_save 58 = .ok (.iload_n 2, 1) := by decide +kernel
theorem dX4_save_59 : decode cX4_save 59 = .ok (.new 9, 3) := by decide +kernel
theorem dX4_save_62 : decode cX4_save 62 = .ok (.dup, 1) := by decide +kernel
theorem dX4_save_63 : decode cX4_save 63 = .ok (.invokespecial 24, 3) := by decide +kernel
theorem dX4_save_66 : decode cX4_save 66 = .ok (.aastore, 1) := by decide +kernel
theorem dX4_save_67 : decode cX4_save 67 = .ok (.aload_n 0, 1) := by decide +kernel
theorem dX4_save_68 : decode cX4_save 68 = .ok (.getfield 11, 3) := by decide +kernel
theorem dX4_save_71 : decode cX4_save 71 = .ok (.iload_n 2, 1) := by decide +kernel
theorem dX4_save_72 : decode cX4_save 72 = .ok (.aaload, 1) := by decide +kernel
theorem dX4_save_73 : decode cX4_save 73 = .ok (.aload_n 1, 1) := by decide +kernel
theorem dX4_save_74 : decode cX4_save 74 = .ok (.invokevirtual 25, 3) := by decide +kernel
theorem dX4_save_77 : decode cX4_save 77 = .ok (.aload_n 0, 1) := by decide +kernel
theorem dX4_save_78 : decode cX4_save 78 = .ok (.dup, 1) := by decide +kernel
theorem dX4_save_79 : decode cX4_save 79 = .ok (.getfield 21, 3) := by decide +kernel
theorem dX4_save_82 : decode cX4_save 82 = .ok (.iconst 1, 1) := by decide +kernel
theorem dX4_save_83 : decode cX4_save 83 = .ok (.iadd, 1) := by decide +kernel
theorem dX4_save_84 : decode cX4_save 84 = .ok (.putfield 21, 3) := by decide +kernel
theorem dX4_save_87 : decode cX4_save 87 = .ok (.return_, 1) := by decide +kernel
theorem dX4_restore_0 : decode cX4_restore 0 = .ok (.aload_n 0, 1) := by decide +kernel
theorem dX4_restore_1 : decode cX4_restore 1 = .ok (.getfield 21, 3) := by decide +kernel
theorem dX4_restore_4 : decode cX4_restore 4 = .ok (.ifCond .gt 4, 3) := by decide +kernel
theorem dX4_restore_7 : decode cX4_restore 7 = .ok (.return_, 1) := by decide +kernel
theorem dX4_restore_8 : decode cX4_restore 8 = .ok (.aload_n 0, 1) := by decide +kernel
theorem dX4_restore_9 : decode cX4_restore 9 = .ok (.dup, 1) := by decide +kernel
theorem dX4_restore_10 : decode cX4_restore 10 = .ok (.getfield 21, 3) := by decide +kernel
theorem dX4_restore_13 : decode cX4_restore 13 = .ok (.iconst 1, 1) := by decide +kernel
theorem dX4_restore_14 : decode cX4_restore 14 = .ok (.isub, 1) := by decide +kernel
theorem dX4_restore_15 : decode cX4_restore 15 = .ok (.putfield 21, 3) := by decide +kernel
theorem dX4_restore_18 : decode cX4_restore 18 = .ok (.aload_n 0, 1) := by decide +kernel
theorem dX4_restore_19 : decode cX4_restore 19 = .ok (.getfield 11, 3) := by decide +kernel
theorem dX4_restore_22 : decode cX4_restore 22 = .ok (.aload_n 0, 1) := by decide +kernel
theorem dX4_restore_23 : decode cX4_restore 23 = .ok (.getfield 17, 3) := by decide +kernel
theorem dX4_restore_26 : decode cX4_restore 26 = .ok (.aload_n 0, 1) := by decide +kernel
theorem dX4_restore_27 : decode cX4_restore 27 = .ok (.getfield 21, 3) := by decide +kernel
theorem dX4_restore_30 : decode cX4_restore 30 = .ok (.iadd, 1) := by decide +kernel
theorem dX4_restore_31 : decode cX4_restore 31 = .ok (.bipush 6, 2) := by decide +kernel
theorem dX4_restore_33 : decode cX4_restore 33 = .ok (.irem, 1) := by decide +kernel
theorem dX4_restore_34 : decode cX4_restore 34 = .ok (.aaload, 1) := by decide +kernel
theorem dX4_restore_35 : decode cX4_restore 35 = .ok (.astore_n 2, 1) := by decide +kernel
theorem dX4_restore_36 : decode cX4_restore 36 = .ok (.aload_n 2, 1) := by decide +kernel
theorem dX4_restore_37 : decode cX4_restore 37 = .ok (.ifnull 8, 3) := by decide +kernel
theorem dX4_restore_40 : decode cX4_restore 40 = .ok (.aload_n 1, 1) := by decide +kernel
theorem dX4_restore_41 : decode cX4_restore 41 = .ok (.aload_n 2, 1) := by decide +kernel
theorem dX4_restore_42 : decode cX4_restore 42 = .ok (.invokevirtual 25, 3) := by decide +kernel
theorem dX4_restore_45 : decode cX4_restore 45 = .ok (.return_, 1) := by decide +kernel
theorem dX5_init_0 : decode cX5_init 0 = .ok (.aload_n 0, 1) := by decide +kernel
theorem dX5_init_1 : decode cX5_init 1 = .ok (.invokespecial 3, 3) := by decide +kernel
theorem dX5_init_4 : decode cX5_init 4 = .ok (.aload_n 0, 1) := by decide +kernel
theorem dX5_init_5 : decode cX5_init 5 = .ok (.new 9, 3) := by decide +kernel
theorem dX5_init_8 : decode cX5_init 8 = .ok (.dup, 1) := by decide +kernel
theorem dX5_init_9 : decode cX5_init 9 = .ok (.invokespecial 11, 3) := by decide +kernel
theorem dX5_init_12 : decode cX5_init 12 = .ok (.putfield 12, 3) := by decide +kernel
theorem dX5_init_15 : decode cX5_init 15 = .ok (.aload_n 0, 1) := by decide +kernel
theorem dX5_init_16 : decode cX5_init 16 = .ok (.new 9, 3) := by decide +kernel
theorem dX5_init_19 : decode cX5_init 19 = .ok (.dup, 1) := by decide +kernel
theorem dX5_init_20 : decode cX5_init 20 = .ok (.invokespecial 11, 3) := by decide +kernel
theorem dX5_init_23 : decode cX5_init 23 = .ok (.putfield 18, 3) := by decide +kernel
theorem dX5_init_26 : decode cX5_init 26 = .ok (.aload_n 0, 1) := by decide +kernel
theorem dX5_init_27 : decode cX5_init 27 = .ok (.iconst 4, 1) := by decide +kernel
theorem dX5_init_28 : decode cX5_init 28 = .ok (.putfield 21, 3) := by decide +kernel
theorem dX5_init_31 : decode cX5_init 31 = .ok (.return_, 1) := by decide +kernel
theorem dX5_text_0 : decode cX5_text 0 = .ok (.iload_n 1, 1) := by decide +kernel
theorem dX5_text_1 : decode cX5_text 1 = .ok (.ifCond .ne 10, 3) := by decide +kernel
theorem dX5_text_4 : decode cX5_text 4 = .ok (.aload_n 0, 1) := by decide +kernel
theorem dX5_text_5 : decode cX5_text 5 = .ok (.getfield 12, 3) := by decide +kernel
theorem dX5_text_8 : decode cX5_text 8 = .ok (.goto 7, 3) := by decide +kernel
theorem dX5_text_11 : decode cX5_text 11 = .ok (.aload_n 0, 1) := by decide +kernel
theorem dX5_text_12 : decode cX5_text 12 = .ok (.getfield 18, 3) := by decide +kernel
theorem dX5_text_15 : decode cX5_text 15 = .ok (.areturn, 1) := by decide +kernel
theorem dX5_alphabet_0 : decode cX5_alphabet 0 = .ok (.aload_n 0, 1) := by decide +kernel
theorem dX5_alphabet_1 : decode cX5_alphabet 1 = .ok (.getfield 21, 3) := by decide +kernel
theorem dX5_alphabet_4 : decode cX5_alphabet 4 = .ok (.ireturn, 1) := by decide +kernel
theorem dX5_setLetters_0 : decode cX5_setLetters 0 = .ok (.aload_n 0, 1) := by decide +kernel
theorem dX5_setLetters_1 : decode cX5_setLetters 1 = .ok (.iload_n 1, 1) := by decide +kernel
theorem dX5_setLetters_2 : decode cX5_setLetters 2 = .ok (.putfield 21, 3) := by decide +kernel
theorem dX5_setLetters_5 : decode cX5_setLetters 5 = .ok (.return_, 1) := by decide +kernel
theorem dX5_swapTexts_0 : decode cX5_swapTexts 0 = .ok (.aload_n 0, 1) := by decide +kernel
theorem dX5_swapTexts_1 : decode cX5_swapTexts 1 = .ok (.getfield 12, 3) := by decide +kernel
theorem dX5_swapTexts_4 : decode cX5_swapTexts 4 = .ok (.astore_n 1, 1) := by decide +kernel
theorem dX5_swapTexts_5 : decode cX5_swapTexts 5 = .ok (.aload_n 0, 1) := by decide +kernel
theorem dX5_swapTexts_6 : decode cX5_swapTexts 6 = .ok (.aload_n 0, 1) := by decide +kernel
theorem dX5_swapTexts_7 : decode cX5_swapTexts 7 = .ok (.getfield 18, 3) := by decide +kernel
theorem dX5_swapTexts_10 : decode cX5_swapTexts 10 = .ok (.putfield 12, 3) := by decide +kernel
theorem dX5_swapTexts_13 : decode cX5_swapTexts 13 = .ok (.aload_n 0, 1) := by decide +kernel
theorem dX5_swapTexts_14 : decode cX5_swapTexts 14 = .ok (.aload_n 1, 1) := by decide +kernel
theorem dX5_swapTexts_15 : decode cX5_swapTexts 15 = .ok (.putfield 18, 3) := by decide +kernel
theorem dX5_swapTexts_18 : decode cX5_swapTexts 18 = .ok (.return_, 1) := by decide +kernel
theorem dX5_copyFrom_0 : decode cX5_copyFrom 0 = .ok (.aload_n 0, 1) := by decide +kernel
theorem dX5_copyFrom_1 : decode cX5_copyFrom 1 = .ok (.getfield 12, 3) := by decide +kernel
theorem dX5_copyFrom_4 : decode cX5_copyFrom 4 = .ok (.aload_n 1, 1) := by decide +kernel
theorem dX5_copyFrom_5 : decode cX5_copyFrom 5 = .ok (.iconst 0, 1) := by decide +kernel
theorem dX5_copyFrom_6 : decode cX5_copyFrom 6 = .ok (.invokevirtual 25, 3) := by decide +kernel
theorem dX5_copyFrom_9 : decode cX5_copyFrom 9 = .ok (.invokevirtual 29, 3) := by decide +kernel
theorem dX5_copyFrom_12 : decode cX5_copyFrom 12 = .ok (.aload_n 0, 1) := by decide +kernel
theorem dX5_copyFrom_13 : decode cX5_copyFrom 13 = .ok (.getfield 18, 3) := by decide +kernel
theorem dX5_copyFrom_16 : decode cX5_copyFrom 16 = .ok (.aload_n 1, 1) := by decide +kernel
theorem dX5_copyFrom_17 : decode cX5_copyFrom 17 = .ok (.iconst 1, 1) := by decide +kernel
theorem dX5_copyFrom_18 : decode cX5_copyFrom 18 = .ok (.invokevirtual 25, 3) := by decide +kernel
theorem dX5_copyFrom_21 : decode cX5_copyFrom 21 = .ok (.invokevirtual 29, 3) := by decide +kernel
theorem dX5_copyFrom_24 : decode cX5_copyFrom 24 = .ok (.aload_n 0, 1) := by decide +kernel
theorem dX5_copyFrom_25 : decode cX5_copyFrom 25 = .ok (.aload_n 1, 1) := by decide +kernel
theorem dX5_copyFrom_26 : decode cX5_copyFrom 26 = .ok (.invokevirtual 33, 3) := by decide +kernel
theorem dX5_copyFrom_29 : decode cX5_copyFrom 29 = .ok (.putfield 21, 3) := by decide +kernel
theorem dX5_copyFrom_32 : decode cX5_copyFrom 32 = .ok (.return_, 1) := by decide +kernel
theorem dX6_init_0 : decode cX6_init 0 = .ok (.aload_n 0, 1) := by decide +kernel
theorem dX6_init_1 : decode cX6_init 1 = .ok (.invokespecial 3, 3) := by decide +kernel
theorem dX6_init_4 : decode cX6_init 4 = .ok (.aload_n 0, 1) := by decide +kernel
theorem dX6_init_5 : decode cX6_init 5 = .ok (.bipush 20, 2) := by decide +kernel
theorem dX6_init_7 : decode cX6_init 7 = .ok (.newarray .int, 2) := by decide +kernel
theorem dX6_init_9 : decode cX6_init 9 = .ok (.putfield 9, 3) := by decide +kernel
theorem dX6_init_12 : decode cX6_init 12 = .ok (.aload_n 0, 1) := by decide +kernel
theorem dX6_init_13 : decode cX6_init 13 = .ok (.iconst 0, 1) := by decide +kernel
theorem dX6_init_14 : decode cX6_init 14 = .ok (.putfield 15, 3) := by decide +kernel
theorem dX6_init_17 : decode cX6_init 17 = .ok (.return_, 1) := by decide +kernel
theorem dX6_size_0 : decode cX6_size 0 = .ok (.aload_n 0, 1) := by decide +kernel
theorem dX6_size_1 : decode cX6_size 1 = .ok (.getfield 15, 3) := by decide +kernel
theorem dX6_size_4 : decode cX6_size 4 = .ok (.ireturn, 1) := by decide +kernel
theorem dX6_at_0 : decode cX6_at 0 = .ok (.iload_n 1, 1) := by decide +kernel
theorem dX6_at_1 : decode cX6_at 1 = .ok (.ifCond .lt 20, 3) := by decide +kernel
theorem dX6_at_4 : decode cX6_at 4 = .ok (.iload_n 1, 1) := by decide +kernel
theorem dX6_at_5 : decode cX6_at 5 = .ok (.aload_n 0, 1) := by decide +kernel
theorem dX6_at_6 : decode cX6_at 6 = .ok (.getfield 15, 3) := by decide +kernel
theorem dX6_at_9 : decode cX6_at 9 = .ok (.if_icmp .ge 12, 3) := by decide +kernel
theorem dX6_at_12 : decode cX6_at 12 = .ok (.aload_n 0, 1) := by decide +kernel
theorem dX6_at_13 : decode cX6_at 13 = .ok (.getfield 9, 3) := by decide +kernel
theorem dX6_at_16 : decode cX6_at 16 = .ok (.iload_n 1, 1) := by decide +kernel
theorem dX6_at_17 : decode cX6_at 17 = .ok (.iaload, 1) := by decide +kernel
theorem dX6_at_18 : decode cX6_at 18 = .ok (.goto 4, 3) := by decide +kernel
theorem dX6_at_21 : decode cX6_at 21 = .ok (.iconst (-1), 1) := by decide +kernel
theorem dX6_at_22 : decode cX6_at 22 = .ok (.ireturn, 1) := by decide +kernel
theorem dX6_set_0 : decode cX6_set 0 = .ok (.iload_n 1, 1) := by decide +kernel
theorem dX6_set_1 : decode cX6_set 1 = .ok (.ifCond .lt 18, 3) := by decide +kernel
theorem dX6_set_4 : decode cX6_set 4 = .ok (.iload_n 1, 1) := by decide +kernel
theorem dX6_set_5 : decode cX6_set 5 = .ok (.aload_n 0, 1) := by decide +kernel
theorem dX6_set_6 : decode cX6_set 6 = .ok (.getfield 15, 3) := by decide +kernel
theorem dX6_set_9 : decode cX6_set 9 = .ok (.if_icmp .ge 10, 3) := by decide +kernel
theorem dX6_set_12 : decode cX6_set 12 = .ok (.aload_n 0, 1) := by decide +kernel
theorem dX6_set_13 : decode cX6_set 13 = .ok (.getfield 9, 3) := by decide +kernel
theorem dX6_set_16 : decode cX6_set 16 = .ok (.iload_n 1, 1) := by decide +kernel
theorem dX6_set_17 : decode cX6_set 17 = .ok (.iload_n 2, 1) := by decide +kernel
theorem dX6_set_18 : decode cX6_set 18 = .ok (.iastore, 1) := by decide +kernel
theorem dX6_set_19 : decode cX6_set 19 = .ok (.return_, 1) := by decide +kernel
theorem dX6_putIn_0 : decode cX6_putIn 0 = .ok (.iload_n 1, 1) := by decide +kernel
theorem dX6_putIn_1 : decode cX6_putIn 1 = .ok (.ifCond .lt 20, 3) := by decide +kernel
theorem dX6_putIn_4 : decode cX6_putIn 4 = .ok (.iload_n 1, 1) := by decide +kernel
theorem dX6_putIn_5 : decode cX6_putIn 5 = .ok (.aload_n 0, 1) := by decide +kernel
theorem dX6_putIn_6 : decode cX6_putIn 6 = .ok (.getfield 15, 3) := by decide +kernel
theorem dX6_putIn_9 : decode cX6_putIn 9 = .ok (.if_icmp .gt 12, 3) := by decide +kernel
theorem dX6_putIn_12 : decode cX6_putIn 12 = .ok (.aload_n 0, 1) := by decide +kernel
theorem dX6_putIn_13 : decode cX6_putIn 13 = .ok (.getfield 15, 3) := by decide +kernel
theorem dX6_putIn_16 : decode cX6_putIn 16 = .ok (.bipush 20, 2) := by decide +kernel
theorem dX6_putIn_18 : decode cX6_putIn 18 = .ok (.if_icmp .lt 4, 3) := by decide +kernel
theorem dX6_putIn_21 : decode cX6_putIn 21 = .ok (.return_, 1) := by decide +kernel
theorem dX6_putIn_22 : decode cX6_putIn 22 = .ok (.aload_n 0, 1) := by decide +kernel
theorem dX6_putIn_23 : decode cX6_putIn 23 = .ok (.getfield 15, 3) := by decide +kernel
theorem dX6_putIn_26 : decode cX6_putIn 26 = .ok (.istore_n 3, 1) := by decide +kernel
theorem dX6_putIn_27 : decode cX6_putIn 27 = .ok (.iload_n 3, 1) := by decide +kernel
theorem dX6_putIn_28 : decode cX6_putIn 28 = .ok (.iload_n 1, 1) := by decide +kernel
theorem dX6_putIn_29 : decode cX6_putIn 29 = .ok (.if_icmp .le 23, 3) := by decide +kernel
theorem dX6_putIn_32 : decode cX6_putIn 32 = .ok (.aload_n 0, 1) := by decide +kernel
theorem dX6_putIn_33 : decode cX6_putIn 33 = .ok (.getfield 9, 3) := by decide +kernel
theorem dX6_putIn_36 : decode cX6_putIn 36 = .ok (.iload_n 3, 1) := by decide +kernel
theorem dX6_putIn_37 : decode cX6_putIn 37 = .ok (.aload_n 0, 1) := by decide +kernel
theorem dX6_putIn_38 : decode cX6_putIn 38 = .ok (.getfield 9, 3) := by decide +kernel
theorem dX6_putIn_41 : decode cX6_putIn 41 = .ok (.iload_n 3, 1) := by decide +kernel
theorem dX6_putIn_42 : decode cX6_putIn 42 = .ok (.iconst 1, 1) := by decide +kernel
theorem dX6_putIn_43 : decode cX6_putIn 43 = .ok (.isub, 1) := by decide +kernel
theorem dX6_putIn_44 : decode cX6_putIn 44 = .ok (.iaload, 1) := by decide +kernel
theorem dX6_putIn_45 : decode cX6_putIn 45 = .ok (.iastore, 1) := by decide +kernel
theorem dX6_putIn_46 : decode cX6_putIn 46 = .ok (.iinc 3 (-1), 3) := by decide +kernel
theorem dX6_putIn_49 : decode cX6_putIn 49 = .ok (.goto (-22), 3) := by decide +kernel
theorem dX6_putIn_52 : decode cX6_putIn 52 = .ok (.aload_n 0, 1) := by decide +kernel
theorem dX6_putIn_53 : decode cX6_putIn 53 = .ok (.getfield 9, 3) := by decide +kernel
theorem dX6_putIn_56 : decode cX6_putIn 56 = .ok (.iload_n 1, 1) := by decide +kernel
theorem dX6_putIn_57 : decode cX6_putIn 57 = .ok (.iload_n 2, 1) := by decide +kernel
theorem dX6_putIn_58 : decode cX6_putIn 58 = .ok (.iastore, 1) := by decide +kernel
theorem dX6_putIn_59 : decode cX6_putIn 59 = .ok (.aload_n 0, 1) := by decide +kernel
theorem dX6_putIn_60 : decode cX6_putIn 60 = .ok (.dup, 1) := by decide +kernel
theorem dX6_putIn_61 : decode cX6_putIn 61 = .ok (.getfield 15, 3) := by decide +kernel
theorem dX6_putIn_64 : decode cX6_putIn 64 = .ok (.iconst 1, 1) := by decide +kernel
theorem dX6_putIn_65 : decode cX6_putIn 65 = .ok (.iadd, 1) := by decide +kernel
theorem dX6_putIn_66 : decode cX6_putIn 66 = .ok (.putfield 15, 3) := by decide +kernel
theorem dX6_putIn_69 : decode cX6_putIn 69 = .ok (.return_, 1) := by decide +kernel
theorem dX6_takeOut_0 : decode cX6_takeOut 0 = .ok (.iload_n 1, 1) := by decide +kernel
theorem dX6_takeOut_1 : decode cX6_takeOut 1 = .ok (.ifCond .lt 11, 3) := by decide +kernel
theorem dX6_takeOut_4 : decode cX6_takeOut 4 = .ok (.iload_n 1, 1) := by decide +kernel
theorem dX6_takeOut_5 : decode cX6_takeOut 5 = .ok (.aload_n 0, 1) := by decide +kernel
theorem dX6_takeOut_6 : decode cX6_takeOut 6 = .ok (.getfield 15, 3) := by decide +kernel
theorem dX6_takeOut_9 : decode cX6_takeOut 9 = .ok (.if_icmp .lt 4, 3) := by decide +kernel
theorem dX6_takeOut_12 : decode cX6_takeOut 12 = .ok (.return_, 1) := by decide +kernel
theorem dX6_takeOut_13 : decode cX6_takeOut 13 = .ok (.aload_n 0, 1) := by decide +kernel
theorem dX6_takeOut_14 : decode cX6_takeOut 14 = .ok (.dup, 1) := by decide +kernel
theorem dX6_takeOut_15 : decode cX6_takeOut 15 = .ok (.getfield 15, 3) := by decide +kernel
theorem dX6_takeOut_18 : decode cX6_takeOut 18 = .ok (.iconst 1, 1) := by decide +kernel
theorem dX6_takeOut_19 : decode cX6_takeOut 19 = .ok (.isub, 1) := by decide +kernel
theorem dX6_takeOut_20 : decode cX6_takeOut 20 = .ok (.putfield 15, 3) := by decide +kernel
theorem dX6_takeOut_23 : decode cX6_takeOut 23 = .ok (.iload_n 1, 1) := by decide +kernel
theorem dX6_takeOut_24 : decode cX6_takeOut 24 = .ok (.istore_n 2, 1) := by decide +kernel
theorem dX6_takeOut_25 : decode cX6_takeOut 25 = .ok (.iload_n 2, 1) := by decide +kernel
theorem dX6_takeOut_26 : decode cX6_takeOut 26 = .ok (.aload_n 0, 1) := by decide +kernel
theorem dX6_takeOut_27 : decode cX6_takeOut 27 = .ok (.getfield 15, 3) := by decide +kernel
theorem dX6_takeOut_30 : decode cX6_takeOut 30 = .ok (.if_icmp .ge 23, 3) := by decide +kernel
theorem dX6_takeOut_33 : decode cX6_takeOut 33 = .ok (.aload_n 0, 1) := by decide +kernel
theorem dX6_takeOut_34 : decode cX6_takeOut 34 = .ok (.getfield 9, 3) := by decide +kernel
theorem dX6_takeOut_37 : decode cX6_takeOut 37 = .ok (.iload_n 2, 1) := by decide +kernel
theorem dX6_takeOut_38 : decode cX6_takeOut 38 = .ok (.aload_n 0, 1) := by decide +kernel
theorem dX6_takeOut_39 : decode cX6_takeOut 39 = .ok (.getfield 9, 3) := by decide +kernel
theorem dX6_takeOut_42 : decode cX6_takeOut 42 = .ok (.iload_n 2, 1) := by decide +kernel
theorem dX6_takeOut_43 : decode cX6_takeOut 43 = .ok (.iconst 1, 1) := by decide +kernel
theorem dX6_takeOut_44 : decode cX6_takeOut 44 = .ok (.iadd, 1) := by decide +kernel
theorem dX6_takeOut_45 : decode cX6_takeOut 45 = .ok (.iaload, 1) := by decide +kernel
theorem dX6_takeOut_46 : decode cX6_takeOut 46 = .ok (.iastore, 1) := by decide +kernel
theorem dX6_takeOut_47 : decode cX6_takeOut 47 = .ok (.iinc 2 1, 3) := by decide +kernel
theorem dX6_takeOut_50 : decode cX6_takeOut 50 = .ok (.goto (-25), 3) := by decide +kernel
theorem dX6_takeOut_53 : decode cX6_takeOut 53 = .ok (.return_, 1) := by decide +kernel
theorem dX6_empty_0 : decode cX6_empty 0 = .ok (.aload_n 0, 1) := by decide +kernel
theorem dX6_empty_1 : decode cX6_empty 1 = .ok (.iconst 0, 1) := by decide +kernel
theorem dX6_empty_2 : decode cX6_empty 2 = .ok (.putfield 15, 3) := by decide +kernel
theorem dX6_empty_5 : decode cX6_empty 5 = .ok (.return_, 1) := by decide +kernel
theorem dX6_copyFrom_0 : decode cX6_copyFrom 0 = .ok (.aload_n 0, 1) := by decide +kernel
theorem dX6_copyFrom_1 : decode cX6_copyFrom 1 = .ok (.invokevirtual 19, 3) := by decide +kernel
theorem dX6_copyFrom_4 : decode cX6_copyFrom 4 = .ok (.iconst 0, 1) := by decide +kernel
theorem dX6_copyFrom_5 : decode cX6_copyFrom 5 = .ok (.istore_n 2, 1) := by decide +kernel
theorem dX6_copyFrom_6 : decode cX6_copyFrom 6 = .ok (.iload_n 2, 1) := by decide +kernel
theorem dX6_copyFrom_7 : decode cX6_copyFrom 7 = .ok (.aload_n 1, 1) := by decide +kernel
theorem dX6_copyFrom_8 : decode cX6_copyFrom 8 = .ok (.invokevirtual 22, 3) := by decide +kernel
theorem dX6_copyFrom_11 : decode cX6_copyFrom 11 = .ok (.if_icmp .ge 19, 3) := by decide +kernel
theorem dX6_copyFrom_14 : decode cX6_copyFrom 14 = .ok (.aload_n 0, 1) := by decide +kernel
theorem dX6_copyFrom_15 : decode cX6_copyFrom 15 = .ok (.iload_n 2, 1) := by decide +kernel
theorem dX6_copyFrom_16 : decode cX6_copyFrom 16 = .ok (.aload_n 1, 1) := by decide +kernel
theorem dX6_copyFrom_17 : decode cX6_copyFrom 17 = .ok (.iload_n 2, 1) := by decide +kernel
theorem dX6_copyFrom_18 : decode cX6_copyFrom 18 = .ok (.invokevirtual 25, 3) := by decide +kernel
theorem dX6_copyFrom_21 : decode cX6_copyFrom 21 = .ok (.invokevirtual 29, 3) := by decide +kernel
theorem dX6_copyFrom_24 : decode cX6_copyFrom 24 = .ok (.iinc 2 1, 3) := by decide +kernel
theorem dX6_copyFrom_27 : decode cX6_copyFrom 27 = .ok (.goto (-21), 3) := by decide +kernel
theorem dX6_copyFrom_30 : decode cX6_copyFrom 30 = .ok (.return_, 1) := by decide +kernel
theorem dX6_copyBackward_0 : decode cX6_copyBackward 0 = .ok (.aload_n 0, 1) := by decide +kernel
theorem dX6_copyBackward_1 : decode cX6_copyBackward 1 = .ok (.invokevirtual 19, 3) := by decide +kernel
theorem dX6_copyBackward_4 : decode cX6_copyBackward 4 = .ok (.iconst 0, 1) := by decide +kernel
theorem dX6_copyBackward_5 : decode cX6_copyBackward 5 = .ok (.istore_n 2, 1) := by decide +kernel
theorem dX6_copyBackward_6 : decode cX6_copyBackward 6 = .ok (.iload_n 2, 1) := by decide +kernel
theorem dX6_copyBackward_7 : decode cX6_copyBackward 7 = .ok (.aload_n 1, 1) := by decide +kernel
theorem dX6_copyBackward_8 : decode cX6_copyBackward 8 = .ok (.invokevirtual 22, 3) := by decide +kernel
theorem dX6_copyBackward_11 : decode cX6_copyBackward 11 = .ok (.if_icmp .ge 26, 3) := by decide +kernel
theorem dX6_copyBackward_14 : decode cX6_copyBackward 14 = .ok (.aload_n 0, 1) := by decide +kernel
theorem dX6_copyBackward_15 : decode cX6_copyBackward 15 = .ok (.iload_n 2, 1) := by decide +kernel
theorem dX6_copyBackward_16 : decode cX6_copyBackward 16 = .ok (.aload_n 1, 1) := by decide +kernel
theorem dX6_copyBackward_17 : decode cX6_copyBackward 17 = .ok (.aload_n 1, 1) := by decide +kernel
theorem dX6_copyBackward_18 : decode cX6_copyBackward 18 = .ok (.invokevirtual 22, 3) := by decide +kernel
theorem dX6_copyBackward_21 : decode cX6_copyBackward 21 = .ok (.iconst 1, 1) := by decide +kernel
theorem dX6_copyBackward_22 : decode cX6_copyBackward 22 = .ok (.isub, 1) := by decide +kernel
theorem dX6_copyBackward_23 : decode cX6_copyBackward 23 = .ok (.iload_n 2, 1) := by decide +kernel
theorem dX6_copyBackward_24 : decode cX6_copyBackward 24 = .ok (.isub, 1) := by decide +kernel
theorem dX6_copyBackward_25 : decode cX6_copyBackward 25 = .ok (.invokevirtual 25, 3) := by decide +kernel
theorem dX6_copyBackward_28 : decode cX6_copyBackward 28 = .ok (.invokevirtual 29, 3) := by decide +kernel
theorem dX6_copyBackward_31 : decode cX6_copyBackward 31 = .ok (.iinc 2 1, 3) := by decide +kernel
theorem dX6_copyBackward_34 : decode cX6_copyBackward 34 = .ok (.goto (-28), 3) := by decide +kernel
theorem dX6_copyBackward_37 : decode cX6_copyBackward 37 = .ok (.return_, 1) := by decide +kernel
theorem dX6_keepsTo_0 : decode cX6_keepsTo 0 = .ok (.iconst 0, 1) := by decide +kernel
theorem dX6_keepsTo_1 : decode cX6_keepsTo 1 = .ok (.istore_n 2, 1) := by decide +kernel
theorem dX6_keepsTo_2 : decode cX6_keepsTo 2 = .ok (.iload_n 2, 1) := by decide +kernel
theorem dX6_keepsTo_3 : decode cX6_keepsTo 3 = .ok (.aload_n 0, 1) := by decide +kernel
theorem dX6_keepsTo_4 : decode cX6_keepsTo 4 = .ok (.getfield 15, 3) := by decide +kernel
theorem dX6_keepsTo_7 : decode cX6_keepsTo 7 = .ok (.if_icmp .ge 20, 3) := by decide +kernel
theorem dX6_keepsTo_10 : decode cX6_keepsTo 10 = .ok (.aload_n 0, 1) := by decide +kernel
theorem dX6_keepsTo_11 : decode cX6_keepsTo 11 = .ok (.iload_n 2, 1) := by decide +kernel
theorem dX6_keepsTo_12 : decode cX6_keepsTo 12 = .ok (.invokevirtual 25, 3) := by decide +kernel
theorem dX6_keepsTo_15 : decode cX6_keepsTo 15 = .ok (.iload_n 1, 1) := by decide +kernel
theorem dX6_keepsTo_16 : decode cX6_keepsTo 16 = .ok (.if_icmp .lt 5, 3) := by decide +kernel
theorem dX6_keepsTo_19 : decode cX6_keepsTo 19 = .ok (.iconst 0, 1) := by decide +kernel
theorem dX6_keepsTo_20 : decode cX6_keepsTo 20 = .ok (.ireturn, 1) := by decide +kernel
theorem dX6_keepsTo_21 : decode cX6_keepsTo 21 = .ok (.iinc 2 1, 3) := by decide +kernel
theorem dX6_keepsTo_24 : decode cX6_keepsTo 24 = .ok (.goto (-22), 3) := by decide +kernel
theorem dX6_keepsTo_27 : decode cX6_keepsTo 27 = .ok (.iconst 1, 1) := by decide +kernel
theorem dX6_keepsTo_28 : decode cX6_keepsTo 28 = .ok (.ireturn, 1) := by decide +kernel
theorem dX7_init_0 : decode cX7_init 0 = .ok (.aload_n 0, 1) := by decide +kernel
theorem dX7_init_1 : decode cX7_init 1 = .ok (.invokespecial 3, 3) := by decide +kernel
theorem dX7_init_4 : decode cX7_init 4 = .ok (.aload_n 0, 1) := by decide +kernel
theorem dX7_init_5 : decode cX7_init 5 = .ok (.bipush 40, 2) := by decide +kernel
theorem dX7_init_7 : decode cX7_init 7 = .ok (.newarray .int, 2) := by decide +kernel
theorem dX7_init_9 : decode cX7_init 9 = .ok (.putfield 11, 3) := by decide +kernel
theorem dX7_init_12 : decode cX7_init 12 = .ok (.aload_n 0, 1) := by decide +kernel
theorem dX7_init_13 : decode cX7_init 13 = .ok (.iconst 0, 1) := by decide +kernel
theorem dX7_init_14 : decode cX7_init 14 = .ok (.putfield 15, 3) := by decide +kernel
theorem dX7_init_17 : decode cX7_init 17 = .ok (.return_, 1) := by decide +kernel
theorem dX7_size_0 : decode cX7_size 0 = .ok (.aload_n 0, 1) := by decide +kernel
theorem dX7_size_1 : decode cX7_size 1 = .ok (.getfield 15, 3) := by decide +kernel
theorem dX7_size_4 : decode cX7_size 4 = .ok (.ireturn, 1) := by decide +kernel
theorem dX7_at_0 : decode cX7_at 0 = .ok (.iload_n 1, 1) := by decide +kernel
theorem dX7_at_1 : decode cX7_at 1 = .ok (.ifCond .lt 27, 3) := by decide +kernel
theorem dX7_at_4 : decode cX7_at 4 = .ok (.iload_n 1, 1) := by decide +kernel
theorem dX7_at_5 : decode cX7_at 5 = .ok (.aload_n 0, 1) := by decide +kernel
theorem dX7_at_6 : decode cX7_at 6 = .ok (.getfield 15, 3) := by decide +kernel
theorem dX7_at_9 : decode cX7_at 9 = .ok (.if_icmp .ge 19, 3) := by decide +kernel
theorem dX7_at_12 : decode cX7_at 12 = .ok (.aload_n 0, 1) := by decide +kernel
theorem dX7_at_13 : decode cX7_at 13 = .ok (.getfield 11, 3) := by decide +kernel
theorem dX7_at_16 : decode cX7_at 16 = .ok (.aload_n 0, 1) := by decide +kernel
theorem dX7_at_17 : decode cX7_at 17 = .ok (.getfield 15, 3) := by decide +kernel
theorem dX7_at_20 : decode cX7_at 20 = .ok (.iconst 1, 1) := by decide +kernel
theorem dX7_at_21 : decode cX7_at 21 = .ok (.isub, 1) := by decide +kernel
theorem dX7_at_22 : decode cX7_at 22 = .ok (.iload_n 1, 1) := by decide +kernel
theorem dX7_at_23 : decode cX7_at 23 = .ok (.isub, 1) := by decide +kernel
theorem dX7_at_24 : decode cX7_at 24 = .ok (.iaload, 1) := by decide +kernel
theorem dX7_at_25 : decode cX7_at 25 = .ok (.goto 4, 3) := by decide +kernel
theorem dX7_at_28 : decode cX7_at 28 = .ok (.iconst (-1), 1) := by decide +kernel
theorem dX7_at_29 : decode cX7_at 29 = .ok (.ireturn, 1) := by decide +kernel
theorem dX7_stepsOf_0 : decode cX7_stepsOf 0 = .ok (.iconst 0, 1) := by decide +kernel
theorem dX7_stepsOf_1 : decode cX7_stepsOf 1 = .ok (.istore_n 2, 1) := by decide +kernel
theorem dX7_stepsOf_2 : decode cX7_stepsOf 2 = .ok (.iconst 0, 1) := by decide +kernel
theorem dX7_stepsOf_3 : decode cX7_stepsOf 3 = .ok (.istore_n 3, 1) := by decide +kernel
theorem dX7_stepsOf_4 : decode cX7_stepsOf 4 = .ok (.iload_n 3, 1) := by decide +kernel
theorem dX7_stepsOf_5 : decode cX7_stepsOf 5 = .ok (.aload_n 0, 1) := by decide +kernel
theorem dX7_stepsOf_6 : decode cX7_stepsOf 6 = .ok (.getfield 15, 3) := by decide +kernel
theorem dX7_stepsOf_9 : decode cX7_stepsOf 9 = .ok (.if_icmp .ge 21, 3) := by decide +kernel
theorem dX7_stepsOf_12 : decode cX7_stepsOf 12 = .ok (.aload_n 0, 1) := by decide +kernel
theorem dX7_stepsOf_13 : decode cX7_stepsOf 13 = .ok (.iload_n 3, 1) := by decide +kernel
theorem dX7_stepsOf_14 : decode cX7_stepsOf 14 = .ok (.invokevirtual 19, 3) := by decide +kernel
theorem dX7_stepsOf_17 : decode cX7_stepsOf 17 = .ok (.iload_n 1, 1) := by decide +kernel
theorem dX7_stepsOf_18 : decode cX7_stepsOf 18 = .ok (.if_icmp .ne 6, 3) := by decide +kernel
theorem dX7_stepsOf_21 : decode cX7_stepsOf 21 = .ok (.iinc 2 1, 3) := by decide +kernel
theorem dX7_stepsOf_24 : decode cX7_stepsOf 24 = .ok (.iinc 3 1, 3) := by decide +kernel
theorem dX7_stepsOf_27 : decode cX7_stepsOf 27 = .ok (.goto (-23), 3) := by decide +kernel
theorem dX7_stepsOf_30 : decode cX7_stepsOf 30 = .ok (.iload_n 2, 1) := by decide +kernel
theorem dX7_stepsOf_31 : decode cX7_stepsOf 31 = .ok (.ireturn, 1) := by decide +kernel
theorem dX7_find_0 : decode cX7_find 0 = .ok (.aload_n 2, 1) := by decide +kernel
theorem dX7_find_1 : decode cX7_find 1 = .ok (.invokevirtual 23, 3) := by decide +kernel
theorem dX7_find_4 : decode cX7_find 4 = .ok (.istore 4, 2) := by decide +kernel
theorem dX7_find_6 : decode cX7_find 6 = .ok (.aload_n 3, 1) := by decide +kernel
theorem dX7_find_7 : decode cX7_find 7 = .ok (.invokevirtual 23, 3) := by decide +kernel
theorem dX7_find_10 : decode cX7_find 10 = .ok (.istore 5, 2) := by decide +kernel
theorem dX7_find_12 : decode cX7_find 12 = .ok (.aload_n 0, 1) := by decide +kernel
theorem dX7_find_13 : decode cX7_find 13 = .ok (.iconst 0, 1) := by decide +kernel
theorem dX7_find_14 : decode cX7_find 14 = .ok (.putfield 15, 3) := by decide +kernel
theorem dX7_find_17 : decode cX7_find 17 = .ok (.iload 4, 2) := by decide +kernel
theorem dX7_find_19 : decode cX7_find 19 = .ok (.ifCond .gt 8, 3) := by decide +kernel
theorem dX7_find_22 : decode cX7_find 22 = .ok (.iload 5, 2) := by decide +kernel
theorem dX7_find_24 : decode cX7_find 24 = .ok (.ifCond .le 83, 3) := by decide +kernel
theorem dX7_find_27 : decode cX7_find 27 = .ok (.aload_n 0, 1) := by decide +kernel
theorem dX7_find_28 : decode cX7_find 28 = .ok (.getfield 15, 3) := by decide +kernel
theorem dX7_find_31 : decode cX7_find 31 = .ok (.bipush 40, 2) := by decide +kernel
theorem dX7_find_33 : decode cX7_find 33 = .ok (.if_icmp .ge 74, 3) := by decide +kernel
theorem dX7_find_36 : decode cX7_find 36 = .ok (.aload_n 1, 1) := by decide +kernel
theorem dX7_find_37 : decode cX7_find 37 = .ok (.iload 4, 2) := by decide +kernel
theorem dX7_find_39 : decode cX7_find 39 = .ok (.iload 5, 2) := by decide +kernel
theorem dX7_find_41 : decode cX7_find 41 = .ok (.aload_n 2, 1) := by decide +kernel
theorem dX7_find_42 : decode cX7_find 42 = .ok (.iload 4, 2) := by decide +kernel
theorem dX7_find_44 : decode cX7_find 44 = .ok (.iconst 1, 1) := by decide +kernel
theorem dX7_find_45 : decode cX7_find 45 = .ok (.isub, 1) := by decide +kernel
theorem dX7_find_46 : decode cX7_find 46 = .ok (.invokevirtual 28, 3) := by decide +kernel
theorem dX7_find_49 : decode cX7_find 49 = .ok (.aload_n 3, 1) := by decide +kernel
theorem dX7_find_50 : decode cX7_find 50 = .ok (.iload 5, 2) := by decide +kernel
theorem dX7_find_52 : decode cX7_find 52 = .ok (.iconst 1, 1) := by decide +kernel
theorem dX7_find_53 : decode cX7_find 53 = .ok (.isub, 1) := by decide +kernel
theorem dX7_find_54 : decode cX7_find 54 = .ok (.invokevirtual 28, 3) := by decide +kernel
theorem dX7_find_57 : decode cX7_find 57 = .ok (.invokestatic 29, 3) := by decide +kernel
theorem dX7_find_60 : decode cX7_find 60 = .ok (.invokestatic 33, 3) := by decide +kernel
theorem dX7_find_63 : decode cX7_find 63 = .ok (.istore 6, 2) := by decide +kernel
theorem dX7_find_65 : decode cX7_find 65 = .ok (.aload_n 0, 1) := by decide +kernel
theorem dX7_find_66 : decode cX7_find 66 = .ok (.getfield 11, 3) := by decide +kernel
theorem dX7_find_69 : decode cX7_find 69 = .ok (.aload_n 0, 1) := by decide +kernel
theorem dX7_find_70 : decode cX7_find 70 = .ok (.getfield 15, 3) := by decide +kernel
theorem dX7_find_73 : decode cX7_find 73 = .ok (.iload 6, 2) := by decide +kernel
theorem dX7_find_75 : decode cX7_find 75 = .ok (.iastore, 1) := by decide +kernel
theorem dX7_find_76 : decode cX7_find 76 = .ok (.aload_n 0, 1) := by decide +kernel
theorem dX7_find_77 : decode cX7_find 77 = .ok (.dup, 1) := by decide +kernel
theorem dX7_find_78 : decode cX7_find 78 = .ok (.getfield 15, 3) := by decide +kernel
theorem dX7_find_81 : decode cX7_find 81 = .ok (.iconst 1, 1) := by decide +kernel
theorem dX7_find_82 : decode cX7_find 82 = .ok (.iadd, 1) := by decide +kernel
theorem dX7_find_83 : decode cX7_find 83 = .ok (.putfield 15, 3) := by decide +kernel
theorem dX7_find_86 : decode cX7_find 86 = .ok (.iload 6, 2) := by decide +kernel
theorem dX7_find_88 : decode cX7_find 88 = .ok (.iconst 3, 1) := by decide +kernel
theorem dX7_find_89 : decode cX7_find 89 = .ok (.if_icmp .eq 6, 3) := by decide +kernel
theorem dX7_find_92 : decode cX7_find 92 = .ok (.iinc 4 (-1), 3) := by decide +kernel
theorem dX7_find_95 : decode cX7_find 95 = .ok (.iload 6, 2) := by decide +kernel
theorem dX7_find_97 : decode cX7_find 97 = .ok (.iconst 2, 1) := by decide +kernel
theorem dX7_find_98 : decode cX7_find 98 = .ok (.if_icmp .eq 6, 3) := by decide +kernel
theorem dX7_find_101 : decode cX7_find 101 = .ok (.iinc 5 (-1), 3) := by decide +kernel
theorem dX7_find_104 : decode cX7_find 104 = .ok (.goto (-87), 3) := by decide +kernel
theorem dX7_find_107 : decode cX7_find 107 = .ok (.return_, 1) := by decide +kernel
theorem dX7_lastStep_0 : decode cX7_lastStep 0 = .ok (.aload_n 0, 1) := by decide +kernel
theorem dX7_lastStep_1 : decode cX7_lastStep 1 = .ok (.iload_n 1, 1) := by decide +kernel
theorem dX7_lastStep_2 : decode cX7_lastStep 2 = .ok (.iload_n 2, 1) := by decide +kernel
theorem dX7_lastStep_3 : decode cX7_lastStep 3 = .ok (.invokevirtual 37, 3) := by decide +kernel
theorem dX7_lastStep_6 : decode cX7_lastStep 6 = .ok (.istore 4, 2) := by decide +kernel
theorem dX7_lastStep_8 : decode cX7_lastStep 8 = .ok (.iload_n 1, 1) := by decide +kernel
theorem dX7_lastStep_9 : decode cX7_lastStep 9 = .ok (.ifCond .le 26, 3) := by decide +kernel
theorem dX7_lastStep_12 : decode cX7_lastStep 12 = .ok (.iload_n 2, 1) := by decide +kernel
theorem dX7_lastStep_13 : decode cX7_lastStep 13 = .ok (.ifCond .le 22, 3) := by decide +kernel
theorem dX7_lastStep_16 : decode cX7_lastStep 16 = .ok (.iload 4, 2) := by decide +kernel
theorem dX7_lastStep_18 : decode cX7_lastStep 18 = .ok (.aload_n 0, 1) := by decide +kernel
theorem dX7_lastStep_19 : decode cX7_lastStep 19 = .ok (.iload_n 1, 1) := by decide +kernel
theorem dX7_lastStep_20 : decode cX7_lastStep 20 = .ok (.iconst 1, 1) := by decide +kernel
theorem dX7_lastStep_21 : decode cX7_lastStep 21 = .ok (.isub, 1) := by decide +kernel
theorem dX7_lastStep_22 : decode cX7_lastStep 22 = .ok (.iload_n 2, 1) := by decide +kernel
theorem dX7_lastStep_23 : decode cX7_lastStep 23 = .ok (.iconst 1, 1) := by decide +kernel
theorem dX7_lastStep_24 : decode cX7_lastStep 24 = .ok (.isub, 1) := by decide +kernel
theorem dX7_lastStep_25 : decode cX7_lastStep 25 = .ok (.invokevirtual 37, 3) := by decide +kernel
theorem dX7_lastStep_28 : decode cX7_lastStep 28 = .ok (.iload_n 3, 1) := by decide +kernel
theorem dX7_lastStep_29 : decode cX7_lastStep 29 = .ok (.iadd, 1) := by decide +kernel
theorem dX7_lastStep_30 : decode cX7_lastStep 30 = .ok (.if_icmp .ne 5, 3) := by decide +kernel
theorem dX7_lastStep_33 : decode cX7_lastStep 33 = .ok (.iload_n 3, 1) := by decide +kernel
theorem dX7_lastStep_34 : decode cX7_lastStep 34 = .ok (.ireturn, 1) := by decide +kernel
theorem dX7_lastStep_35 : decode cX7_lastStep 35 = .ok (.iload_n 1, 1) := by decide +kernel
theorem dX7_lastStep_36 : decode cX7_lastStep 36 = .ok (.ifCond .le 20, 3) := by decide +kernel
theorem dX7_lastStep_39 : decode cX7_lastStep 39 = .ok (.iload 4, 2) := by decide +kernel
theorem dX7_lastStep_41 : decode cX7_lastStep 41 = .ok (.aload_n 0, 1) := by decide +kernel
theorem dX7_lastStep_42 : decode cX7_lastStep 42 = .ok (.iload_n 1, 1) := by decide +kernel
theorem dX7_lastStep_43 : decode cX7_lastStep 43 = .ok (.iconst 1, 1) := by decide +kernel
theorem dX7_lastStep_44 : decode cX7_lastStep 44 = .ok (.isub, 1) := by decide +kernel
theorem dX7_lastStep_45 : decode cX7_lastStep 45 = .ok (.iload_n 2, 1) := by decide +kernel
theorem dX7_lastStep_46 : decode cX7_lastStep 46 = .ok (.invokevirtual 37, 3) := by decide +kernel
theorem dX7_lastStep_49 : decode cX7_lastStep 49 = .ok (.iconst 1, 1) := by decide +kernel
theorem dX7_lastStep_50 : decode cX7_lastStep 50 = .ok (.iadd, 1) := by decide +kernel
theorem dX7_lastStep_51 : decode cX7_lastStep 51 = .ok (.if_icmp .ne 5, 3) := by decide +kernel
theorem dX7_lastStep_54 : decode cX7_lastStep 54 = .ok (.iconst 2, 1) := by decide +kernel
theorem dX7_lastStep_55 : decode cX7_lastStep 55 = .ok (.ireturn, 1) := by decide +kernel
theorem dX7_lastStep_56 : decode cX7_lastStep 56 = .ok (.iconst 3, 1) := by decide +kernel
theorem dX7_lastStep_57 : decode cX7_lastStep 57 = .ok (.ireturn, 1) := by decide +kernel
theorem dX8_init_0 : decode cX8_init 0 = .ok (.aload_n 0, 1) := by decide +kernel
theorem dX8_init_1 : decode cX8_init 1 = .ok (.invokespecial 3, 3) := by decide +kernel
theorem dX8_init_4 : decode cX8_init 4 = .ok (.aload_n 0, 1) := by decide +kernel
theorem dX8_init_5 : decode cX8_init 5 = .ok (.new 9, 3) := by decide +kernel
theorem dX8_init_8 : decode cX8_init 8 = .ok (.dup, 1) := by decide +kernel
theorem dX8_init_9 : decode cX8_init 9 = .ok (.invokespecial 11, 3) := by decide +kernel
theorem dX8_init_12 : decode cX8_init 12 = .ok (.putfield 12, 3) := by decide +kernel
theorem dX8_init_15 : decode cX8_init 15 = .ok (.aload_n 0, 1) := by decide +kernel
theorem dX8_init_16 : decode cX8_init 16 = .ok (.new 16, 3) := by decide +kernel
theorem dX8_init_19 : decode cX8_init 19 = .ok (.dup, 1) := by decide +kernel
theorem dX8_init_20 : decode cX8_init 20 = .ok (.invokespecial 18, 3) := by decide +kernel
theorem dX8_init_23 : decode cX8_init 23 = .ok (.putfield 19, 3) := by decide +kernel
theorem dX8_init_26 : decode cX8_init 26 = .ok (.aload_n 0, 1) := by decide +kernel
theorem dX8_init_27 : decode cX8_init 27 = .ok (.new 23, 3) := by decide +kernel
theorem dX8_init_30 : decode cX8_init 30 = .ok (.dup, 1) := by decide +kernel
theorem dX8_init_31 : decode cX8_init 31 = .ok (.invokespecial 25, 3) := by decide +kernel
theorem dX8_init_34 : decode cX8_init 34 = .ok (.putfield 26, 3) := by decide +kernel
theorem dX8_init_37 : decode cX8_init 37 = .ok (.aload_n 0, 1) := by decide +kernel
theorem dX8_init_38 : decode cX8_init 38 = .ok (.new 30, 3) := by decide +kernel
theorem dX8_init_41 : decode cX8_init 41 = .ok (.dup, 1) := by decide +kernel
theorem dX8_init_42 : decode cX8_init 42 = .ok (.invokespecial 32, 3) := by decide +kernel
theorem dX8_init_45 : decode cX8_init 45 = .ok (.putfield 33, 3) := by decide +kernel
theorem dX8_init_48 : decode cX8_init 48 = .ok (.aload_n 0, 1) := by decide +kernel
theorem dX8_init_49 : decode cX8_init 49 = .ok (.new 30, 3) := by decide +kernel
theorem dX8_init_52 : decode cX8_init 52 = .ok (.dup, 1) := by decide +kernel
theorem dX8_init_53 : decode cX8_init 53 = .ok (.invokespecial 32, 3) := by decide +kernel
theorem dX8_init_56 : decode cX8_init 56 = .ok (.putfield 37, 3) := by decide +kernel
theorem dX8_init_59 : decode cX8_init 59 = .ok (.aload_n 0, 1) := by decide +kernel
theorem dX8_init_60 : decode cX8_init 60 = .ok (.new 40, 3) := by decide +kernel
theorem dX8_init_63 : decode cX8_init 63 = .ok (.dup, 1) := by decide +kernel
theorem dX8_init_64 : decode cX8_init 64 = .ok (.invokespecial 42, 3) := by decide +kernel
theorem dX8_init_67 : decode cX8_init 67 = .ok (.putfield 43, 3) := by decide +kernel
theorem dX8_init_70 : decode cX8_init 70 = .ok (.aload_n 0, 1) := by decide +kernel
theorem dX8_init_71 : decode cX8_init 71 = .ok (.new 47, 3) := by decide +kernel
theorem dX8_init_74 : decode cX8_init 74 = .ok (.dup, 1) := by decide +kernel
theorem dX8_init_75 : decode cX8_init 75 = .ok (.invokespecial 49, 3) := by decide +kernel
theorem dX8_init_78 : decode cX8_init 78 = .ok (.putfield 50, 3) := by decide +kernel
theorem dX8_init_81 : decode cX8_init 81 = .ok (.aload_n 0, 1) := by decide +kernel
theorem dX8_init_82 : decode cX8_init 82 = .ok (.new 47, 3) := by decide +kernel
theorem dX8_init_85 : decode cX8_init 85 = .ok (.dup, 1) := by decide +kernel
theorem dX8_init_86 : decode cX8_init 86 = .ok (.invokespecial 49, 3) := by decide +kernel
theorem dX8_init_89 : decode cX8_init 89 = .ok (.putfield 54, 3) := by decide +kernel
theorem dX8_init_92 : decode cX8_init 92 = .ok (.aload_n 0, 1) := by decide +kernel
theorem dX8_init_93 : decode cX8_init 93 = .ok (.new 57, 3) := by decide +kernel
theorem dX8_init_96 : decode cX8_init 96 = .ok (.dup, 1) := by decide +kernel
theorem dX8_init_97 : decode cX8_init 97 = .ok (.invokespecial 59, 3) := by decide +kernel
theorem dX8_init_100 : decode cX8_init 100 = .ok (.putfield 60, 3) := by decide +kernel
theorem dX8_init_103 : decode cX8_init 103 = .ok (.return_, 1) := by decide +kernel
theorem dX8_load_0 : decode cX8_load 0 = .ok (.aload_n 0, 1) := by decide +kernel
theorem dX8_load_1 : decode cX8_load 1 = .ok (.getfield 26, 3) := by decide +kernel
theorem dX8_load_4 : decode cX8_load 4 = .ok (.invokevirtual 64, 3) := by decide +kernel
theorem dX8_load_7 : decode cX8_load 7 = .ok (.ifCond .eq 20, 3) := by decide +kernel
theorem dX8_load_10 : decode cX8_load 10 = .ok (.aload_n 0, 1) := by decide +kernel
theorem dX8_load_11 : decode cX8_load 11 = .ok (.getfield 26, 3) := by decide +kernel
theorem dX8_load_14 : decode cX8_load 14 = .ok (.aload_n 0, 1) := by decide +kernel
theorem dX8_load_15 : decode cX8_load 15 = .ok (.getfield 12, 3) := by decide +kernel
theorem dX8_load_18 : decode cX8_load 18 = .ok (.invokevirtual 68, 3) := by decide +kernel
theorem dX8_load_21 : decode cX8_load 21 = .ok (.invokevirtual 72, 3) := by decide +kernel
theorem dX8_load_24 : decode cX8_load 24 = .ok (.ifCond .ne 13, 3) := by decide +kernel
theorem dX8_load_27 : decode cX8_load 27 = .ok (.new 76, 3) := by decide +kernel
theorem dX8_load_30 : decode cX8_load 30 = .ok (.dup, 1) := by decide +kernel
theorem dX8_load_31 : decode cX8_load 31 = .ok (.ldc 78, 2) := by decide +kernel
theorem dX8_load_33 : decode cX8_load 33 = .ok (.invokespecial 80, 3) := by decide +kernel
theorem dX8_load_36 : decode cX8_load 36 = .ok (.athrow, 1) := by decide +kernel
theorem dX8_load_37 : decode cX8_load 37 = .ok (.aload_n 0, 1) := by decide +kernel
theorem dX8_load_38 : decode cX8_load 38 = .ok (.getfield 19, 3) := by decide +kernel
theorem dX8_load_41 : decode cX8_load 41 = .ok (.aload_n 0, 1) := by decide +kernel
theorem dX8_load_42 : decode cX8_load 42 = .ok (.getfield 12, 3) := by decide +kernel
theorem dX8_load_45 : decode cX8_load 45 = .ok (.invokevirtual 83, 3) := by decide +kernel
theorem dX8_load_48 : decode cX8_load 48 = .ok (.aload_n 0, 1) := by decide +kernel
theorem dX8_load_49 : decode cX8_load 49 = .ok (.getfield 26, 3) := by decide +kernel
theorem dX8_load_52 : decode cX8_load 52 = .ok (.aload_n 0, 1) := by decide +kernel
theorem dX8_load_53 : decode cX8_load 53 = .ok (.getfield 12, 3) := by decide +kernel
theorem dX8_load_56 : decode cX8_load 56 = .ok (.iconst 0, 1) := by decide +kernel
theorem dX8_load_57 : decode cX8_load 57 = .ok (.invokevirtual 87, 3) := by decide +kernel
theorem dX8_load_60 : decode cX8_load 60 = .ok (.aload_n 0, 1) := by decide +kernel
theorem dX8_load_61 : decode cX8_load 61 = .ok (.getfield 12, 3) := by decide +kernel
theorem dX8_load_64 : decode cX8_load 64 = .ok (.iconst 1, 1) := by decide +kernel
theorem dX8_load_65 : decode cX8_load 65 = .ok (.invokevirtual 87, 3) := by decide +kernel
theorem dX8_load_68 : decode cX8_load 68 = .ok (.invokevirtual 91, 3) := by decide +kernel
theorem dX8_load_71 : decode cX8_load 71 = .ok (.aload_n 0, 1) := by decide +kernel
theorem dX8_load_72 : decode cX8_load 72 = .ok (.getfield 12, 3) := by decide +kernel
theorem dX8_load_75 : decode cX8_load 75 = .ok (.iconst 0, 1) := by decide +kernel
theorem dX8_load_76 : decode cX8_load 76 = .ok (.invokevirtual 87, 3) := by decide +kernel
theorem dX8_load_79 : decode cX8_load 79 = .ok (.invokevirtual 95, 3) := by decide +kernel
theorem dX8_load_82 : decode cX8_load 82 = .ok (.aload_n 0, 1) := by decide +kernel
theorem dX8_load_83 : decode cX8_load 83 = .ok (.getfield 12, 3) := by decide +kernel
theorem dX8_load_86 : decode cX8_load 86 = .ok (.iconst 1, 1) := by decide +kernel
theorem dX8_load_87 : decode cX8_load 87 = .ok (.invokevirtual 87, 3) := by decide +kernel
theorem dX8_load_90 : decode cX8_load 90 = .ok (.invokevirtual 95, 3) := by decide +kernel
theorem dX8_load_93 : decode cX8_load 93 = .ok (.iadd, 1) := by decide +kernel
theorem dX8_load_94 : decode cX8_load 94 = .ok (.ireturn, 1) := by decide +kernel
theorem dX8_insert_0 : decode cX8_insert 0 = .ok (.aload_n 0, 1) := by decide +kernel
theorem dX8_insert_1 : decode cX8_insert 1 = .ok (.iload_n 1, 1) := by decide +kernel
theorem dX8_insert_2 : decode cX8_insert 2 = .ok (.invokevirtual 100, 3) := by decide +kernel
theorem dX8_insert_5 : decode cX8_insert 5 = .ok (.astore 4, 2) := by decide +kernel
theorem dX8_insert_7 : decode cX8_insert 7 = .ok (.iload_n 2, 1) := by decide +kernel
theorem dX8_insert_8 : decode cX8_insert 8 = .ok (.ifCond .lt 12, 3) := by decide +kernel
theorem dX8_insert_11 : decode cX8_insert 11 = .ok (.iload_n 2, 1) := by decide +kernel
theorem dX8_insert_12 : decode cX8_insert 12 = .ok (.aload 4, 2) := by decide +kernel
theorem dX8_insert_14 : decode cX8_insert 14 = .ok (.invokevirtual 95, 3) := by decide +kernel
theorem dX8_insert_17 : decode cX8_insert 17 = .ok (.if_icmp .le 13, 3) := by decide +kernel
theorem dX8_insert_20 : decode cX8_insert 20 = .ok (.new 103, 3) := by decide +kernel
theorem dX8_insert_23 : decode cX8_insert 23 = .ok (.dup, 1) := by decide +kernel
theorem dX8_insert_24 : decode cX8_insert 24 = .ok (.ldc 105, 2) := by decide +kernel
theorem dX8_insert_26 : decode cX8_insert 26 = .ok (.invokespecial 107, 3) := by decide +kernel
theorem dX8_insert_29 : decode cX8_insert 29 = .ok (.athrow, 1) := by decide +kernel
theorem dX8_insert_30 : decode cX8_insert 30 = .ok (.aload_n 0, 1) := by decide +kernel
theorem dX8_insert_31 : decode cX8_insert 31 = .ok (.iload_n 3, 1) := by decide +kernel
theorem dX8_insert_32 : decode cX8_insert 32 = .ok (.invokevirtual 108, 3) := by decide +kernel
theorem dX8_insert_35 : decode cX8_insert 35 = .ok (.aload 4, 2) := by decide +kernel
theorem dX8_insert_37 : decode cX8_insert 37 = .ok (.invokevirtual 95, 3) := by decide +kernel
theorem dX8_insert_40 : decode cX8_insert 40 = .ok (.bipush 20, 2) := by decide +kernel
theorem dX8_insert_42 : decode cX8_insert 42 = .ok (.if_icmp .lt 13, 3) := by decide +kernel
theorem dX8_insert_45 : decode cX8_insert 45 = .ok (.new 112, 3) := by decide +kernel
theorem dX8_insert_48 : decode cX8_insert 48 = .ok (.dup, 1) := by decide +kernel
theorem dX8_insert_49 : decode cX8_insert 49 = .ok (.ldc 114, 2) := by decide +kernel
theorem dX8_insert_51 : decode cX8_insert 51 = .ok (.invokespecial 116, 3) := by decide +kernel
theorem dX8_insert_54 : decode cX8_insert 54 = .ok (.athrow, 1) := by decide +kernel
theorem dX8_insert_55 : decode cX8_insert 55 = .ok (.aload_n 0, 1) := by decide +kernel
theorem dX8_insert_56 : decode cX8_insert 56 = .ok (.getfield 19, 3) := by decide +kernel
theorem dX8_insert_59 : decode cX8_insert 59 = .ok (.aload_n 0, 1) := by decide +kernel
theorem dX8_insert_60 : decode cX8_insert 60 = .ok (.getfield 12, 3) := by decide +kernel
theorem dX8_insert_63 : decode cX8_insert 63 = .ok (.invokevirtual 83, 3) := by decide +kernel
theorem dX8_insert_66 : decode cX8_insert 66 = .ok (.aload 4, 2) := by decide +kernel
theorem dX8_insert_68 : decode cX8_insert 68 = .ok (.iload_n 2, 1) := by decide +kernel
theorem dX8_insert_69 : decode cX8_insert 69 = .ok (.iload_n 3, 1) := by decide +kernel
theorem dX8_insert_70 : decode cX8_insert 70 = .ok (.invokevirtual 117, 3) := by decide +kernel
theorem dX8_insert_73 : decode cX8_insert 73 = .ok (.aload 4, 2) := by decide +kernel
theorem dX8_insert_75 : decode cX8_insert 75 = .ok (.invokevirtual 95, 3) := by decide +kernel
theorem dX8_insert_78 : decode cX8_insert 78 = .ok (.ireturn, 1) := by decide +kernel
theorem dX8_remove_0 : decode cX8_remove 0 = .ok (.aload_n 0, 1) := by decide +kernel
theorem dX8_remove_1 : decode cX8_remove 1 = .ok (.iload_n 1, 1) := by decide +kernel
theorem dX8_remove_2 : decode cX8_remove 2 = .ok (.invokevirtual 100, 3) := by decide +kernel
theorem dX8_remove_5 : decode cX8_remove 5 = .ok (.astore_n 3, 1) := by decide +kernel
theorem dX8_remove_6 : decode cX8_remove 6 = .ok (.aload_n 3, 1) := by decide +kernel
theorem dX8_remove_7 : decode cX8_remove 7 = .ok (.iload_n 2, 1) := by decide +kernel
theorem dX8_remove_8 : decode cX8_remove 8 = .ok (.invokestatic 121, 3) := by decide +kernel
theorem dX8_remove_11 : decode cX8_remove 11 = .ok (.aload_n 0, 1) := by decide +kernel
theorem dX8_remove_12 : decode cX8_remove 12 = .ok (.getfield 19, 3) := by decide +kernel
theorem dX8_remove_15 : decode cX8_remove 15 = .ok (.aload_n 0, 1) := by decide +kernel
theorem dX8_remove_16 : decode cX8_remove 16 = .ok (.getfield 12, 3) := by decide +kernel
theorem dX8_remove_19 : decode cX8_remove 19 = .ok (.invokevirtual 83, 3) := by decide +kernel
theorem dX8_remove_22 : decode cX8_remove 22 = .ok (.aload_n 3, 1) := by decide +kernel
theorem dX8_remove_23 : decode cX8_remove 23 = .ok (.iload_n 2, 1) := by decide +kernel
theorem dX8_remove_24 : decode cX8_remove 24 = .ok (.invokevirtual 125, 3) := by decide +kernel
theorem dX8_remove_27 : decode cX8_remove 27 = .ok (.istore 4, 2) := by decide +kernel
theorem dX8_remove_29 : decode cX8_remove 29 = .ok (.aload_n 3, 1) := by decide +kernel
theorem dX8_remove_30 : decode cX8_remove 30 = .ok (.iload_n 2, 1) := by decide +kernel
theorem dX8_remove_31 : decode cX8_remove 31 = .ok (.invokevirtual 129, 3) := by decide +kernel
theorem dX8_remove_34 : decode cX8_remove 34 = .ok (.iload 4, 2) := by decide +kernel
theorem dX8_remove_36 : decode cX8_remove 36 = .ok (.ireturn, 1) := by decide +kernel
theorem dX8_replace_0 : decode cX8_replace 0 = .ok (.aload_n 0, 1) := by decide +kernel
theorem dX8_replace_1 : decode cX8_replace 1 = .ok (.iload_n 1, 1) := by decide +kernel
theorem dX8_replace_2 : decode cX8_replace 2 = .ok (.invokevirtual 100, 3) := by decide +kernel
theorem dX8_replace_5 : decode cX8_replace 5 = .ok (.astore 4, 2) := by decide +kernel
theorem dX8_replace_7 : decode cX8_replace 7 = .ok (.aload 4, 2) := by decide +kernel
theorem dX8_replace_9 : decode cX8_replace 9 = .ok (.iload_n 2, 1) := by decide +kernel
theorem dX8_replace_10 : decode cX8_replace 10 = .ok (.invokestatic 121, 3) := by decide +kernel
theorem dX8_replace_13 : decode cX8_replace 13 = .ok (.aload_n 0, 1) := by decide +kernel
theorem dX8_replace_14 : decode cX8_replace 14 = .ok (.iload_n 3, 1) := by decide +kernel
theorem dX8_replace_15 : decode cX8_replace 15 = .ok (.invokevirtual 108, 3) := by decide +kernel
theorem dX8_replace_18 : decode cX8_replace 18 = .ok (.aload_n 0, 1) := by decide +kernel
theorem dX8_replace_19 : decode cX8_replace 19 = .ok (.getfield 19, 3) := by decide +kernel
theorem dX8_replace_22 : decode cX8_replace 22 = .ok (.aload_n 0, 1) := by decide +kernel
theorem dX8_replace_23 : decode cX8_replace 23 = .ok (.getfield 12, 3) := by decide +kernel
theorem dX8_replace_26 : decode cX8_replace 26 = .ok (.invokevirtual 83, 3) := by decide +kernel
theorem dX8_replace_29 : decode cX8_replace 29 = .ok (.aload 4, 2) := by decide +kernel
theorem dX8_replace_31 : decode cX8_replace 31 = .ok (.iload_n 2, 1) := by decide +kernel
theorem dX8_replace_32 : decode cX8_replace 32 = .ok (.invokevirtual 125, 3) := by decide +kernel
theorem dX8_replace_35 : decode cX8_replace 35 = .ok (.istore 5, 2) := by decide +kernel
theorem dX8_replace_37 : decode cX8_replace 37 = .ok (.aload 4, 2) := by decide +kernel
theorem dX8_replace_39 : decode cX8_replace 39 = .ok (.iload_n 2, 1) := by decide +kernel
theorem dX8_replace_40 : decode cX8_replace 40 = .ok (.iload_n 3, 1) := by decide +kernel
theorem dX8_replace_41 : decode cX8_replace 41 = .ok (.invokevirtual 132, 3) := by decide +kernel
theorem dX8_replace_44 : decode cX8_replace 44 = .ok (.iload 5, 2) := by decide +kernel
theorem dX8_replace_46 : decode cX8_replace 46 = .ok (.ireturn, 1) := by decide +kernel
theorem dX8_exchange_0 : decode cX8_exchange 0 = .ok (.aload_n 0, 1) := by decide +kernel
theorem dX8_exchange_1 : decode cX8_exchange 1 = .ok (.getfield 19, 3) := by decide +kernel
theorem dX8_exchange_4 : decode cX8_exchange 4 = .ok (.aload_n 0, 1) := by decide +kernel
theorem dX8_exchange_5 : decode cX8_exchange 5 = .ok (.getfield 12, 3) := by decide +kernel
theorem dX8_exchange_8 : decode cX8_exchange 8 = .ok (.invokevirtual 83, 3) := by decide +kernel
theorem dX8_exchange_11 : decode cX8_exchange 11 = .ok (.aload_n 0, 1) := by decide +kernel
theorem dX8_exchange_12 : decode cX8_exchange 12 = .ok (.getfield 12, 3) := by decide +kernel
theorem dX8_exchange_15 : decode cX8_exchange 15 = .ok (.invokevirtual 135, 3) := by decide +kernel
theorem dX8_exchange_18 : decode cX8_exchange 18 = .ok (.aload_n 0, 1) := by decide +kernel
theorem dX8_exchange_19 : decode cX8_exchange 19 = .ok (.getfield 12, 3) := by decide +kernel
theorem dX8_exchange_22 : decode cX8_exchange 22 = .ok (.iconst 0, 1) := by decide +kernel
theorem dX8_exchange_23 : decode cX8_exchange 23 = .ok (.invokevirtual 87, 3) := by decide +kernel
theorem dX8_exchange_26 : decode cX8_exchange 26 = .ok (.invokevirtual 95, 3) := by decide +kernel
theorem dX8_exchange_29 : decode cX8_exchange 29 = .ok (.ireturn, 1) := by decide +kernel
theorem dX8_setAlphabet_0 : decode cX8_setAlphabet 0 = .ok (.iload_n 1, 1) := by decide +kernel
theorem dX8_setAlphabet_1 : decode cX8_setAlphabet 1 = .ok (.iconst 2, 1) := by decide +kernel
theorem dX8_setAlphabet_2 : decode cX8_setAlphabet 2 = .ok (.if_icmp .lt 8, 3) := by decide +kernel
theorem dX8_setAlphabet_5 : decode cX8_setAlphabet 5 = .ok (.iload_n 1, 1) := by decide +kernel
theorem dX8_setAlphabet_6 : decode cX8_setAlphabet 6 = .ok (.iconst 4, 1) := by decide +kernel
theorem dX8_setAlphabet_7 : decode cX8_setAlphabet 7 = .ok (.if_icmp .le 13, 3) := by decide +kernel
theorem dX8_setAlphabet_10 : decode cX8_setAlphabet 10 = .ok (.new 76, 3) := by decide +kernel
theorem dX8_setAlphabet_13 : decode cX8_setAlphabet 13 = .ok (.dup, 1) := by decide +kernel
theorem dX8_setAlphabet_14 : decode cX8_setAlphabet 14 = .ok (.ldc 138, 2) := by decide +kernel
theorem dX8_setAlphabet_16 : decode cX8_setAlphabet 16 = .ok (.invokespecial 80, 3) := by decide +kernel
theorem dX8_setAlphabet_19 : decode cX8_setAlphabet 19 = .ok (.athrow, 1) := by decide +kernel
theorem dX8_setAlphabet_20 : decode cX8_setAlphabet 20 = .ok (.aload_n 0, 1) := by decide +kernel
theorem dX8_setAlphabet_21 : decode cX8_setAlphabet 21 = .ok (.getfield 12, 3) := by decide +kernel
theorem dX8_setAlphabet_24 : decode cX8_setAlphabet 24 = .ok (.iconst 0, 1) := by decide +kernel
theorem dX8_setAlphabet_25 : decode cX8_setAlphabet 25 = .ok (.invokevirtual 87, 3) := by decide +kernel
theorem dX8_setAlphabet_28 : decode cX8_setAlphabet 28 = .ok (.iload_n 1, 1) := by decide +kernel
theorem dX8_setAlphabet_29 : decode cX8_setAlphabet 29 = .ok (.invokevirtual 140, 3) := by decide +kernel
theorem dX8_setAlphabet_32 : decode cX8_setAlphabet 32 = .ok (.ifCond .eq 18, 3) := by decide +kernel
theorem dX8_setAlphabet_35 : decode cX8_setAlphabet 35 = .ok (.aload_n 0, 1) := by decide +kernel
theorem dX8_setAlphabet_36 : decode cX8_setAlphabet 36 = .ok (.getfield 12, 3) := by decide +kernel
theorem dX8_setAlphabet_39 : decode cX8_setAlphabet 39 = .ok (.iconst 1, 1) := by decide +kernel
theorem dX8_setAlphabet_40 : decode cX8_setAlphabet 40 = .ok (.invokevirtual 87, 3) := by decide +kernel
theorem dX8_setAlphabet_43 : decode cX8_setAlphabet 43 = .ok (.iload_n 1, 1) := by decide +kernel
theorem dX8_setAlphabet_44 : decode cX8_setAlphabet 44 = .ok (.invokevirtual 140, 3) := by decide +kernel
theorem dX8_setAlphabet_47 : decode cX8_setAlphabet 47 = .ok (.ifCond .ne 13, 3) := by decide +kernel
theorem dX8_setAlphabet_50 : decode cX8_setAlphabet 50 = .ok (.new 112, 3) := by decide +kernel
theorem dX8_setAlphabet_53 : decode cX8_setAlphabet 53 = .ok (.dup, 1) := by decide +kernel
theorem dX8_setAlphabet_54 : decode cX8_setAlphabet 54 = .ok (.ldc 141, 2) := by decide +kernel
theorem dX8_setAlphabet_56 : decode cX8_setAlphabet 56 = .ok (.invokespecial 116, 3) := by decide +kernel
theorem dX8_setAlphabet_59 : decode cX8_setAlphabet 59 = .ok (.athrow, 1) := by decide +kernel
theorem dX8_setAlphabet_60 : decode cX8_setAlphabet 60 = .ok (.aload_n 0, 1) := by decide +kernel
theorem dX8_setAlphabet_61 : decode cX8_setAlphabet 61 = .ok (.getfield 19, 3) := by decide +kernel
theorem dX8_setAlphabet_64 : decode cX8_setAlphabet 64 = .ok (.aload_n 0, 1) := by decide +kernel
theorem dX8_setAlphabet_65 : decode cX8_setAlphabet 65 = .ok (.getfield 12, 3) := by decide +kernel
theorem dX8_setAlphabet_68 : decode cX8_setAlphabet 68 = .ok (.invokevirtual 83, 3) := by decide +kernel
theorem dX8_setAlphabet_71 : decode cX8_setAlphabet 71 = .ok (.aload_n 0, 1) := by decide +kernel
theorem dX8_setAlphabet_72 : decode cX8_setAlphabet 72 = .ok (.getfield 12, 3) := by decide +kernel
theorem dX8_setAlphabet_75 : decode cX8_setAlphabet 75 = .ok (.invokevirtual 68, 3) := by decide +kernel
theorem dX8_setAlphabet_78 : decode cX8_setAlphabet 78 = .ok (.istore_n 2, 1) := by decide +kernel
theorem dX8_setAlphabet_79 : decode cX8_setAlphabet 79 = .ok (.aload_n 0, 1) := by decide +kernel
theorem dX8_setAlphabet_80 : decode cX8_setAlphabet 80 = .ok (.getfield 12, 3) := by decide +kernel
theorem dX8_setAlphabet_83 : decode cX8_setAlphabet 83 = .ok (.iload_n 1, 1) := by decide +kernel
theorem dX8_setAlphabet_84 : decode cX8_setAlphabet 84 = .ok (.invokevirtual 143, 3) := by decide +kernel
theorem dX8_setAlphabet_87 : decode cX8_setAlphabet 87 = .ok (.iload_n 2, 1) := by decide +kernel
theorem dX8_setAlphabet_88 : decode cX8_setAlphabet 88 = .ok (.ireturn, 1) := by decide +kernel
theorem dX8_length_0 : decode cX8_length 0 = .ok (.aload_n 0, 1) := by decide +kernel
theorem dX8_length_1 : decode cX8_length 1 = .ok (.iload_n 1, 1) := by decide +kernel
theorem dX8_length_2 : decode cX8_length 2 = .ok (.invokevirtual 100, 3) := by decide +kernel
theorem dX8_length_5 : decode cX8_length 5 = .ok (.invokevirtual 95, 3) := by decide +kernel
theorem dX8_length_8 : decode cX8_length 8 = .ok (.ireturn, 1) := by decide +kernel
theorem dX8_letter_0 : decode cX8_letter 0 = .ok (.aload_n 0, 1) := by decide +kernel
theorem dX8_letter_1 : decode cX8_letter 1 = .ok (.iload_n 1, 1) := by decide +kernel
theorem dX8_letter_2 : decode cX8_letter 2 = .ok (.invokevirtual 100, 3) := by decide +kernel
theorem dX8_letter_5 : decode cX8_letter 5 = .ok (.astore_n 3, 1) := by decide +kernel
theorem dX8_letter_6 : decode cX8_letter 6 = .ok (.aload_n 3, 1) := by decide +kernel
theorem dX8_letter_7 : decode cX8_letter 7 = .ok (.iload_n 2, 1) := by decide +kernel
theorem dX8_letter_8 : decode cX8_letter 8 = .ok (.invokestatic 121, 3) := by decide +kernel
theorem dX8_letter_11 : decode cX8_letter 11 = .ok (.aload_n 3, 1) := by decide +kernel
theorem dX8_letter_12 : decode cX8_letter 12 = .ok (.iload_n 2, 1) := by decide +kernel
theorem dX8_letter_13 : decode cX8_letter 13 = .ok (.invokevirtual 125, 3) := by decide +kernel
theorem dX8_letter_16 : decode cX8_letter 16 = .ok (.ireturn, 1) := by decide +kernel
theorem dX8_distance_0 : decode cX8_distance 0 = .ok (.aload_n 0, 1) := by decide +kernel
theorem dX8_distance_1 : decode cX8_distance 1 = .ok (.invokevirtual 146, 3) := by decide +kernel
theorem dX8_distance_4 : decode cX8_distance 4 = .ok (.aload_n 0, 1) := by decide +kernel
theorem dX8_distance_5 : decode cX8_distance 5 = .ok (.getfield 12, 3) := by decide +kernel
theorem dX8_distance_8 : decode cX8_distance 8 = .ok (.iconst 0, 1) := by decide +kernel
theorem dX8_distance_9 : decode cX8_distance 9 = .ok (.invokevirtual 87, 3) := by decide +kernel
theorem dX8_distance_12 : decode cX8_distance 12 = .ok (.invokevirtual 95, 3) := by decide +kernel
theorem dX8_distance_15 : decode cX8_distance 15 = .ok (.aload_n 0, 1) := by decide +kernel
theorem dX8_distance_16 : decode cX8_distance 16 = .ok (.getfield 12, 3) := by decide +kernel
theorem dX8_distance_19 : decode cX8_distance 19 = .ok (.iconst 1, 1) := by decide +kernel
theorem dX8_distance_20 : decode cX8_distance 20 = .ok (.invokevirtual 87, 3) := by decide +kernel
theorem dX8_distance_23 : decode cX8_distance 23 = .ok (.invokevirtual 95, 3) := by decide +kernel
theorem dX8_distance_26 : decode cX8_distance 26 = .ok (.invokevirtual 150, 3) := by decide +kernel
theorem dX8_distance_29 : decode cX8_distance 29 = .ok (.ireturn, 1) := by decide +kernel
theorem dX8_prefix_0 : decode cX8_prefix 0 = .ok (.aload_n 0, 1) := by decide +kernel
theorem dX8_prefix_1 : decode cX8_prefix 1 = .ok (.iload_n 1, 1) := by decide +kernel
theorem dX8_prefix_2 : decode cX8_prefix 2 = .ok (.iload_n 2, 1) := by decide +kernel
theorem dX8_prefix_3 : decode cX8_prefix 3 = .ok (.iconst 0, 1) := by decide +kernel
theorem dX8_prefix_4 : decode cX8_prefix 4 = .ok (.invokevirtual 153, 3) := by decide +kernel
theorem dX8_prefix_7 : decode cX8_prefix 7 = .ok (.aload_n 0, 1) := by decide +kernel
theorem dX8_prefix_8 : decode cX8_prefix 8 = .ok (.invokevirtual 146, 3) := by decide +kernel
theorem dX8_prefix_11 : decode cX8_prefix 11 = .ok (.iload_n 1, 1) := by decide +kernel
theorem dX8_prefix_12 : decode cX8_prefix 12 = .ok (.iload_n 2, 1) := by decide +kernel
theorem dX8_prefix_13 : decode cX8_prefix 13 = .ok (.invokevirtual 150, 3) := by decide +kernel
theorem dX8_prefix_16 : decode cX8_prefix 16 = .ok (.ireturn, 1) := by decide +kernel
theorem dX8_steps_0 : decode cX8_steps 0 = .ok (.aload_n 0, 1) := by decide +kernel
theorem dX8_steps_1 : decode cX8_steps 1 = .ok (.invokevirtual 157, 3) := by decide +kernel
theorem dX8_steps_4 : decode cX8_steps 4 = .ok (.invokevirtual 161, 3) := by decide +kernel
theorem dX8_steps_7 : decode cX8_steps 7 = .ok (.ireturn, 1) := by decide +kernel
theorem dX8_step_0 : decode cX8_step 0 = .ok (.iload_n 1, 1) := by decide +kernel
theorem dX8_step_1 : decode cX8_step 1 = .ok (.ifCond .ge 13, 3) := by decide +kernel
theorem dX8_step_4 : decode cX8_step 4 = .ok (.new 103, 3) := by decide +kernel
theorem dX8_step_7 : decode cX8_step 7 = .ok (.dup, 1) := by decide +kernel
theorem dX8_step_8 : decode cX8_step 8 = .ok (.ldc 162, 2) := by decide +kernel
theorem dX8_step_10 : decode cX8_step 10 = .ok (.invokespecial 107, 3) := by decide +kernel
theorem dX8_step_13 : decode cX8_step 13 = .ok (.athrow, 1) := by decide +kernel
theorem dX8_step_14 : decode cX8_step 14 = .ok (.aload_n 0, 1) := by decide +kernel
theorem dX8_step_15 : decode cX8_step 15 = .ok (.invokevirtual 157, 3) := by decide +kernel
theorem dX8_step_18 : decode cX8_step 18 = .ok (.iload_n 1, 1) := by decide +kernel
theorem dX8_step_19 : decode cX8_step 19 = .ok (.invokevirtual 164, 3) := by decide +kernel
theorem dX8_step_22 : decode cX8_step 22 = .ok (.ireturn, 1) := by decide +kernel
theorem dX8_count_0 : decode cX8_count 0 = .ok (.iload_n 1, 1) := by decide +kernel
theorem dX8_count_1 : decode cX8_count 1 = .ok (.ifCond .lt 8, 3) := by decide +kernel
theorem dX8_count_4 : decode cX8_count 4 = .ok (.iload_n 1, 1) := by decide +kernel
theorem dX8_count_5 : decode cX8_count 5 = .ok (.iconst 3, 1) := by decide +kernel
theorem dX8_count_6 : decode cX8_count 6 = .ok (.if_icmp .le 13, 3) := by decide +kernel
theorem dX8_count_9 : decode cX8_count 9 = .ok (.new 103, 3) := by decide +kernel
theorem dX8_count_12 : decode cX8_count 12 = .ok (.dup, 1) := by decide +kernel
theorem dX8_count_13 : decode cX8_count 13 = .ok (.ldc 165, 2) := by decide +kernel
theorem dX8_count_15 : decode cX8_count 15 = .ok (.invokespecial 107, 3) := by decide +kernel
theorem dX8_count_18 : decode cX8_count 18 = .ok (.athrow, 1) := by decide +kernel
theorem dX8_count_19 : decode cX8_count 19 = .ok (.aload_n 0, 1) := by decide +kernel
theorem dX8_count_20 : decode cX8_count 20 = .ok (.invokevirtual 157, 3) := by decide +kernel
theorem dX8_count_23 : decode cX8_count 23 = .ok (.iload_n 1, 1) := by decide +kernel
theorem dX8_count_24 : decode cX8_count 24 = .ok (.invokevirtual 167, 3) := by decide +kernel
theorem dX8_count_27 : decode cX8_count 27 = .ok (.ireturn, 1) := by decide +kernel
theorem dX8_within_0 : decode cX8_within 0 = .ok (.iload_n 1, 1) := by decide +kernel
theorem dX8_within_1 : decode cX8_within 1 = .ok (.invokestatic 170, 3) := by decide +kernel
theorem dX8_within_4 : decode cX8_within 4 = .ok (.aload_n 0, 1) := by decide +kernel
theorem dX8_within_5 : decode cX8_within 5 = .ok (.invokevirtual 173, 3) := by decide +kernel
theorem dX8_within_8 : decode cX8_within 8 = .ok (.istore_n 2, 1) := by decide +kernel
theorem dX8_within_9 : decode cX8_within 9 = .ok (.iload_n 2, 1) := by decide +kernel
theorem dX8_within_10 : decode cX8_within 10 = .ok (.iload_n 1, 1) := by decide +kernel
theorem dX8_within_11 : decode cX8_within 11 = .ok (.if_icmp .gt 7, 3) := by decide +kernel
theorem dX8_within_14 : decode cX8_within 14 = .ok (.iload_n 2, 1) := by decide +kernel
theorem dX8_within_15 : decode cX8_within 15 = .ok (.goto 4, 3) := by decide +kernel
theorem dX8_within_18 : decode cX8_within 18 = .ok (.iconst (-1), 1) := by decide +kernel
theorem dX8_within_19 : decode cX8_within 19 = .ok (.ireturn, 1) := by decide +kernel
theorem dX8_band_0 : decode cX8_band 0 = .ok (.iload_n 1, 1) := by decide +kernel
theorem dX8_band_1 : decode cX8_band 1 = .ok (.invokestatic 170, 3) := by decide +kernel
theorem dX8_band_4 : decode cX8_band 4 = .ok (.aload_n 0, 1) := by decide +kernel
theorem dX8_band_5 : decode cX8_band 5 = .ok (.getfield 12, 3) := by decide +kernel
theorem dX8_band_8 : decode cX8_band 8 = .ok (.iconst 0, 1) := by decide +kernel
theorem dX8_band_9 : decode cX8_band 9 = .ok (.invokevirtual 87, 3) := by decide +kernel
theorem dX8_band_12 : decode cX8_band 12 = .ok (.invokevirtual 95, 3) := by decide +kernel
theorem dX8_band_15 : decode cX8_band 15 = .ok (.istore_n 2, 1) := by decide +kernel
theorem dX8_band_16 : decode cX8_band 16 = .ok (.aload_n 0, 1) := by decide +kernel
theorem dX8_band_17 : decode cX8_band 17 = .ok (.getfield 12, 3) := by decide +kernel
theorem dX8_band_20 : decode cX8_band 20 = .ok (.iconst 1, 1) := by decide +kernel
theorem dX8_band_21 : decode cX8_band 21 = .ok (.invokevirtual 87, 3) := by decide +kernel
theorem dX8_band_24 : decode cX8_band 24 = .ok (.invokevirtual 95, 3) := by decide +kernel
theorem dX8_band_27 : decode cX8_band 27 = .ok (.istore_n 3, 1) := by decide +kernel
theorem dX8_band_28 : decode cX8_band 28 = .ok (.iconst 0, 1) := by decide +kernel
theorem dX8_band_29 : decode cX8_band 29 = .ok (.istore 4, 2) := by decide +kernel
theorem dX8_band_31 : decode cX8_band 31 = .ok (.iconst 0, 1) := by decide +kernel
theorem dX8_band_32 : decode cX8_band 32 = .ok (.istore 5, 2) := by decide +kernel
theorem dX8_band_34 : decode cX8_band 34 = .ok (.iload 5, 2) := by decide +kernel
theorem dX8_band_36 : decode cX8_band 36 = .ok (.iload_n 2, 1) := by decide +kernel
theorem dX8_band_37 : decode cX8_band 37 = .ok (.if_icmp .gt 45, 3) := by decide +kernel
theorem dX8_band_40 : decode cX8_band 40 = .ok (.iconst 0, 1) := by decide +kernel
theorem dX8_band_41 : decode cX8_band 41 = .ok (.iload 5, 2) := by decide +kernel
theorem dX8_band_43 : decode cX8_band 43 = .ok (.iload_n 1, 1) := by decide +kernel
theorem dX8_band_44 : decode cX8_band 44 = .ok (.isub, 1) := by decide +kernel
theorem dX8_band_45 : decode cX8_band 45 = .ok (.invokestatic 176, 3) := by decide +kernel
theorem dX8_band_48 : decode cX8_band 48 = .ok (.istore 6, 2) := by decide +kernel
theorem dX8_band_50 : decode cX8_band 50 = .ok (.iload_n 3, 1) := by decide +kernel
theorem dX8_band_51 : decode cX8_band 51 = .ok (.iload 5, 2) := by decide +kernel
theorem dX8_band_53 : decode cX8_band 53 = .ok (.iload_n 1, 1) := by decide +kernel
theorem dX8_band_54 : decode cX8_band 54 = .ok (.iadd, 1) := by decide +kernel
theorem dX8_band_55 : decode cX8_band 55 = .ok (.invokestatic 181, 3) := by decide +kernel
theorem dX8_band_58 : decode cX8_band 58 = .ok (.istore 7, 2) := by decide +kernel
theorem dX8_band_60 : decode cX8_band 60 = .ok (.iload 4, 2) := by decide +kernel
theorem dX8_band_62 : decode cX8_band 62 = .ok (.iconst 0, 1) := by decide +kernel
theorem dX8_band_63 : decode cX8_band 63 = .ok (.iload 7, 2) := by decide +kernel
theorem dX8_band_65 : decode cX8_band 65 = .ok (.iload 6, 2) := by decide +kernel
theorem dX8_band_67 : decode cX8_band 67 = .ok (.isub, 1) := by decide +kernel
theorem dX8_band_68 : decode cX8_band 68 = .ok (.iconst 1, 1) := by decide +kernel
theorem dX8_band_69 : decode cX8_band 69 = .ok (.iadd, 1) := by decide +kernel
theorem dX8_band_70 : decode cX8_band 70 = .ok (.invokestatic 176, 3) := by decide +kernel
theorem dX8_band_73 : decode cX8_band 73 = .ok (.iadd, 1) := by decide +kernel
theorem dX8_band_74 : decode cX8_band 74 = .ok (.istore 4, 2) := by decide +kernel
theorem dX8_band_76 : decode cX8_band 76 = .ok (.iinc 5 1, 3) := by decide +kernel
theorem dX8_band_79 : decode cX8_band 79 = .ok (.goto (-45), 3) := by decide +kernel
theorem dX8_band_82 : decode cX8_band 82 = .ok (.iload 4, 2) := by decide +kernel
theorem dX8_band_84 : decode cX8_band 84 = .ok (.ireturn, 1) := by decide +kernel
theorem dX8_similarity_0 : decode cX8_similarity 0 = .ok (.aload_n 0, 1) := by decide +kernel
theorem dX8_similarity_1 : decode cX8_similarity 1 = .ok (.getfield 12, 3) := by decide +kernel
theorem dX8_similarity_4 : decode cX8_similarity 4 = .ok (.iconst 0, 1) := by decide +kernel
theorem dX8_similarity_5 : decode cX8_similarity 5 = .ok (.invokevirtual 87, 3) := by decide +kernel
theorem dX8_similarity_8 : decode cX8_similarity 8 = .ok (.invokevirtual 95, 3) := by decide +kernel
theorem dX8_similarity_11 : decode cX8_similarity 11 = .ok (.aload_n 0, 1) := by decide +kernel
theorem dX8_similarity_12 : decode cX8_similarity 12 = .ok (.getfield 12, 3) := by decide +kernel
theorem dX8_similarity_15 : decode cX8_similarity 15 = .ok (.iconst 1, 1) := by decide +kernel
theorem dX8_similarity_16 : decode cX8_similarity 16 = .ok (.invokevirtual 87, 3) := by decide +kernel
theorem dX8_similarity_19 : decode cX8_similarity 19 = .ok (.invokevirtual 95, 3) := by decide +kernel
theorem dX8_similarity_22 : decode cX8_similarity 22 = .ok (.invokestatic 176, 3) := by decide +kernel
theorem dX8_similarity_25 : decode cX8_similarity 25 = .ok (.istore_n 1, 1) := by decide +kernel
theorem dX8_similarity_26 : decode cX8_similarity 26 = .ok (.iload_n 1, 1) := by decide +kernel
theorem dX8_similarity_27 : decode cX8_similarity 27 = .ok (.ifCond .ne 5, 3) := by decide +kernel
theorem dX8_similarity_30 : decode cX8_similarity 30 = .ok (.dconst 1, 1) := by decide +kernel
theorem dX8_similarity_31 : decode cX8_similarity 31 = .ok (.dreturn, 1) := by decide +kernel
theorem dX8_similarity_32 : decode cX8_similarity 32 = .ok (.dconst 1, 1) := by decide +kernel
theorem dX8_similarity_33 : decode cX8_similarity 33 = .ok (.aload_n 0, 1) := by decide +kernel
theorem dX8_similarity_34 : decode cX8_similarity 34 = .ok (.invokevirtual 173, 3) := by decide +kernel
theorem dX8_similarity_37 : decode cX8_similarity 37 = .ok (.i2d, 1) := by decide +kernel
theorem dX8_similarity_38 : decode cX8_similarity 38 = .ok (.iload_n 1, 1) := by decide +kernel
theorem dX8_similarity_39 : decode cX8_similarity 39 = .ok (.i2d, 1) := by decide +kernel
theorem dX8_similarity_40 : decode cX8_similarity 40 = .ok (.ddiv, 1) := by decide +kernel
theorem dX8_similarity_41 : decode cX8_similarity 41 = .ok (.dsub, 1) := by decide +kernel
theorem dX8_similarity_42 : decode cX8_similarity 42 = .ok (.dreturn, 1) := by decide +kernel
theorem dX8_setBlock_0 : decode cX8_setBlock 0 = .ok (.iload_n 1, 1) := by decide +kernel
theorem dX8_setBlock_1 : decode cX8_setBlock 1 = .ok (.iconst 1, 1) := by decide +kernel
theorem dX8_setBlock_2 : decode cX8_setBlock 2 = .ok (.if_icmp .lt 8, 3) := by decide +kernel
theorem dX8_setBlock_5 : decode cX8_setBlock 5 = .ok (.iload_n 1, 1) := by decide +kernel
theorem dX8_setBlock_6 : decode cX8_setBlock 6 = .ok (.iconst 2, 1) := by decide +kernel
theorem dX8_setBlock_7 : decode cX8_setBlock 7 = .ok (.if_icmp .le 13, 3) := by decide +kernel
theorem dX8_setBlock_10 : decode cX8_setBlock 10 = .ok (.new 76, 3) := by decide +kernel
theorem dX8_setBlock_13 : decode cX8_setBlock 13 = .ok (.dup, 1) := by decide +kernel
theorem dX8_setBlock_14 : decode cX8_setBlock 14 = .ok (.ldc 184, 2) := by decide +kernel
theorem dX8_setBlock_16 : decode cX8_setBlock 16 = .ok (.invokespecial 80, 3) := by decide +kernel
theorem dX8_setBlock_19 : decode cX8_setBlock 19 = .ok (.athrow, 1) := by decide +kernel
theorem dX8_setBlock_20 : decode cX8_setBlock 20 = .ok (.aload_n 0, 1) := by decide +kernel
theorem dX8_setBlock_21 : decode cX8_setBlock 21 = .ok (.getfield 50, 3) := by decide +kernel
theorem dX8_setBlock_24 : decode cX8_setBlock 24 = .ok (.invokevirtual 186, 3) := by decide +kernel
theorem dX8_setBlock_27 : decode cX8_setBlock 27 = .ok (.istore_n 2, 1) := by decide +kernel
theorem dX8_setBlock_28 : decode cX8_setBlock 28 = .ok (.aload_n 0, 1) := by decide +kernel
theorem dX8_setBlock_29 : decode cX8_setBlock 29 = .ok (.getfield 50, 3) := by decide +kernel
theorem dX8_setBlock_32 : decode cX8_setBlock 32 = .ok (.iload_n 1, 1) := by decide +kernel
theorem dX8_setBlock_33 : decode cX8_setBlock 33 = .ok (.invokevirtual 189, 3) := by decide +kernel
theorem dX8_setBlock_36 : decode cX8_setBlock 36 = .ok (.iload_n 2, 1) := by decide +kernel
theorem dX8_setBlock_37 : decode cX8_setBlock 37 = .ok (.ireturn, 1) := by decide +kernel
theorem dX8_measure_0 : decode cX8_measure 0 = .ok (.aload_n 0, 1) := by decide +kernel
theorem dX8_measure_1 : decode cX8_measure 1 = .ok (.getfield 50, 3) := by decide +kernel
theorem dX8_measure_4 : decode cX8_measure 4 = .ok (.aload_n 0, 1) := by decide +kernel
theorem dX8_measure_5 : decode cX8_measure 5 = .ok (.invokevirtual 146, 3) := by decide +kernel
theorem dX8_measure_8 : decode cX8_measure 8 = .ok (.aload_n 0, 1) := by decide +kernel
theorem dX8_measure_9 : decode cX8_measure 9 = .ok (.getfield 12, 3) := by decide +kernel
theorem dX8_measure_12 : decode cX8_measure 12 = .ok (.iconst 0, 1) := by decide +kernel
theorem dX8_measure_13 : decode cX8_measure 13 = .ok (.invokevirtual 87, 3) := by decide +kernel
theorem dX8_measure_16 : decode cX8_measure 16 = .ok (.aload_n 0, 1) := by decide +kernel
theorem dX8_measure_17 : decode cX8_measure 17 = .ok (.getfield 12, 3) := by decide +kernel
theorem dX8_measure_20 : decode cX8_measure 20 = .ok (.iconst 1, 1) := by decide +kernel
theorem dX8_measure_21 : decode cX8_measure 21 = .ok (.invokevirtual 87, 3) := by decide +kernel
theorem dX8_measure_24 : decode cX8_measure 24 = .ok (.invokevirtual 192, 3) := by decide +kernel
theorem dX8_measure_27 : decode cX8_measure 27 = .ok (.aload_n 0, 1) := by decide +kernel
theorem dX8_measure_28 : decode cX8_measure 28 = .ok (.invokevirtual 173, 3) := by decide +kernel
theorem dX8_measure_31 : decode cX8_measure 31 = .ok (.ireturn, 1) := by decide +kernel
theorem dX8_hits_0 : decode cX8_hits 0 = .ok (.aload_n 0, 1) := by decide +kernel
theorem dX8_hits_1 : decode cX8_hits 1 = .ok (.getfield 50, 3) := by decide +kernel
theorem dX8_hits_4 : decode cX8_hits 4 = .ok (.invokevirtual 196, 3) := by decide +kernel
theorem dX8_hits_7 : decode cX8_hits 7 = .ok (.ireturn, 1) := by decide +kernel
theorem dX8_misses_0 : decode cX8_misses 0 = .ok (.aload_n 0, 1) := by decide +kernel
theorem dX8_misses_1 : decode cX8_misses 1 = .ok (.getfield 50, 3) := by decide +kernel
theorem dX8_misses_4 : decode cX8_misses 4 = .ok (.invokevirtual 199, 3) := by decide +kernel
theorem dX8_misses_7 : decode cX8_misses 7 = .ok (.ireturn, 1) := by decide +kernel
theorem dX8_singleSteps_0 : decode cX8_singleSteps 0 = .ok (.aload_n 0, 1) := by decide +kernel
theorem dX8_singleSteps_1 : decode cX8_singleSteps 1 = .ok (.getfield 50, 3) := by decide +kernel
theorem dX8_singleSteps_4 : decode cX8_singleSteps 4 = .ok (.invokevirtual 202, 3) := by decide +kernel
theorem dX8_singleSteps_7 : decode cX8_singleSteps 7 = .ok (.ireturn, 1) := by decide +kernel
theorem dX8_across_0 : decode cX8_across 0 = .ok (.aload_n 0, 1) := by decide +kernel
theorem dX8_across_1 : decode cX8_across 1 = .ok (.iload_n 1, 1) := by decide +kernel
theorem dX8_across_2 : decode cX8_across 2 = .ok (.iload_n 2, 1) := by decide +kernel
theorem dX8_across_3 : decode cX8_across 3 = .ok (.iconst 1, 1) := by decide +kernel
theorem dX8_across_4 : decode cX8_across 4 = .ok (.invokevirtual 153, 3) := by decide +kernel
theorem dX8_across_7 : decode cX8_across 7 = .ok (.aload_n 0, 1) := by decide +kernel
theorem dX8_across_8 : decode cX8_across 8 = .ok (.invokevirtual 146, 3) := by decide +kernel
theorem dX8_across_11 : decode cX8_across 11 = .ok (.iload_n 1, 1) := by decide +kernel
theorem dX8_across_12 : decode cX8_across 12 = .ok (.iload_n 2, 1) := by decide +kernel
theorem dX8_across_13 : decode cX8_across 13 = .ok (.invokevirtual 205, 3) := by decide +kernel
theorem dX8_across_16 : decode cX8_across 16 = .ok (.ireturn, 1) := by decide +kernel
theorem dX8_foundDistance_0 : decode cX8_foundDistance 0 = .ok (.aload_n 0, 1) := by decide +kernel
theorem dX8_foundDistance_1 : decode cX8_foundDistance 1 = .ok (.invokevirtual 208, 3) := by decide +kernel
theorem dX8_foundDistance_4 : decode cX8_foundDistance 4 = .ok (.istore_n 1, 1) := by decide +kernel
theorem dX8_foundDistance_5 : decode cX8_foundDistance 5 = .ok (.aload_n 0, 1) := by decide +kernel
theorem dX8_foundDistance_6 : decode cX8_foundDistance 6 = .ok (.invokevirtual 211, 3) := by decide +kernel
theorem dX8_foundDistance_9 : decode cX8_foundDistance 9 = .ok (.iload_n 1, 1) := by decide +kernel
theorem dX8_foundDistance_10 : decode cX8_foundDistance 10 = .ok (.aload_n 0, 1) := by decide +kernel
theorem dX8_foundDistance_11 : decode cX8_foundDistance 11 = .ok (.getfield 12, 3) := by decide +kernel
theorem dX8_foundDistance_14 : decode cX8_foundDistance 14 = .ok (.iconst 1, 1) := by decide +kernel
theorem dX8_foundDistance_15 : decode cX8_foundDistance 15 = .ok (.invokevirtual 87, 3) := by decide +kernel
theorem dX8_foundDistance_18 : decode cX8_foundDistance 18 = .ok (.invokevirtual 95, 3) := by decide +kernel
theorem dX8_foundDistance_21 : decode cX8_foundDistance 21 = .ok (.invokevirtual 150, 3) := by decide +kernel
theorem dX8_foundDistance_24 : decode cX8_foundDistance 24 = .ok (.ireturn, 1) := by decide +kernel
theorem dX8_foundEnd_0 : decode cX8_foundEnd 0 = .ok (.aload_n 0, 1) := by decide +kernel
theorem dX8_foundEnd_1 : decode cX8_foundEnd 1 = .ok (.getfield 12, 3) := by decide +kernel
theorem dX8_foundEnd_4 : decode cX8_foundEnd 4 = .ok (.iconst 0, 1) := by decide +kernel
theorem dX8_foundEnd_5 : decode cX8_foundEnd 5 = .ok (.invokevirtual 87, 3) := by decide +kernel
theorem dX8_foundEnd_8 : decode cX8_foundEnd 8 = .ok (.invokevirtual 95, 3) := by decide +kernel
theorem dX8_foundEnd_11 : decode cX8_foundEnd 11 = .ok (.istore_n 1, 1) := by decide +kernel
theorem dX8_foundEnd_12 : decode cX8_foundEnd 12 = .ok (.aload_n 0, 1) := by decide +kernel
theorem dX8_foundEnd_13 : decode cX8_foundEnd 13 = .ok (.getfield 12, 3) := by decide +kernel
theorem dX8_foundEnd_16 : decode cX8_foundEnd 16 = .ok (.iconst 1, 1) := by decide +kernel
theorem dX8_foundEnd_17 : decode cX8_foundEnd 17 = .ok (.invokevirtual 87, 3) := by decide +kernel
theorem dX8_foundEnd_20 : decode cX8_foundEnd 20 = .ok (.invokevirtual 95, 3) := by decide +kernel
theorem dX8_foundEnd_23 : decode cX8_foundEnd 23 = .ok (.istore_n 2, 1) := by decide +kernel
theorem dX8_foundEnd_24 : decode cX8_foundEnd 24 = .ok (.aload_n 0, 1) := by decide +kernel
theorem dX8_foundEnd_25 : decode cX8_foundEnd 25 = .ok (.invokevirtual 211, 3) := by decide +kernel
theorem dX8_foundEnd_28 : decode cX8_foundEnd 28 = .ok (.astore_n 3, 1) := by decide +kernel
theorem dX8_foundEnd_29 : decode cX8_foundEnd 29 = .ok (.iconst 0, 1) := by decide +kernel
theorem dX8_foundEnd_30 : decode cX8_foundEnd 30 = .ok (.istore 4, 2) := by decide +kernel
theorem dX8_foundEnd_32 : decode cX8_foundEnd 32 = .ok (.iconst 1, 1) := by decide +kernel
theorem dX8_foundEnd_33 : decode cX8_foundEnd 33 = .ok (.istore 5, 2) := by decide +kernel
theorem dX8_foundEnd_35 : decode cX8_foundEnd 35 = .ok (.iload 5, 2) := by decide +kernel
theorem dX8_foundEnd_37 : decode cX8_foundEnd 37 = .ok (.iload_n 1, 1) := by decide +kernel
theorem dX8_foundEnd_38 : decode cX8_foundEnd 38 = .ok (.if_icmp .gt 30, 3) := by decide +kernel
theorem dX8_foundEnd_41 : decode cX8_foundEnd 41 = .ok (.aload_n 3, 1) := by decide +kernel
theorem dX8_foundEnd_42 : decode cX8_foundEnd 42 = .ok (.iload 5, 2) := by decide +kernel
theorem dX8_foundEnd_44 : decode cX8_foundEnd 44 = .ok (.iload_n 2, 1) := by decide +kernel
theorem dX8_foundEnd_45 : decode cX8_foundEnd 45 = .ok (.invokevirtual 150, 3) := by decide +kernel
theorem dX8_foundEnd_48 : decode cX8_foundEnd 48 = .ok (.aload_n 3, 1) := by decide +kernel
theorem dX8_foundEnd_49 : decode cX8_foundEnd 49 = .ok (.iload 4, 2) := by decide +kernel
theorem dX8_foundEnd_51 : decode cX8_foundEnd 51 = .ok (.iload_n 2, 1) := by decide +kernel
theorem dX8_foundEnd_52 : decode cX8_foundEnd 52 = .ok (.invokevirtual 150, 3) := by decide +kernel
theorem dX8_foundEnd_55 : decode cX8_foundEnd 55 = .ok (.if_icmp .ge 7, 3) := by decide +kernel
theorem dX8_foundEnd_58 : decode cX8_foundEnd 58 = .ok (.iload 5, 2) := by decide +kernel
theorem dX8_foundEnd_60 : decode cX8_foundEnd 60 = .ok (.istore 4, 2) := by decide +kernel
theorem dX8_foundEnd_62 : decode cX8_foundEnd 62 = .ok (.iinc 5 1, 3) := by decide +kernel
theorem dX8_foundEnd_65 : decode cX8_foundEnd 65 = .ok (.goto (-30), 3) := by decide +kernel
theorem dX8_foundEnd_68 : decode cX8_foundEnd 68 = .ok (.iload 4, 2) := by decide +kernel
theorem dX8_foundEnd_70 : decode cX8_foundEnd 70 = .ok (.ireturn, 1) := by decide +kernel
theorem dX8_ifReplaced_0 : decode cX8_ifReplaced 0 = .ok (.aload_n 0, 1) := by decide +kernel
theorem dX8_ifReplaced_1 : decode cX8_ifReplaced 1 = .ok (.iload_n 1, 1) := by decide +kernel
theorem dX8_ifReplaced_2 : decode cX8_ifReplaced 2 = .ok (.invokevirtual 100, 3) := by decide +kernel
theorem dX8_ifReplaced_5 : decode cX8_ifReplaced 5 = .ok (.astore 4, 2) := by decide +kernel
theorem dX8_ifReplaced_7 : decode cX8_ifReplaced 7 = .ok (.aload 4, 2) := by decide +kernel
theorem dX8_ifReplaced_9 : decode cX8_ifReplaced 9 = .ok (.iload_n 2, 1) := by decide +kernel
theorem dX8_ifReplaced_10 : decode cX8_ifReplaced 10 = .ok (.invokestatic 121, 3) := by decide +kernel
theorem dX8_ifReplaced_13 : decode cX8_ifReplaced 13 = .ok (.aload_n 0, 1) := by decide +kernel
theorem dX8_ifReplaced_14 : decode cX8_ifReplaced 14 = .ok (.iload_n 3, 1) := by decide +kernel
theorem dX8_ifReplaced_15 : decode cX8_ifReplaced 15 = .ok (.invokevirtual 108, 3) := by decide +kernel
theorem dX8_ifReplaced_18 : decode cX8_ifReplaced 18 = .ok (.aload_n 0, 1) := by decide +kernel
theorem dX8_ifReplaced_19 : decode cX8_ifReplaced 19 = .ok (.iconst 1, 1) := by decide +kernel
theorem dX8_ifReplaced_20 : decode cX8_ifReplaced 20 = .ok (.iload_n 1, 1) := by decide +kernel
theorem dX8_ifReplaced_21 : decode cX8_ifReplaced 21 = .ok (.isub, 1) := by decide +kernel
theorem dX8_ifReplaced_22 : decode cX8_ifReplaced 22 = .ok (.invokevirtual 100, 3) := by decide +kernel
theorem dX8_ifReplaced_25 : decode cX8_ifReplaced 25 = .ok (.astore 5, 2) := by decide +kernel
theorem dX8_ifReplaced_27 : decode cX8_ifReplaced 27 = .ok (.aload_n 0, 1) := by decide +kernel
theorem dX8_ifReplaced_28 : decode cX8_ifReplaced 28 = .ok (.getfield 60, 3) := by decide +kernel
theorem dX8_ifReplaced_31 : decode cX8_ifReplaced 31 = .ok (.aload 4, 2) := by decide +kernel
theorem dX8_ifReplaced_33 : decode cX8_ifReplaced 33 = .ok (.aload 5, 2) := by decide +kernel
theorem dX8_ifReplaced_35 : decode cX8_ifReplaced 35 = .ok (.invokevirtual 214, 3) := by decide +kernel
theorem dX8_ifReplaced_38 : decode cX8_ifReplaced 38 = .ok (.aload_n 0, 1) := by decide +kernel
theorem dX8_ifReplaced_39 : decode cX8_ifReplaced 39 = .ok (.getfield 60, 3) := by decide +kernel
theorem dX8_ifReplaced_42 : decode cX8_ifReplaced 42 = .ok (.aload 4, 2) := by decide +kernel
theorem dX8_ifReplaced_44 : decode cX8_ifReplaced 44 = .ok (.aload 5, 2) := by decide +kernel
theorem dX8_ifReplaced_46 : decode cX8_ifReplaced 46 = .ok (.iload_n 2, 1) := by decide +kernel
theorem dX8_ifReplaced_47 : decode cX8_ifReplaced 47 = .ok (.iload_n 3, 1) := by decide +kernel
theorem dX8_ifReplaced_48 : decode cX8_ifReplaced 48 = .ok (.invokevirtual 217, 3) := by decide +kernel
theorem dX8_ifReplaced_51 : decode cX8_ifReplaced 51 = .ok (.ireturn, 1) := by decide +kernel
theorem dX8_bestReplacement_0 : decode cX8_bestReplacement 0 = .ok (.aload_n 0, 1) := by decide +kernel
theorem dX8_bestReplacement_1 : decode cX8_bestReplacement 1 = .ok (.iload_n 1, 1) := by decide +kernel
theorem dX8_bestReplacement_2 : decode cX8_bestReplacement 2 = .ok (.invokevirtual 100, 3) := by decide +kernel
theorem dX8_bestReplacement_5 : decode cX8_bestReplacement 5 = .ok (.astore_n 2, 1) := by decide +kernel
theorem dX8_bestReplacement_6 : decode cX8_bestReplacement 6 = .ok (.aload_n 0, 1) := by decide +kernel
theorem dX8_bestReplacement_7 : decode cX8_bestReplacement 7 = .ok (.iconst 1, 1) := by decide +kernel
theorem dX8_bestReplacement_8 : decode cX8_bestReplacement 8 = .ok (.iload_n 1, 1) := by decide +kernel
theorem dX8_bestReplacement_9 : decode cX8_bestReplacement 9 = .ok (.isub, 1) := by decide +kernel
theorem dX8_bestReplacement_10 : decode cX8_bestReplacement 10 = .ok (.invokevirtual 100, 3) := by decide +kernel
theorem dX8_bestReplacement_13 : decode cX8_bestReplacement 13 = .ok (.astore_n 3, 1) := by decide +kernel
theorem dX8_bestReplacement_14 : decode cX8_bestReplacement 14 = .ok (.aload_n 0, 1) := by decide +kernel
theorem dX8_bestReplacement_15 : decode cX8_bestReplacement 15 = .ok (.getfield 60, 3) := by decide +kernel
theorem dX8_bestReplacement_18 : decode cX8_bestReplacement 18 = .ok (.aload_n 2, 1) := by decide +kernel
theorem dX8_bestReplacement_19 : decode cX8_bestReplacement 19 = .ok (.aload_n 3, 1) := by decide +kernel
theorem dX8_bestReplacement_20 : decode cX8_bestReplacement 20 = .ok (.invokevirtual 214, 3) := by decide +kernel
theorem dX8_bestReplacement_23 : decode cX8_bestReplacement 23 = .ok (.iconst (-1), 1) := by decide +kernel
theorem dX8_bestReplacement_24 : decode cX8_bestReplacement 24 = .ok (.istore 4, 2) := by decide +kernel
theorem dX8_bestReplacement_26 : decode cX8_bestReplacement 26 = .ok (.bipush 21, 2) := by decide +kernel
theorem dX8_bestReplacement_28 : decode cX8_bestReplacement 28 = .ok (.istore 5, 2) := by decide +kernel
theorem dX8_bestReplacement_30 : decode cX8_bestReplacement 30 = .ok (.iconst 0, 1) := by decide +kernel
theorem dX8_bestReplacement_31 : decode cX8_bestReplacement 31 = .ok (.istore 6, 2) := by decide +kernel
theorem dX8_bestReplacement_33 : decode cX8_bestReplacement 33 = .ok (.iload 6, 2) := by decide +kernel
theorem dX8_bestReplacement_35 : decode cX8_bestReplacement 35 = .ok (.aload_n 2, 1) := by decide +kernel
theorem dX8_bestReplacement_36 : decode cX8_bestReplacement 36 = .ok (.invokevirtual 95, 3) := by decide +kernel
theorem dX8_bestReplacement_39 : decode cX8_bestReplacement 39 = .ok (.if_icmp .ge 66, 3) := by decide +kernel
theorem dX8_bestReplacement_42 : decode cX8_bestReplacement 42 = .ok (.iconst 0, 1) := by decide +kernel
theorem dX8_bestReplacement_43 : decode cX8_bestReplacement 43 = .ok (.istore 7, 2) := by decide +kernel
theorem dX8_bestReplacement_45 : decode cX8_bestReplacement 45 = .ok (.iload 7, 2) := by decide +kernel
theorem dX8_bestReplacement_47 : decode cX8_bestReplacement 47 = .ok (.aload_n 0, 1) := by decide +kernel
theorem dX8_bestReplacement_48 : decode cX8_bestReplacement 48 = .ok (.getfield 12, 3) := by decide +kernel
theorem dX8_bestReplacement_51 : decode cX8_bestReplacement 51 = .ok (.invokevirtual 68, 3) := by decide +kernel
theorem dX8_bestReplacement_54 : decode cX8_bestReplacement 54 = .ok (.if_icmp .ge 45, 3) := by decide +kernel
theorem dX8_bestReplacement_57 : decode cX8_bestReplacement 57 = .ok (.aload_n 0, 1) := by decide +kernel
theorem dX8_bestReplacement_58 : decode cX8_bestReplacement 58 = .ok (.getfield 60, 3) := by decide +kernel
theorem dX8_bestReplacement_61 : decode cX8_bestReplacement 61 = .ok (.aload_n 2, 1) := by decide +kernel
theorem dX8_bestReplacement_62 : decode cX8_bestReplacement 62 = .ok (.aload_n 3, 1) := by decide +kernel
theorem dX8_bestReplacement_63 : decode cX8_bestReplacement 63 = .ok (.iload 6, 2) := by decide +kernel
theorem dX8_bestReplacement_65 : decode cX8_bestReplacement 65 = .ok (.iload 7, 2) := by decide +kernel
theorem dX8_bestReplacement_67 : decode cX8_bestReplacement 67 = .ok (.invokevirtual 217, 3) := by decide +kernel
theorem dX8_bestReplacement_70 : decode cX8_bestReplacement 70 = .ok (.istore 8, 2) := by decide +kernel
theorem dX8_bestReplacement_72 : decode cX8_bestReplacement 72 = .ok (.iload 8, 2) := by decide +kernel
theorem dX8_bestReplacement_74 : decode cX8_bestReplacement 74 = .ok (.iload 5, 2) := by decide +kernel
theorem dX8_bestReplacement_76 : decode cX8_bestReplacement 76 = .ok (.if_icmp .ge 17, 3) := by decide +kernel
theorem dX8_bestReplacement_79 : decode cX8_bestReplacement 79 = .ok (.iload 8, 2) := by decide +kernel
theorem dX8_bestReplacement_81 : decode cX8_bestReplacement 81 = .ok (.istore 5, 2) := by decide +kernel
theorem dX8_bestReplacement_83 : decode cX8_bestReplacement 83 = .ok (.bipush 10, 2) := by decide +kernel
theorem dX8_bestReplacement_85 : decode cX8_bestReplacement 85 = .ok (.iload 6, 2) := by decide +kernel
theorem dX8_bestReplacement_87 : decode cX8_bestReplacement 87 = .ok (.imul, 1) := by decide +kernel
theorem dX8_bestReplacement_88 : decode cX8_bestReplacement 88 = .ok (.iload 7, 2) := by decide +kernel
theorem dX8_bestReplacement_90 : decode cX8_bestReplacement 90 = .ok (.iadd, 1) := by decide +kernel
theorem dX8_bestReplacement_91 : decode cX8_bestReplacement 91 = .ok (.istore 4, 2) := by decide +kernel
theorem dX8_bestReplacement_93 : decode cX8_bestReplacement 93 = .ok (.iinc 7 1, 3) := by decide +kernel
theorem dX8_bestReplacement_96 : decode cX8_bestReplacement 96 = .ok (.goto (-51), 3) := by decide +kernel
theorem dX8_bestReplacement_99 : decode cX8_bestReplacement 99 = .ok (.iinc 6 1, 3) := by decide +kernel
theorem dX8_bestReplacement_102 : decode cX8_bestReplacement 102 = .ok (.goto (-69), 3) := by decide +kernel
theorem dX8_bestReplacement_105 : decode cX8_bestReplacement 105 = .ok (.iload 4, 2) := by decide +kernel
theorem dX8_bestReplacement_107 : decode cX8_bestReplacement 107 = .ok (.ireturn, 1) := by decide +kernel
theorem dX8_missesToCome_0 : decode cX8_missesToCome 0 = .ok (.aload_n 0, 1) := by decide +kernel
theorem dX8_missesToCome_1 : decode cX8_missesToCome 1 = .ok (.getfield 54, 3) := by decide +kernel
theorem dX8_missesToCome_4 : decode cX8_missesToCome 4 = .ok (.aload_n 0, 1) := by decide +kernel
theorem dX8_missesToCome_5 : decode cX8_missesToCome 5 = .ok (.getfield 50, 3) := by decide +kernel
theorem dX8_missesToCome_8 : decode cX8_missesToCome 8 = .ok (.invokevirtual 221, 3) := by decide +kernel
