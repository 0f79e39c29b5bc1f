theorem dX7_stepsOf_3 : decode cX7_stepsOf 3 = .ok (.istore_n 3, 1) := by decide +kernel
theorem dX7_stepsOf_4 : decode cX7_stepsOf 4 = .ok (.iload_n 3, 1) := by decide +kernel
theorem dX7_stepsOf_5 : decode cX7_stepsOf 5 = .ok (.aload_n 0, 1) := by decide +kernel
theorem dX7_stepsOf_6 : decode cX7_stepsOf 6 = .ok (.getfield 15, 3) := by decide +kernel
theorem dX7_stepsOf_9 : decode cX7_stepsOf 9 = .ok (.if_icmp .ge 21, 3) := by decide +kernel
theorem dX7_stepsOf_12 : decode cX7_stepsOf 12 = .ok (.aload_n 0, 1) := by decide +kernel
theorem dX7_stepsOf_13 : decode cX7_stepsOf 13 = .ok (.iload_n 3, 1) := by decide +kernel
theorem dX7_stepsOf_14 : decode cX7_stepsOf 14 = .ok (.invokevirtual 19, 3) := by decide +kernel
theorem dX7_stepsOf_17 : decode cX7_stepsOf 17 = .ok (.iload_n 1, 1) := by decide +kernel
theorem dX7_stepsOf_18 : decode cX7_stepsOf 18 = .ok (.if_icmp .ne 6, 3) := by decide +kernel
theorem dX7_stepsOf_21 : decode cX7_stepsOf 21 = .ok (.iinc 2 1, 3) := by decide +kernel
theorem dX7_stepsOf_24 : decode cX7_stepsOf 24 = .ok (.iinc 3 1, 3) := by decide +kernel
theorem dX7_stepsOf_27 : decode cX7_stepsOf 27 = .ok (.goto (-23), 3) := by decide +kernel
theorem dX7_stepsOf_30 : decode cX7_stepsOf 30 = .ok (.iload_n 2, 1) := by decide +kernel
theorem dX7_stepsOf_31 : decode cX7_stepsOf 31 = .ok (.ireturn, 1) := by decide +kernel
theorem dX7_find_0 : decode cX7_find 0 = .ok (.aload_n 2, 1) := by decide +kernel
theorem dX7_find_1 : decode cX7_find 1 = .ok (.invokevirtual 23, 3) := by decide +kernel
theorem dX7_find_4 : decode cX7_find 4 = .ok (.istore 4, 2) := by decide +kernel
theorem dX7_find_6 : decode cX7_find 6 = .ok (.aload_n 3, 1) := by decide +kernel
theorem dX7_find_7 : decode cX7_find 7 = .ok (.invokevirtual 23, 3) := by decide +kernel
theorem dX7_find_10 : decode cX7_find 10 = .ok (.istore 5, 2) := by decide +kernel
theorem dX7_find_12 : decode cX7_find 12 = .ok (.aload_n 0, 1) := by decide +kernel
theorem dX7_find_13 : decode cX7_find 13 = .ok (.iconst 0, 1) := by decide +kernel
theorem dX7_find_14 : decode cX7_find 14 = .ok (.putfield 15, 3) := by decide +kernel
theorem dX7_find_17 : decode cX7_find 17 = .ok (.iload 4, 2) := by decide +kernel
theorem dX7_find_19 : decode cX7_find 19 = .ok (.ifCond .gt 8, 3) := by decide +kernel
theorem dX7_find_22 : decode cX7_find 22 = .ok (.iload 5, 2) := by decide +kernel
theorem dX7_find_24 : decode cX7_find 24 = .ok (.ifCond .le 83, 3) := by decide +kernel
theorem dX7_find_27 : decode cX7_find 27 = .ok (.aload_n 0, 1) := by decide +kernel
theorem dX7_find_28 : decode cX7_find 28 = .ok (.getfield 15, 3) := by decide +kernel
theorem dX7_find_31 : decode cX7_find 31 = .ok (.bipush 40, 2) := by decide +kernel
theorem dX7_find_33 : decode cX7_find 33 = .ok (.if_icmp .ge 74, 3) := by decide +kernel
theorem dX7_find_36 : decode cX7_find 36 = .ok (.aload_n 1, 1) := by decide +kernel
theorem dX7_find_37 : decode cX7_find 37 = .ok (.iload 4, 2) := by decide +kernel
theorem dX7_find_39 : decode cX7_find 39 = .ok (.iload 5, 2) := by decide +kernel
theorem dX7_find_41 : decode cX7_find 41 = .ok (.aload_n 2, 1) := by decide +kernel
theorem dX7_find_42 : decode cX7_find 42 = .ok (.iload 4, 2) := by decide +kernel
theorem dX7_find_44 : decode cX7_find 44 = .ok (.iconst 1, 1) := by decide +kernel
theorem dX7_find_45 : decode cX7_find 45 = .ok (.isub, 1) := by decide +kernel
theorem dX7_find_46 : decode cX7_find 46 = .ok (.invokevirtual 28, 3) := by decide +kernel
theorem dX7_find_49 : decode cX7_find 49 = .ok (.aload_n 3, 1) := by decide +kernel
theorem dX7_find_50 : decode cX7_find 50 = .ok (.iload 5, 2) := by decide +kernel
theorem dX7_find_52 : decode cX7_find 52 = .ok (.iconst 1, 1) := by decide +kernel
theorem dX7_find_53 : decode cX7_find 53 = .ok (.isub, 1) := by decide +kernel
theorem dX7_find_54 : decode cX7_find 54 = .ok (.invokevirtual 28, 3) := by decide +kernel
theorem dX7_find_57 : decode cX7_find 57 = .ok (.invokestatic 29, 3) := by decide +kernel
theorem dX7_find_60 : decode cX7_find 60 = .ok (.invokestatic 33, 3) := by decide +kernel
theorem dX7_find_63 : decode cX7_find 63 = .ok (.istore 6, 2) := by decide +kernel
theorem dX7_find_65 : decode cX7_find 65 = .ok (.aload_n 0, 1) := by decide +kernel
theorem dX7_find_66 : decode cX7_find 66 = .ok (.getfield 11, 3) := by decide +kernel
theorem dX7_find_69 : decode cX7_find 69 = .ok (.aload_n 0, 1) := by decide +kernel
theorem dX7_find_70 : decode cX7_find 70 = .ok (.getfield 15, 3) := by decide +kernel
theorem dX7_find_73 : decode cX7_find 73 = .ok (.iload 6, 2) := by decide +kernel
theorem dX7_find_75 : decode cX7_find 75 = .ok (.iastore, 1) := by decide +kernel
theorem dX7_find_76 : decode cX7_find 76 = .ok (.aload_n 0, 1) := by decide +kernel
theorem dX7_find_77 : decode cX7_find 77 = .ok (.dup, 1) := by decide +kernel
theorem dX7_find_78 : decode cX7_find 78 = .ok (.getfield 15, 3) := by decide +kernel
theorem dX7_find_81 : decode cX7_find 81 = .ok (.iconst 1, 1) := by decide +kernel
theorem dX7_find_82 : decode cX7_find 82 = .ok (.iadd, 1) := by decide +kernel
theorem dX7_find_83 : decode cX7_find 83 = .ok (.putfield 15, 3) := by decide +kernel
theorem dX7_find_86 : decode cX7_find 86 = .ok (.iload 6, 2) := by decide +kernel
theorem dX7_find_88 : decode cX7_find 88 = .ok (.iconst 3, 1) := by decide +kernel
theorem dX7_find_89 : decode cX7_find 89 = .ok (.if_icmp .eq 6, 3) := by decide +kernel
theorem dX7_find_92 : decode cX7_find 92 = .ok (.iinc 4 (-1), 3) := by decide +kernel
theorem dX7_find_95 : decode cX7_find 95 = .ok (.iload 6, 2) := by decide +kernel
theorem dX7_find_97 : decode cX7_find 97 = .ok (.iconst 2, 1) := by decide +kernel
theorem dX7_find_98 : decode cX7_find 98 = .ok (.if_icmp .eq 6, 3) := by decide +kernel
theorem dX7_find_101 : decode cX7_find 101 = .ok (.iinc 5 (-1), 3) := by decide +kernel
theorem dX7_find_104 : decode cX7_find 104 = .ok (.goto (-87), 3) := by decide +kernel
theorem dX7_find_107 : decode cX7_find 107 = .ok (.return_, 1) := by decide +kernel
theorem dX7_lastStep_0 : decode cX7_lastStep 0 = .ok (.aload_n 0, 1) := by decide +kernel
theorem dX7_lastStep_1 : decode cX7_lastStep 1 = .ok (.iload_n 1, 1) := by decide +kernel
theorem dX7_lastStep_2 : decode cX7_lastStep 2 = .ok (.iload_n 2, 1) := by decide +kernel
theorem dX7_lastStep_3 : decode cX7_lastStep 3 = .ok (.invokevirtual 37, 3) := by decide +kernel
theorem dX7_lastStep_6 : decode cX7_lastStep 6 = .ok (.istore 4, 2) := by decide +kernel
theorem dX7_lastStep_8 : decode cX7_lastStep 8 = .ok (.iload_n 1, 1) := by decide +kernel
theorem dX7_lastStep_9 : decode cX7_lastStep 9 = .ok (.ifCond .le 26, 3) := by decide +kernel
theorem dX7_lastStep_12 : decode cX7_lastStep 12 = .ok (.iload_n 2, 1) := by decide +kernel
theorem dX7_lastStep_13 : decode cX7_lastStep 13 = .ok (.ifCond .le 22, 3) := by decide +kernel
theorem dX7_lastStep_16 : decode cX7_lastStep 16 = .ok (.iload 4, 2) := by decide +kernel
theorem dX7_lastStep_18 : decode cX7_lastStep 18 = .ok (.aload_n 0, 1) := by decide +kernel
theorem dX7_lastStep_19 : decode cX7_lastStep 19 = .ok (.iload_n 1, 1) := by decide +kernel
theorem dX7_lastStep_20 : decode cX7_lastStep 20 = .ok (.iconst 1, 1) := by decide +kernel
theorem dX7_lastStep_21 : decode cX7_lastStep 21 = .ok (.isub, 1) := by decide +kernel
theorem dX7_lastStep_22 : decode cX7_lastStep 22 = .ok (.iload_n 2, 1) := by decide +kernel
theorem dX7_lastStep_23 : decode cX7_lastStep 23 = .ok (.iconst 1, 1) := by decide +kernel
theorem dX7_lastStep_24 : decode cX7_lastStep 24 = .ok (.isub, 1) := by decide +kernel
theorem dX7_lastStep_25 : decode cX7_lastStep 25 = .ok (.invokevirtual 37, 3) := by decide +kernel
theorem dX7_lastStep_28 : decode cX7_lastStep 28 = .ok (.iload_n 3, 1) := by decide +kernel
theorem dX7_lastStep_29 : decode cX7_lastStep 29 = .ok (.iadd, 1) := by decide +kernel
theorem dX7_lastStep_30 : decode cX7_lastStep 30 = .ok (.if_icmp .ne 5, 3) := by decide +kernel
theorem dX7_lastStep_33 : decode cX7_lastStep 33 = .ok (.iload_n 3, 1) := by decide +kernel
theorem dX7_lastStep_34 : decode cX7_lastStep 34 = .ok (.ireturn, 1) := by decide +kernel
theorem dX7_lastStep_35 : decode cX7_lastStep 35 = .ok (.iload_n 1, 1) := by decide +kernel
theorem dX7_lastStep_36 : decode cX7_lastStep 36 = .ok (.ifCond .le 20, 3) := by decide +kernel
theorem dX7_lastStep_39 : decode cX7_lastStep 39 = .ok (.iload 4, 2) := by decide +kernel
theorem dX7_lastStep_41 : decode cX7_lastStep 41 = .ok (.aload_n 0, 1) := by decide +kernel
theorem dX7_lastStep_42 : decode cX7_lastStep 42 = .ok (.iload_n 1, 1) := by decide +kernel
theorem dX7_lastStep_43 : decode cX7_lastStep 43 = .ok (.iconst 1, 1) := by decide +kernel
theorem dX7_lastStep_44 : decode cX7_lastStep 44 = .ok (.isub, 1) := by decide +kernel
theorem dX7_lastStep_45 : decode cX7_lastStep 45 = .ok (.iload_n 2, 1) := by decide +kernel
theorem dX7_lastStep_46 : decode cX7_lastStep 46 = .ok (.invokevirtual 37, 3) := by decide +kernel
theorem dX7_lastStep_49 : decode cX7_lastStep 49 = .ok (.iconst 1, 1) := by decide +kernel
theorem dX7_lastStep_50 : decode cX7_lastStep 50 = .ok (.iadd, 1) := by decide +kernel
theorem dX7_lastStep_51 : decode cX7_lastStep 51 = .ok (.if_icmp .ne 5, 3) := by decide +kernel
theorem dX7_lastStep_54 : decode cX7_lastStep 54 = .ok (.iconst 2, 1) := by decide +kernel
theorem dX7_lastStep_55 : decode cX7_lastStep 55 = .ok (.ireturn, 1) := by decide +kernel
theorem dX7_lastStep_56 : decode cX7_lastStep 56 = .ok (.iconst 3, 1) := by decide +kernel
theorem dX7_lastStep_57 : decode cX7_lastStep 57 = .ok (.ireturn, 1) := by decide +kernel
theorem dX8_init_0 : decode cX8_init 0 = .ok (.aload_n 0, 1) := by decide +kernel
theorem dX8_init_1 : decode cX8_init 1 = .ok (.invokespecial 3, 3) := by decide +kernel
theorem dX8_init_4 : decode cX8_init 4 = .ok (.aload_n 0, 1) := by decide +kernel
theorem dX8_init_5 : decode cX8_init 5 = .ok (.new 9, 3) := by decide +kernel
theorem dX8_init_8 : decode cX8_init 8 = .ok (.dup, 1) := by decide +kernel
theorem dX8_init_9 : decode cX8_init 9 = .ok (.invokespecial 11, 3) := by decide +kernel
theorem dX8_init_12 : decode cX8_init 12 = .ok (.putfield 12, 3) := by decide +kernel
theorem dX8_init_15 : decode cX8_init 15 = .ok (.aload_n 0, 1) := by decide +kernel
theorem dX8_init_16 : decode cX8_init 16 = .ok (.new 16, 3) := by decide +kernel
theorem dX8_init_19 : decode cX8_init 19 = .ok (.dup, 1) := by decide +kernel
theorem dX8_init_20 : decode cX8_init 20 = .ok (.invokespecial 18, 3) := by decide +kernel
theorem dX8_init_23 : decode cX8_init 23 = .ok (.putfield 19, 3) := by decide +kernel
theorem dX8_init_26 : decode cX8_init 26 = .ok (.aload_n 0, 1) := by decide +kernel
theorem dX8_init_27 : decode cX8_init 27 = .ok (.new 23, 3) := by decide +kernel
theorem dX8_init_30 : decode cX8_init 30 = .ok (.dup, 1) := by decide +kernel
theorem dX8_init_31 : decode cX8_init 31 = .ok (.invokespecial 25, 3) := by decide +kernel
theorem dX8_init_34 : decode cX8_init 34 = .ok (.putfield 26, 3) := by decide +kernel
theorem dX8_init_37 : decode cX8_init 37 = .ok (.aload_n 0, 1) := by decide +kernel
theorem dX8_init_38 : decode cX8_init 38 = .ok (.new 30, 3) := by decide +kernel
theorem dX8_init_41 : decode cX8_init 41 = .ok (.dup, 1) := by decide +kernel
theorem dX8_init_42 : decode cX8_init 42 = .ok (.invokespecial 32, 3) := by decide +kernel
theorem dX8_init_45 : decode cX8_init 45 = .ok (.putfield 33, 3) := by decide +kernel
theorem dX8_init_48 : decode cX8_init 48 = .ok (.aload_n 0, 1) := by decide +kernel
theorem dX8_init_49 : decode cX8_init 49 = .ok (.new 30, 3) := by decide +kernel
theorem dX8_init_52 : decode cX8_init 52 = .ok (.dup, 1) := by decide +kernel
theorem dX8_init_53 : decode cX8_init 53 = .ok (.invokespecial 32, 3) := by decide +kernel
theorem dX8_init_56 : decode cX8_init 56 = .ok (.putfield 37, 3) := by decide +kernel
theorem dX8_init_59 : decode cX8_init 59 = .ok (.aload_n 0, 1) := by decide +kernel
theorem dX8_init_60 : decode cX8_init 60 = .ok (.new 40, 3) := by decide +kernel
theorem dX8_init_63 : decode cX8_init 63 = .ok (.dup, 1) := by decide +kernel
theorem dX8_init_64 : decode cX8_init 64 = .ok (.invokespecial 42, 3) := by decide +kernel
theorem dX8_init_67 : decode cX8_init 67 = .ok (.putfield 43, 3) := by decide +kernel
theorem dX8_init_70 : decode cX8_init 70 = .ok (.aload_n 0, 1) := by decide +kernel
theorem dX8_init_71 : decode cX8_init 71 = .ok (.new 47, 3) := by decide +kernel
theorem dX8_init_74 : decode cX8_init 74 = .ok (.dup, 1) := by decide +kernel
theorem dX8_init_75 : decode cX8_init 75 = .ok (.invokespecial 49, 3) := by decide +kernel
theorem dX8_init_78 : decode cX8_init 78 = .ok (.putfield 50, 3) := by decide +kernel
theorem dX8_init_81 : decode cX8_init 81 = .ok (.aload_n 0, 1) := by decide +kernel
theorem dX8_init_82 : decode cX8_init 82 = .ok (.new 47, 3) := by decide +kernel
theorem dX8_init_85 : decode cX8_init 85 = .ok (.dup, 1) := by decide +kernel
theorem dX8_init_86 : decode cX8_init 86 = .ok (.invokespecial 49, 3) := by decide +kernel
theorem dX8_init_89 : decode cX8_init 89 = .ok (.putfield 54, 3) := by decide +kernel
theorem dX8_init_92 : decode cX8_init 92 = .ok (.aload_n 0, 1) := by decide +kernel
theorem dX8_init_93 : decode cX8_init 93 = .ok (.new 57, 3) := by decide +kernel
theorem dX8_init_96 : decode cX8_init 96 = .ok (.dup, 1) := by decide +kernel
theorem dX8_init_97 : decode cX8_init 97 = .ok (.invokespecial 59, 3) := by decide +kernel
theorem dX8_init_100 : decode cX8_init 100 = .ok (.putfield 60, 3) := by decide +kernel
theorem dX8_init_103 : decode cX8_init 103 = .ok (.return_, 1) := by decide +kernel
theorem dX8_insert_0 : decode cX8_insert 0 = .ok (.aload_n 0, 1) := by decide +kernel
theorem dX8_insert_1 : decode cX8_insert 1 = .ok (.iload_n 1, 1) := by decide +kernel
theorem dX8_insert_2 : decode cX8_insert 2 = .ok (.invokevirtual 100, 3) := by decide +kernel
theorem dX8_insert_5 : decode cX8_insert 5 = .ok (.astore 4, 2) := by decide +kernel
theorem dX8_insert_7 : decode cX8_insert 7 = .ok (.iload_n 2, 1) := by decide +kernel
theorem dX8_insert_8 : decode cX8_insert 8 = .ok (.ifCond .lt 12, 3) := by decide +kernel
theorem dX8_insert_11 : decode cX8_insert 11 = .ok (.iload_n 2, 1) := by decide +kernel
theorem dX8_insert_12 : decode cX8_insert 12 = .ok (.aload 4, 2) := by decide +kernel
theorem dX8_insert_14 : decode cX8_insert 14 = .ok (.invokevirtual 95, 3) := by decide +kernel
theorem dX8_insert_17 : decode cX8_insert 17 = .ok (.if_icmp .le 13, 3) := by decide +kernel
theorem dX8_insert_20 : decode cX8_insert 20 = .ok (.new 103, 3) := by decide +kernel
theorem dX8_insert_23 : decode cX8_insert 23 = .ok (.dup, 1) := by decide +kernel
theorem dX8_insert_24 : decode cX8_insert 24 = .ok (.ldc 105, 2) := by decide +kernel
theorem dX8_insert_26 : decode cX8_insert 26 = .ok (.invokespecial 107, 3) := by decide +kernel
theorem dX8_insert_29 : decode cX8_insert 29 = .ok (.athrow, 1) := by decide +kernel
theorem dX8_insert_30 : decode cX8_insert 30 = .ok (.aload_n 0, 1) := by decide +kernel
theorem dX8_insert_31 : decode cX8_insert 31 = .ok (.iload_n 3, 1) := by decide +kernel
theorem dX8_insert_32 : decode cX8_insert 32 = .ok (.invokevirtual 108, 3) := by decide +kernel
theorem dX8_insert_35 : decode cX8_insert 35 = .ok (.aload 4, 2) := by decide +kernel
theorem dX8_insert_37 : decode cX8_insert 37 = .ok (.invokevirtual 95, 3) := by decide +kernel
theorem dX8_insert_40 : decode cX8_insert 40 = .ok (.bipush 20, 2) := by decide +kernel
theorem dX8_insert_42 : decode cX8_insert 42 = .ok (.if_icmp .lt 13, 3) := by decide +kernel
theorem dX8_insert_45 : decode cX8_insert 45 = .ok (.new 112, 3) := by decide +kernel
theorem dX8_insert_48 : decode cX8_insert 48 = .ok (.dup, 1) := by decide +kernel
theorem dX8_insert_49 : decode cX8_insert 49 = .ok (.ldc 114, 2) := by decide +kernel
theorem dX8_insert_51 : decode cX8_insert 51 = .ok (.invokespecial 116, 3) := by decide +kernel
theorem dX8_insert_54 : decode cX8_insert 54 = .ok (.athrow, 1) := by decide +kernel
theorem dX8_insert_55 : decode cX8_insert 55 = .ok (.aload_n 0, 1) := by decide +kernel
theorem dX8_insert_56 : decode cX8_insert 56 = .ok (.getfield 19, 3) := by decide +kernel
theorem dX8_insert_59 : decode cX8_insert 59 = .ok (.aload_n 0, 1) := by decide +kernel
theorem dX8_insert_60 : decode cX8_insert 60 = .ok (.getfield 12, 3) := by decide +kernel
theorem dX8_insert_63 : decode cX8_insert 63 = .ok (.invokevirtual 83, 3) := by decide +kernel
theorem dX8_insert_66 : decode cX8_insert 66 = .ok (.aload 4, 2) := by decide +kernel
theorem dX8_insert_68 : decode cX8_insert 68 = .ok (.iload_n 2, 1) := by decide +kernel
theorem dX8_insert_69 : decode cX8_insert 69 = .ok (.iload_n 3, 1) := by decide +kernel
theorem dX8_insert_70 : decode cX8_insert 70 = .ok (.invokevirtual 117, 3) := by decide +kernel
theorem dX8_insert_73 : decode cX8_insert 73 = .ok (.aload 4, 2) := by decide +kernel
theorem dX8_insert_75 : decode cX8_insert 75 = .ok (.invokevirtual 95, 3) := by decide +kernel
theorem dX8_insert_78 : decode cX8_insert 78 = .ok (.ireturn, 1) := by decide +kernel
theorem dX8_remove_0 : decode cX8_remove 0 = .ok (.aload_n 0, 1) := by decide +kernel
theorem dX8_remove_1 : decode cX8_remove 1 = .ok (.iload_n 1, 1) := by decide +kernel
theorem dX8_remove_2 : decode cX8_remove 2 = .ok (.invokevirtual 100, 3) := by decide +kernel
theorem dX8_remove_5 : decode cX8_remove 5 = .ok (.astore_n 3, 1) := by decide +kernel
theorem dX8_remove_6 : decode cX8_remove 6 = .ok (.aload_n 3, 1) := by decide +kernel
theorem dX8_remove_7 : decode cX8_remove 7 = .ok (.iload_n 2, 1) := by decide +kernel
theorem dX8_remove_8 : decode cX8_remove 8 = .ok (.invokestatic 121, 3) := by decide +kernel
theorem dX8_remove_11 : decode cX8_remove 11 = .ok (.aload_n 0, 1) := by decide +kernel
theorem dX8_remove_12 : decode cX8_remove 12 = .ok (.getfield 19, 3) := by decide +kernel
theorem dX8_remove_15 : decode cX8_remove 15 = .ok (.aload_n 0, 1) := by decide +kernel
theorem dX8_remove_16 : decode cX8_remove 16 = .ok (.getfield 12, 3) := by decide +kernel
theorem dX8_remove_19 : decode cX8_remove 19 = .ok (.invokevirtual 83, 3) := by decide +kernel
theorem dX8_remove_22 : decode cX8_remove 22 = .ok (.aload_n 3, 1) := by decide +kernel
theorem dX8_remove_23 : decode cX8_remove 23 = .ok (.iload_n 2, 1) := by decide +kernel
theorem dX8_remove_24 : decode cX8_remove 24 = .ok (.invokevirtual 125, 3) := by decide +kernel
theorem dX8_remove_27 : decode cX8_remove 27 = .ok (.istore 4, 2) := by decide +kernel
theorem dX8_remove_29 : decode cX8_remove 29 = .ok (.aload_n 3, 1) := by decide +kernel
theorem dX8_remove_30 : decode cX8_remove 30 = .ok (.iload_n 2, 1) := by decide +kernel
theorem dX8_remove_31 : decode cX8_remove 31 = .ok (.invokevirtual 129, 3) := by decide +kernel
theorem dX8_remove_34 : decode cX8_remove 34 = .ok (.iload 4, 2) := by decide +kernel
theorem dX8_remove_36 : decode cX8_remove 36 = .ok (.ireturn, 1) := by decide +kernel
theorem dX8_replace_0 : decode cX8_replace 0 = .ok (.aload_n 0, 1) := by decide +kernel
theorem dX8_replace_1 : decode cX8_replace 1 = .ok (.iload_n 1, 1) := by decide +kernel
theorem dX8_replace_2 : decode cX8_replace 2 = .ok (.invokevirtual 100, 3) := by decide +kernel
theorem dX8_replace_5 : decode cX8_replace 5 = .ok (.astore 4, 2) := by decide +kernel
theorem dX8_replace_7 : decode cX8_replace 7 = .ok (.aload 4, 2) := by decide +kernel
theorem dX8_replace_9 : decode cX8_replace 9 = .ok (.iload_n 2, 1) := by decide +kernel
theorem dX8_replace_10 : decode cX8_replace 10 = .ok (.invokestatic 121, 3) := by decide +kernel
theorem dX8_replace_13 : decode cX8_replace 13 = .ok (.aload_n 0, 1) := by decide +kernel
theorem dX8_replace_14 : decode cX8_replace 14 = .ok (.iload_n 3, 1) := by decide +kernel
theorem dX8_replace_15 : decode cX8_replace 15 = .ok (.invokevirtual 108, 3) := by decide +kernel
theorem dX8_replace_18 : decode cX8_replace 18 = .ok (.aload_n 0, 1) := by decide +kernel
theorem dX8_replace_19 : decode cX8_replace 19 = .ok (.getfield 19, 3) := by decide +kernel
theorem dX8_replace_22 : decode cX8_replace 22 = .ok (.aload_n 0, 1) := by decide +kernel
theorem dX8_replace_23 : decode cX8_replace 23 = .ok (.getfield 12, 3) := by decide +kernel
theorem dX8_replace_26 : decode cX8_replace 26 = .ok (.invokevirtual 83, 3) := by decide +kernel
theorem dX8_replace_29 : decode cX8_replace 29 = .ok (.aload 4, 2) := by decide +kernel
theorem dX8_replace_31 : decode cX8_replace 31 = .ok (.iload_n 2, 1) := by decide +kernel
theorem dX8_replace_32 : decode cX8_replace 32 = .ok (.invokevirtual 125, 3) := by decide +kernel
theorem dX8_replace_35 : decode cX8_replace 35 = .ok (.istore 5, 2) := by decide +kernel
theorem dX8_replace_37 : decode cX8_replace 37 = .ok (.aload 4, 2) := by decide +kernel
theorem dX8_replace_39 : decode cX8_replace 39 = .ok (.iload_n 2, 1) := by decide +kernel
theorem dX8_replace_40 : decode cX8_replace 40 = .ok (.iload_n 3, 1) := by decide +kernel
theorem dX8_replace_41 : decode cX8_replace 41 = .ok (.invokevirtual 132, 3) := by decide +kernel
theorem dX8_replace_44 : decode cX8_replace 44 = .ok (.iload 5, 2) := by decide +kernel
theorem dX8_replace_46 : decode cX8_replace 46 = .ok (.ireturn, 1) := by decide +kernel
theorem dX8_exchange_0 : decode cX8_exchange 0 = .ok (.aload_n 0, 1) := by decide +kernel
theorem dX8_exchange_1 : decode cX8_exchange 1 = .ok (.getfield 19, 3) := by decide +kernel
theorem dX8_exchange_4 : decode cX8_exchange 4 = .ok (.aload_n 0, 1) := by decide +kernel
theorem dX8_exchange_5 : decode cX8_exchange 5 = .ok (.getfield 12, 3) := by decide +kernel
theorem dX8_exchange_8 : decode cX8_exchange 8 = .ok (.invokevirtual 83, 3) := by decide +kernel
theorem dX8_exchange_11 : decode cX8_exchange 11 = .ok (.aload_n 0, 1) := by decide +kernel
theorem dX8_exchange_12 : decode cX8_exchange 12 = .ok (.getfield 12, 3) := by decide +kernel
theorem dX8_exchange_15 : decode cX8_exchange 15 = .ok (.invokevirtual 135, 3) := by decide +kernel
theorem dX8_exchange_18 : decode cX8_exchange 18 = .ok (.aload_n 0, 1) := by decide +kernel
theorem dX8_exchange_19 : decode cX8_exchange 19 = .ok (.getfield 12, 3) := by decide +kernel
theorem dX8_exchange_22 : decode cX8_exchange 22 = .ok (.iconst 0, 1) := by decide +kernel
theorem dX8_exchange_23 : decode cX8_exchange 23 = .ok (.invokevirtual 87, 3) := by decide +kernel
theorem dX8_exchange_26 : decode cX8_exchange 26 = .ok (.invokevirtual 95, 3) := by decide +kernel
theorem dX8_exchange_29 : decode cX8_exchange 29 = .ok (.ireturn, 1) := by decide +kernel
theorem dX8_setAlphabet_0 : decode cX8_setAlphabet 0 = .ok (.iload_n 1, 1) := by decide +kernel
theorem dX8_setAlphabet_1 : decode cX8_setAlphabet 1 = .ok (.iconst 2, 1) := by decide +kernel
theorem dX8_setAlphabet_2 : decode cX8_setAlphabet 2 = .ok (.if_icmp .lt 8, 3) := by decide +kernel
theorem dX8_setAlphabet_5 : decode cX8_setAlphabet 5 = .ok (.iload_n 1, 1) := by decide +kernel
theorem dX8_setAlphabet_6 : decode cX8_setAlphabet 6 = .ok (.iconst 4, 1) := by decide +kernel
theorem dX8_setAlphabet_7 : decode cX8_setAlphabet 7 = .ok (.if_icmp .le 13, 3) := by decide +kernel
theorem dX8_setAlphabet_10 : decode cX8_setAlphabet 10 = .ok (.new 76, 3) := by decide +kernel
theorem dX8_setAlphabet_13 : decode cX8_setAlphabet 13 = .ok (.dup, 1) := by decide +kernel
theorem dX8_setAlphabet_14 : decode cX8_setAlphabet 14 = .ok (.ldc 138, 2) := by decide +kernel
theorem dX8_setAlphabet_16 : decode cX8_setAlphabet 16 = .ok (.invokespecial 80, 3) := by decide +kernel
theorem dX8_setAlphabet_19 : decode cX8_setAlphabet 19 = .ok (.athrow, 1) := by decide +kernel
theorem dX8_setAlphabet_20 : decode cX8_setAlphabet 20 = .ok (.aload_n 0, 1) := by decide +kernel
theorem dX8_setAlphabet_21 : decode cX8_setAlphabet 21 = .ok (.getfield 12, 3) := by decide +kernel
theorem dX8_setAlphabet_24 : decode cX8_setAlphabet 24 = .ok (.iconst 0, 1) := by decide +kernel
theorem dX8_setAlphabet_25 : decode cX8_setAlphabet 25 = .ok (.invokevirtual 87, 3) := by decide +kernel
theorem dX8_setAlphabet_28 : decode cX8_setAlphabet 28 = .ok (.iload_n 1, 1) := by decide +kernel
theorem dX8_setAlphabet_29 : decode cX8_setAlphabet 29 = .ok (.invokevirtual 140, 3) := by decide +kernel
theorem dX8_setAlphabet_32 : decode cX8_setAlphabet 32 = .ok (.ifCond .eq 18, 3) := by decide +kernel
theorem dX8_setAlphabet_35 : decode cX8_setAlphabet 35 = .ok (.aload_n 0, 1) := by decide +kernel
theorem dX8_setAlphabet_36 : decode cX8_setAlphabet 36 = .ok (.getfield 12, 3) := by decide +kernel
theorem dX8_setAlphabet_39 : decode cX8_setAlphabet 39 = .ok (.iconst 1, 1) := by decide +kernel
theorem dX8_setAlphabet_40 : decode cX8_setAlphabet 40 = .ok (.invokevirtual 87, 3) := by decide +kernel
theorem dX8_setAlphabet_43 : decode cX8_setAlphabet 43 = .ok (.iload_n 1, 1) := by decide +kernel
theorem dX8_setAlphabet_44 : decode cX8_setAlphabet 44 = .ok (.invokevirtual 140, 3) := by decide +kernel
theorem dX8_setAlphabet_47 : decode cX8_setAlphabet 47 = .ok (.ifCond .ne 13, 3) := by decide +kernel
theorem dX8_setAlphabet_50 : decode cX8_setAlphabet 50 = .ok (.new 112, 3) := by decide +kernel
theorem dX8_setAlphabet_53 : decode cX8_setAlphabet 53 = .ok (.dup, 1) := by decide +kernel
theorem dX8_setAlphabet_54 : decode cX8_setAlphabet 54 = .ok (.ldc 141, 2) := by decide +kernel
theorem dX8_setAlphabet_56 : decode cX8_setAlphabet 56 = .ok (.invokespecial 116, 3) := by decide +kernel
theorem dX8_setAlphabet_59 : decode cX8_setAlphabet 59 = .ok (.athrow, 1) := by decide +kernel
theorem dX8_setAlphabet_60 : decode cX8_setAlphabet 60 = .ok (.aload_n 0, 1) := by decide +kernel
theorem dX8_setAlphabet_61 : decode cX8_setAlphabet 61 = .ok (.getfield 19, 3) := by decide +kernel
theorem dX8_setAlphabet_64 : decode cX8_setAlphabet 64 = .ok (.aload_n 0, 1) := by decide +kernel
theorem dX8_setAlphabet_65 : decode cX8_setAlphabet 65 = .ok (.getfield 12, 3) := by decide +kernel
theorem dX8_setAlphabet_68 : decode cX8_setAlphabet 68 = .ok (.invokevirtual 83, 3) := by decide +kernel
theorem dX8_setAlphabet_71 : decode cX8_setAlphabet 71 = .ok (.aload_n 0, 1) := by decide +kernel
theorem dX8_setAlphabet_72 : decode cX8_setAlphabet 72 = .ok (.getfield 12, 3) := by decide +kernel
theorem dX8_setAlphabet_75 : decode cX8_setAlphabet 75 = .ok (.invokevirtual 68, 3) := by decide +kernel
theorem dX8_setAlphabet_78 : decode cX8_setAlphabet 78 = .ok (.istore_n 2, 1) := by decide +kernel
theorem dX8_setAlphabet_79 : decode cX8_setAlphabet 79 = .ok (.aload_n 0, 1) := by decide +kernel
theorem dX8_setAlphabet_80 : decode cX8_setAlphabet 80 = .ok (.getfield 12, 3) := by decide +kernel
theorem dX8_setAlphabet_83 : decode cX8_setAlphabet 83 = .ok (.iload_n 1, 1) := by decide +kernel
theorem dX8_setAlphabet_84 : decode cX8_setAlphabet 84 = .ok (.invokevirtual 143, 3) := by decide +kernel
theorem dX8_setAlphabet_87 : decode cX8_setAlphabet 87 = .ok (.iload_n 2, 1) := by decide +kernel
theorem dX8_setAlphabet_88 : decode cX8_setAlphabet 88 = .ok (.ireturn, 1) := by decide +kernel
theorem dX8_length_0 : decode cX8_length 0 = .ok (.aload_n 0, 1) := by decide +kernel
theorem dX8_length_1 : decode cX8_length 1 = .ok (.iload_n 1, 1) := by decide +kernel
theorem dX8_length_2 : decode cX8_length 2 = .ok (.invokevirtual 100, 3) := by decide +kernel
theorem dX8_length_5 : decode cX8_length 5 = .ok (.invokevirtual 95, 3) := by decide +kernel
theorem dX8_length_8 : decode cX8_length 8 = .ok (.ireturn, 1) := by decide +kernel
theorem dX8_letter_0 : decode cX8_letter 0 = .ok (.aload_n 0, 1) := by decide +kernel
theorem dX8_letter_1 : decode cX8_letter 1 = .ok (.iload_n 1, 1) := by decide +kernel
theorem dX8_letter_2 : decode cX8_letter 2 = .ok (.invokevirtual 100, 3) := by decide +kernel
theorem dX8_letter_5 : decode cX8_letter 5 = .ok (.astore_n 3, 1) := by decide +kernel
theorem dX8_letter_6 : decode cX8_letter 6 = .ok (.aload_n 3, 1) := by decide +kernel
theorem dX8_letter_7 : decode cX8_letter 7 = .ok (.iload_n 2, 1) := by decide +kernel
theorem dX8_letter_8 : decode cX8_letter 8 = .ok (.invokestatic 121, 3) := by decide +kernel
theorem dX8_letter_11 : decode cX8_letter 11 = .ok (.aload_n 3, 1) := by decide +kernel
theorem dX8_letter_12 : decode cX8_letter 12 = .ok (.iload_n 2, 1) := by decide +kernel
theorem dX8_letter_13 : decode cX8_letter 13 = .ok (.invokevirtual 125, 3) := by decide +kernel
theorem dX8_letter_16 : decode cX8_letter 16 = .ok (.ireturn, 1) := by decide +kernel
theorem dX8_distance_0 : decode cX8_distance 0 = .ok (.aload_n 0, 1) := by decide +kernel
theorem dX8_distance_1 : decode cX8_distance 1 = .ok (.invokevirtual 146, 3) := by decide +kernel
theorem dX8_distance_4 : decode cX8_distance 4 = .ok (.aload_n 0, 1) := by decide +kernel
theorem dX8_distance_5 : decode cX8_distance 5 = .ok (.getfield 12, 3) := by decide +kernel
theorem dX8_distance_8 : decode cX8_distance 8 = .ok (.iconst 0, 1) := by decide +kernel
theorem dX8_distance_9 : decode cX8_distance 9 = .ok (.invokevirtual 87, 3) := by decide +kernel
theorem dX8_distance_12 : decode cX8_distance 12 = .ok (.invokevirtual 95, 3) := by decide +kernel
theorem dX8_distance_15 : decode cX8_distance 15 = .ok (.aload_n 0, 1) := by decide +kernel
theorem dX8_distance_16 : decode cX8_distance 16 = .ok (.getfield 12, 3) := by decide +kernel
theorem dX8_distance_19 : decode cX8_distance 19 = .ok (.iconst 1, 1) := by decide +kernel
theorem dX8_distance_20 : decode cX8_distance 20 = .ok (.invokevirtual 87, 3) := by decide +kernel
theorem dX8_distance_23 : decode cX8_distance 23 = .ok (.invokevirtual 95, 3) := by decide +kernel
theorem dX8_distance_26 : decode cX8_distance 26 = .ok (.invokevirtual 150, 3) := by decide +kernel
theorem dX8_distance_29 : decode cX8_distance 29 = .ok (.ireturn, 1) := by decide +kernel
theorem dX8_prefix_0 : decode cX8_prefix 0 = .ok (.aload_n 0, 1) := by decide +kernel
theorem dX8_prefix_1 : decode cX8_prefix 1 = .ok (.iload_n 1, 1) := by decide +kernel
theorem dX8_prefix_2 : decode cX8_prefix 2 = .ok (.iload_n 2, 1) := by decide +kernel
theorem dX8_prefix_3 : decode cX8_prefix 3 = .ok (.iconst 0, 1) := by decide +kernel
theorem dX8_prefix_4 : decode cX8_prefix 4 = .ok (.invokevirtual 153, 3) := by decide +kernel
theorem dX8_prefix_7 : decode cX8_prefix 7 = .ok (.aload_n 0, 1) := by decide +kernel
theorem dX8_prefix_8 : decode cX8_prefix 8 = .ok (.invokevirtual 146, 3) := by decide +kernel
theorem dX8_prefix_11 : decode cX8_prefix 11 = .ok (.iload_n 1, 1) := by decide +kernel
theorem dX8_prefix_12 : decode cX8_prefix 12 = .ok (.iload_n 2, 1) := by decide +kernel
theorem dX8_prefix_13 : decode cX8_prefix 13 = .ok (.invokevirtual 150, 3) := by decide +kernel
theorem dX8_prefix_16 : decode cX8_prefix 16 = .ok (.ireturn, 1) := by decide +kernel
theorem dX8_steps_0 : decode cX8_steps 0 = .ok (.aload_n 0, 1) := by decide +kernel
theorem dX8_steps_1 : decode cX8_steps 1 = .ok (.invokevirtual 157, 3) := by decide +kernel
theorem dX8_steps_4 : decode cX8_steps 4 = .ok (.invokevirtual 161, 3) := by decide +kernel
theorem dX8_steps_7 : decode cX8_steps 7 = .ok (.ireturn, 1) := by decide +kernel
theorem dX8_step_0 : decode cX8_step 0 = .ok (.iload_n 1, 1) := by decide +kernel
theorem dX8_step_1 : decode cX8_step 1 = .ok (.ifCond .ge 13, 3) := by decide +kernel
theorem dX8_step_4 : decode cX8_step 4 = .ok (.new 103, 3) := by decide +kernel
theorem dX8_step_7 : decode cX8_step 7 = .ok (.dup, 1) := by decide +kernel
theorem dX8_step_8 : decode cX8_step 8 = .ok (.ldc 162, 2) := by decide +kernel
theorem dX8_step_10 : decode cX8_step 10 = .ok (.invokespecial 107, 3) := by decide +kernel
theorem dX8_step_13 : decode cX8_step 13 = .ok (.athrow, 1) := by decide +kernel
theorem dX8_step_14 : decode cX8_step 14 = .ok (.aload_n 0, 1) := by decide +kernel
theorem dX8_step_15 : decode cX8_step 15 = .ok (.invokevirtual 157, 3) := by decide +kernel
theorem dX8_step_18 : decode cX8_step 18 = .ok (.iload_n 1, 1) := by decide +kernel
theorem dX8_step_19 : decode cX8_step 19 = .ok (.invokevirtual 164, 3) := by decide +kernel
theorem dX8_step_22 : decode cX8_step 22 = .ok (.ireturn, 1) := by decide +kernel
theorem dX8_count_0 : decode cX8_count 0 = .ok (.iload_n 1, 1) := by decide +kernel
theorem dX8_count_1 : decode cX8_count 1 = .ok (.ifCond .lt 8, 3) := by decide +kernel
theorem dX8_count_4 : decode cX8_count 4 = .ok (.iload_n 1, 1) := by decide +kernel
theorem dX8_count_5 : decode cX8_count 5 = .ok (.iconst 3, 1) := by decide +kernel
theorem dX8_count_6 : decode cX8_count 6 = .ok (.if_icmp .le 13, 3) := by decide +kernel
theorem dX8_count_9 : decode cX8_count 9 = .ok (.new 103, 3) := by decide +kernel
theorem dX8_count_12 : decode cX8_count 12 = .ok (.dup, 1) := by decide +kernel
theorem dX8_count_13 : decode cX8_count 13 = .ok (.ldc 165, 2) := by decide +kernel
theorem dX8_count_15 : decode cX8_count 15 = .ok (.invokespecial 107, 3) := by decide +kernel
theorem dX8_count_18 : decode cX8_count 18 = .ok (.athrow, 1) := by decide +kernel
theorem dX8_count_19 : decode cX8_count 19 = .ok (.aload_n 0, 1) := by decide +kernel
theorem dX8_count_20 : decode cX8_count 20 = .ok (.invokevirtual 157, 3) := by decide +kernel
theorem dX8_count_23 : decode cX8_count 23 = .ok (.iload_n 1, 1) := by decide +kernel
theorem dX8_count_24 : decode cX8_count 24 = .ok (.invokevirtual 167, 3) := by decide +kernel
theorem dX8_count_27 : decode cX8_count 27 = .ok (.ireturn, 1) := by decide +kernel
theorem dX8_within_0 : decode cX8_within 0 = .ok (.iload_n 1, 1) := by decide +kernel
theorem dX8_within_1 : decode cX8_within 1 = .ok (.invokestatic 170, 3) := by decide +kernel
theorem dX8_within_4 : decode cX8_within 4 = .ok (.aload_n 0, 1) := by decide +kernel
theorem dX8_within_5 : decode cX8_within 5 = .ok (.invokevirtual 173, 3) := by decide +kernel
theorem dX8_within_8 : decode cX8_within 8 = .ok (.istore_n 2, 1) := by decide +kernel
theorem dX8_within_9 : decode cX8_within 9 = .ok (.iload_n 2, 1) := by decide +kernel
theorem dX8_within_10 : decode cX8_within 10 = .ok (.iload_n 1, 1) := by decide +kernel
theorem dX8_within_11 : decode cX8_within 11 = .ok (.if_icmp .gt 7, 3) := by decide +kernel
theorem dX8_within_14 : decode cX8_within 14 = .ok (.iload_n 2, 1) := by decide +kernel
theorem dX8_within_15 : decode cX8_within 15 = .ok (.goto 4, 3) := by decide +kernel
theorem dX8_within_18 : decode cX8_within 18 = .ok (.iconst (-1), 1) := by decide +kernel
theorem dX8_within_19 : decode cX8_within 19 = .ok (.ireturn, 1) := by decide +kernel
theorem dX8_band_0 : decode cX8_band 0 = .ok (.iload_n 1, 1) := by decide +kernel
theorem dX8_band_1 : decode cX8_band 1 = .ok (.invokestatic 170, 3) := by decide +kernel
theorem dX8_band_4 : decode cX8_band 4 = .ok (.aload_n 0, 1) := by decide +kernel
theorem dX8_band_5 : decode cX8_band 5 = .ok (.getfield 12, 3) := by decide +kernel
theorem dX8_band_8 : decode cX8_band 8 = .ok (.iconst 0, 1) := by decide +kernel
theorem dX8_band_9 : decode cX8_band 9 = .ok (.invokevirtual 87, 3) := by decide +kernel
theorem dX8_band_12 : decode cX8_band 12 = .ok (.invokevirtual 95, 3) := by decide +kernel
theorem dX8_band_15 : decode cX8_band 15 = .ok (.istore_n 2, 1) := by decide +kernel
theorem dX8_band_16 : decode cX8_band 16 = .ok (.aload_n 0, 1) := by decide +kernel
theorem dX8_band_17 : decode cX8_band 17 = .ok (.getfield 12, 3) := by decide +kernel
theorem dX8_band_20 : decode cX8_band 20 = .ok (.iconst 1, 1) := by decide +kernel
theorem dX8_band_21 : decode cX8_band 21 = .ok (.invokevirtual 87, 3) := by decide +kernel
theorem dX8_band_24 : decode cX8_band 24 = .ok (.invokevirtual 95, 3) := by decide +kernel
theorem dX8_band_27 : decode cX8_band 27 = .ok (.istore_n 3, 1) := by decide +kernel
theorem dX8_band_28 : decode cX8_band 28 = .ok (.iconst 0, 1) := by decide +kernel
theorem dX8_band_29 : decode cX8_band 29 = .ok (.istore 4, 2) := by decide +kernel
theorem dX8_band_31 : decode cX8_band 31 = .ok (.iconst 0, 1) := by decide +kernel
theorem dX8_band_32 : decode cX8_band 32 = .ok (.istore 5, 2) := by decide +kernel
theorem dX8_band_34 : decode cX8_band 34 = .ok (.iload 5, 2) := by decide +kernel
theorem dX8_band_36 : decode cX8_band 36 = .ok (.iload_n 2, 1) := by decide +kernel
theorem dX8_band_37 : decode cX8_band 37 = .ok (.if_icmp .gt 45, 3) := by decide +kernel
theorem dX8_band_40 : decode cX8_band 40 = .ok (.iconst 0, 1) := by decide +kernel
theorem dX8_band_41 : decode cX8_band 41 = .ok (.iload 5, 2) := by decide +kernel
theorem dX8_band_43 : decode cX8_band 43 = .ok (.iload_n 1, 1) := by decide +kernel
theorem dX8_band_44 : decode cX8_band 44 = .ok (.isub, 1) := by decide +kernel
theorem dX8_band_45 : decode cX8_band 45 = .ok (.invokestatic 176, 3) := by decide +kernel
theorem dX8_band_48 : decode cX8_band 48 = .ok (.istore 6, 2) := by decide +kernel
theorem dX8_band_50 : decode cX8_band 50 = .ok (.iload_n 3, 1) := by decide +kernel
theorem dX8_band_51 : decode cX8_band 51 = .ok (.iload 5, 2) := by decide +kernel
theorem dX8_band_53 : decode cX8_band 53 = .ok (.iload_n 1, 1) := by decide +kernel
theorem dX8_band_54 : decode cX8_band 54 = .ok (.iadd, 1) := by decide +kernel
theorem dX8_band_55 : decode cX8_band 55 = .ok (.invokestatic 181, 3) := by decide +kernel
theorem dX8_band_58 : decode cX8_band 58 = .ok (.istore 7, 2) := by decide +kernel
theorem dX8_band_60 : decode cX8_band 60 = .ok (.iload 4, 2) := by decide +kernel
theorem dX8_band_62 : decode cX8_band 62 = .ok (.iconst 0, 1) := by decide +kernel
theorem dX8_band_63 : decode cX8_band 63 = .ok (.iload 7, 2) := by decide +kernel
theorem dX8_band_65 : decode cX8_band 65 = .ok (.iload 6, 2) := by decide +kernel
theorem dX8_band_67 : decode cX8_band 67 = .ok (.isub, 1) := by decide +kernel
theorem dX8_band_68 : decode cX8_band 68 = .ok (.iconst 1, 1) := by decide +kernel
theorem dX8_band_69 : decode cX8_band 69 = .ok (.iadd, 1) := by decide +kernel
theorem dX8_band_70 : decode cX8_band 70 = .ok (.invokestatic 176, 3) := by decide +kernel
theorem dX8_band_73 : decode cX8_band 73 = .ok (.iadd, 1) := by decide +kernel
theorem dX8_band_74 : decode cX8_band 74 = .ok (.istore 4, 2) := by decide +kernel
theorem dX8_band_76 : decode cX8_band 76 = .ok (.iinc 5 1, 3) := by decide +kernel
theorem dX8_band_79 : decode cX8_band 79 = .ok (.goto (-45), 3) := by decide +kernel
theorem dX8_band_82 : decode cX8_band 82 = .ok (.iload 4, 2) := by decide +kernel
theorem dX8_band_84 : decode cX8_band 84 = .ok (.ireturn, 1) := by decide +kernel
theorem dX8_similarity_0 : decode cX8_similarity 0 = .ok (.aload_n 0, 1) := by decide +kernel
theorem dX8_similarity_1 : decode cX8_similarity 1 = .ok (.getfield 12, 3) := by decide +kernel
theorem dX8_similarity_4 : decode cX8_similarity 4 = .ok (.iconst 0, 1) := by decide +kernel
theorem dX8_similarity_5 : decode cX8_similarity 5 = .ok (.invokevirtual 87, 3) := by decide +kernel
theorem dX8_similarity_8 : decode cX8_similarity 8 = .ok (.invokevirtual 95, 3) := by decide +kernel
theorem dX8_similarity_11 : decode cX8_similarity 11 = .ok (.aload_n 0, 1) := by decide +kernel
theorem dX8_similarity_12 : decode cX8_similarity 12 = .ok (.getfield 12, 3) := by decide +kernel
theorem dX8_similarity_15 : decode cX8_similarity 15 = .ok (.iconst 1, 1) := by decide +kernel
theorem dX8_similarity_16 : decode cX8_similarity 16 = .ok (.invokevirtual 87, 3) := by decide +kernel
theorem dX8_similarity_19 : decode cX8_similarity 19 = .ok (.invokevirtual 95, 3) := by decide +kernel
theorem dX8_similarity_22 : decode cX8_similarity 22 = .ok (.invokestatic 176, 3) := by decide +kernel
theorem dX8_similarity_25 : decode cX8_similarity 25 = .ok (.istore_n 1, 1) := by decide +kernel
theorem dX8_similarity_26 : decode cX8_similarity 26 = .ok (.iload_n 1, 1) := by decide +kernel
theorem dX8_similarity_27 : decode cX8_similarity 27 = .ok (.ifCond .ne 5, 3) := by decide +kernel
theorem dX8_similarity_30 : decode cX8_similarity 30 = .ok (.dconst 1, 1) := by decide +kernel
theorem dX8_similarity_31 : decode cX8_similarity 31 = .ok (.dreturn, 1) := by decide +kernel
theorem dX8_similarity_32 : decode cX8_similarity 32 = .ok (.dconst 1, 1) := by decide +kernel
theorem dX8_similarity_33 : decode cX8_similarity 33 = .ok (.aload_n 0, 1) := by decide +kernel
theorem dX8_similarity_34 : decode cX8_similarity 34 = .ok (.invokevirtual 173, 3) := by decide +kernel
theorem dX8_similarity_37 : decode cX8_similarity 37 = .ok (.i2d, 1) := by decide +kernel
theorem dX8_similarity_38 : decode cX8_similarity 38 = .ok (.iload_n 1, 1) := by decide +kernel
theorem dX8_similarity_39 : decode cX8_similarity 39 = .ok (.i2d, 1) := by decide +kernel
theorem dX8_similarity_40 : decode cX8_similarity 40 = .ok (.ddiv, 1) := by decide +kernel
theorem dX8_similarity_41 : decode cX8_similarity 41 = .ok (.dsub, 1) := by decide +kernel
theorem dX8_similarity_42 : decode cX8_similarity 42 = .ok (.dreturn, 1) := by decide +kernel
theorem dX8_setBlock_0 : decode cX8_setBlock 0 = .ok (.iload_n 1, 1) := by decide +kernel
theorem dX8_setBlock_1 : decode cX8_setBlock 1 = .ok (.iconst 1, 1) := by decide +kernel
theorem dX8_setBlock_2 : decode cX8_setBlock 2 = .ok (.if_icmp .lt 8, 3) := by decide +kernel
theorem dX8_setBlock_5 : decode cX8_setBlock 5 = .ok (.iload_n 1, 1) := by decide +kernel
theorem dX8_setBlock_6 : decode cX8_setBlock 6 = .ok (.iconst 2, 1) := by decide +kernel
theorem dX8_setBlock_7 : decode cX8_setBlock 7 = .ok (.if_icmp .le 13, 3) := by decide +kernel
theorem dX8_setBlock_10 : decode cX8_setBlock 10 = .ok (.new 76, 3) := by decide +kernel
theorem dX8_setBlock_13 : decode cX8_setBlock 13 = .ok (.dup, 1) := by decide +kernel
theorem dX8_setBlock_14 : decode cX8_setBlock 14 = .ok (.ldc 184, 2) := by decide +kernel
theorem dX8_setBlock_16 : decode cX8_setBlock 16 = .ok (.invokespecial 80, 3) := by decide +kernel
theorem dX8_setBlock_19 : decode cX8_setBlock 19 = .ok (.athrow, 1) := by decide +kernel
theorem dX8_setBlock_20 : decode cX8_setBlock 20 = .ok (.aload_n 0, 1) := by decide +kernel
theorem dX8_setBlock_21 : decode cX8_setBlock 21 = .ok (.getfield 50, 3) := by decide +kernel
theorem dX8_setBlock_24 : decode cX8_setBlock 24 = .ok (.invokevirtual 186, 3) := by decide +kernel
theorem dX8_setBlock_27 : decode cX8_setBlock 27 = .ok (.istore_n 2, 1) := by decide +kernel
theorem dX8_setBlock_28 : decode cX8_setBlock 28 = .ok (.aload_n 0, 1) := by decide +kernel
theorem dX8_setBlock_29 : decode cX8_setBlock 29 = .ok (.getfield 50, 3) := by decide +kernel
theorem dX8_setBlock_32 : decode cX8_setBlock 32 = .ok (.iload_n 1, 1) := by decide +kernel
theorem dX8_setBlock_33 : decode cX8_setBlock 33 = .ok (.invokevirtual 189, 3) := by decide +kernel
theorem dX8_setBlock_36 : decode cX8_setBlock 36 = .ok (.iload_n 2, 1) := by decide +kernel
theorem dX8_setBlock_37 : decode cX8_setBlock 37 = .ok (.ireturn, 1) := by decide +kernel
theorem dX8_measure_0 : decode cX8_measure 0 = .ok (.aload_n 0, 1) := by decide +kernel
theorem dX8_measure_1 : decode cX8_measure 1 = .ok (.getfield 50, 3) := by decide +kernel
theorem dX8_measure_4 : decode cX8_measure 4 = .ok (.aload_n 0, 1) := by decide +kernel
theorem dX8_measure_5 : decode cX8_measure 5 = .ok (.invokevirtual 146, 3) := by decide +kernel
theorem dX8_measure_8 : decode cX8_measure 8 = .ok (.aload_n 0, 1) := by decide +kernel
theorem dX8_measure_9 : decode cX8_measure 9 = .ok (.getfield 12, 3) := by decide +kernel
theorem dX8_measure_12 : decode cX8_measure 12 = .ok (.iconst 0, 1) := by decide +kernel
theorem dX8_measure_13 : decode cX8_measure 13 = .ok (.invokevirtual 87, 3) := by decide +kernel
theorem dX8_measure_16 : decode cX8_measure 16 = .ok (.aload_n 0, 1) := by decide +kernel
theorem dX8_measure_17 : decode cX8_measure 17 = .ok (.getfield 12, 3) := by decide +kernel
theorem dX8_measure_20 : decode cX8_measure 20 = .ok (.iconst 1, 1) := by decide +kernel
theorem dX8_measure_21 : decode cX8_measure 21 = .ok (.invokevirtual 87, 3) := by decide +kernel
theorem dX8_measure_24 : decode cX8_measure 24 = .ok (.invokevirtual 192, 3) := by decide +kernel
theorem dX8_measure_27 : decode cX8_measure 27 = .ok (.aload_n 0, 1) := by decide +kernel
theorem dX8_measure_28 : decode cX8_measure 28 = .ok (.invokevirtual 173, 3) := by decide +kernel
theorem dX8_measure_31 : decode cX8_measure 31 = .ok (.ireturn, 1) := by decide +kernel
theorem dX8_hits_0 : decode cX8_hits 0 = .ok (.aload_n 0, 1) := by decide +kernel
theorem dX8_hits_1 : decode cX8_hits 1 = .ok (.getfield 50, 3) := by decide +kernel
theorem dX8_hits_4 : decode cX8_hits 4 = .ok (.invokevirtual 196, 3) := by decide +kernel
theorem dX8_hits_7 : decode cX8_hits 7 = .ok (.ireturn, 1) := by decide +kernel
theorem dX8_misses_0 : decode cX8_misses 0 = .ok (.aload_n 0, 1) := by decide +kernel
theorem dX8_misses_1 : decode cX8_misses 1 = .ok (.getfield 50, 3) := by decide +kernel
theorem dX8_misses_4 : decode cX8_misses 4 = .ok (.invokevirtual 199, 3) := by decide +kernel
theorem dX8_misses_7 : decode cX8_misses 7 = .ok (.ireturn, 1) := by decide +kernel
theorem dX8_singleSteps_0 : decode cX8_singleSteps 0 = .ok (.aload_n 0, 1) := by decide +kernel
theorem dX8_singleSteps_1 : decode cX8_singleSteps 1 = .ok (.getfield 50, 3) := by decide +kernel
theorem dX8_singleSteps_4 : decode cX8_singleSteps 4 = .ok (.invokevirtual 202, 3) := by decide +kernel
theorem dX8_singleSteps_7 : decode cX8_singleSteps 7 = .ok (.ireturn, 1) := by decide +kernel
theorem dX8_across_0 : decode cX8_across 0 = .ok (.aload_n 0, 1) := by decide +kernel
theorem dX8_across_1 : decode cX8_across 1 = .ok (.iload_n 1, 1) := by decide +kernel
theorem dX8_across_2 : decode cX8_across 2 = .ok (.iload_n 2, 1) := by decide +kernel
theorem dX8_across_3 : decode cX8_across 3 = .ok (.iconst 1, 1) := by decide +kernel
theorem dX8_across_4 : decode cX8_across 4 = .ok (.invokevirtual 153, 3) := by decide +kernel
theorem dX8_across_7 : decode cX8_across 7 = .ok (.aload_n 0, 1) := by decide +kernel
theorem dX8_across_8 : decode cX8_across 8 = .ok (.invokevirtual 146, 3) := by decide +kernel
theorem dX8_across_11 : decode cX8_across 11 = .ok (.iload_n 1, 1) := by decide +kernel
theorem dX8_across_12 : decode cX8_across 12 = .ok (.iload_n 2, 1) := by decide +kernel
theorem dX8_across_13 : decode cX8_across 13 = .ok (.invokevirtual 205, 3) := by decide +kernel
theorem dX8_across_16 : decode cX8_across 16 = .ok (.ireturn, 1) := by decide +kernel
theorem dX8_foundDistance_0 : decode cX8_foundDistance 0 = .ok (.aload_n 0, 1) := by decide +kernel
theorem dX8_foundDistance_1 : decode cX8_foundDistance 1 = .ok (.invokevirtual 208, 3) := by decide +kernel
theorem dX8_foundDistance_4 : decode cX8_foundDistance 4 = .ok (.istore_n 1, 1) := by decide +kernel
theorem dX8_foundDistance_5 : decode cX8_foundDistance 5 = .ok (.aload_n 0, 1) := by decide +kernel
theorem dX8_foundDistance_6 : decode cX8_foundDistance 6 = .ok (.invokevirtual 211, 3) := by decide +kernel
theorem dX8_foundDistance_9 : decode cX8_foundDistance 9 = .ok (.iload_n 1, 1) := by decide +kernel
theorem dX8_foundDistance_10 : decode cX8_foundDistance 10 = .ok (.aload_n 0, 1) := by decide +kernel
theorem dX8_foundDistance_11 : decode cX8_foundDistance 11 = .ok (.getfield 12, 3) := by decide +kernel
theorem dX8_foundDistance_14 : decode cX8_foundDistance 14 = .ok (.iconst 1, 1) := by decide +kernel
theorem dX8_foundDistance_15 : decode cX8_foundDistance 15 = .ok (.invokevirtual 87, 3) := by decide +kernel
theorem dX8_foundDistance_18 : decode cX8_foundDistance 18 = .ok (.invokevirtual 95, 3) := by decide +kernel
theorem dX8_foundDistance_21 : decode cX8_foundDistance 21 = .ok (.invokevirtual 150, 3) := by decide +kernel
theorem dX8_foundDistance_24 : decode cX8_foundDistance 24 = .ok (.ireturn, 1) := by decide +kernel
theorem dX8_foundEnd_0 : decode cX8_foundEnd 0 = .ok (.aload_n 0, 1) := by decide +kernel
theorem dX8_foundEnd_1 : decode cX8_foundEnd 1 = .ok (.getfield 12, 3) := by decide +kernel
theorem dX8_foundEnd_4 : decode cX8_foundEnd 4 = .ok (.iconst 0, 1) := by decide +kernel
theorem dX8_foundEnd_5 : decode cX8_foundEnd 5 = .ok (.invokevirtual 87, 3) := by decide +kernel
theorem dX8_foundEnd_8 : decode cX8_foundEnd 8 = .ok (.invokevirtual 95, 3) := by decide +kernel
theorem dX8_foundEnd_11 : decode cX8_foundEnd 11 = .ok (.istore_n 1, 1) := by decide +kernel
theorem dX8_foundEnd_12 : decode cX8_foundEnd 12 = .ok (.aload_n 0, 1) := by decide +kernel
theorem dX8_foundEnd_13 : decode cX8_foundEnd 13 = .ok (.getfield 12, 3) := by decide +kernel
theorem dX8_foundEnd_16 : decode cX8_foundEnd 16 = .ok (.iconst 1, 1) := by decide +kernel
theorem dX8_foundEnd_17 : decode cX8_foundEnd 17 = .ok (.invokevirtual 87, 3) := by decide +kernel
theorem dX8_foundEnd_20 : decode cX8_foundEnd 20 = .ok (.invokevirtual 95, 3) := by decide +kernel
theorem dX8_foundEnd_23 : decode cX8_foundEnd 23 = .ok (.istore_n 2, 1) := by decide +kernel
theorem dX8_foundEnd_24 : decode cX8_foundEnd 24 = .ok (.aload_n 0, 1) := by decide +kernel
theorem dX8_foundEnd_25 : decode cX8_foundEnd 25 = .ok (.invokevirtual 211, 3) := by decide +kernel
theorem dX8_foundEnd_28 : decode cX8_foundEnd 28 = .ok (.astore_n 3, 1) := by decide +kernel
theorem dX8_foundEnd_29 : decode cX8_foundEnd 29 = .ok (.iconst 0, 1) := by decide +kernel
theorem dX8_foundEnd_30 : decode cX8_foundEnd 30 = .ok (.istore 4, 2) := by decide +kernel
theorem dX8_foundEnd_32 : decode cX8_foundEnd 32 = .ok (.iconst 1, 1) := by decide +kernel
theorem dX8_foundEnd_33 : decode cX8_foundEnd 33 = .ok (.istore 5, 2) := by decide +kernel
theorem dX8_foundEnd_35 : decode cX8_foundEnd 35 = .ok (.iload 5, 2) := by decide +kernel
theorem dX8_foundEnd_37 : decode cX8_foundEnd 37 = .ok (.iload_n 1, 1) := by decide +kernel
theorem dX8_foundEnd_38 : decode cX8_foundEnd 38 = .ok (.if_icmp .gt 30, 3) := by decide +kernel
theorem dX8_foundEnd_41 : decode cX8_foundEnd 41 = .ok (.aload_n 3, 1) := by decide +kernel
theorem dX8_foundEnd_42 : decode cX8_foundEnd 42 = .ok (.iload 5, 2) := by decide +kernel
theorem dX8_foundEnd_44 : decode cX8_foundEnd 44 = .ok (.iload_n 2, 1) := by decide +kernel
theorem dX8_foundEnd_45 : decode cX8_foundEnd 45 = .ok (.invokevirtual 150, 3) := by decide +kernel
theorem dX8_foundEnd_48 : decode cX8_foundEnd 48 = .ok (.aload_n 3, 1) := by decide +kernel
theorem dX8_foundEnd_49 : decode cX8_foundEnd 49 = .ok (.iload 4, 2) := by decide +kernel
theorem dX8_foundEnd_51 : decode cX8_foundEnd 51 = .ok (.iload_n 2, 1) := by decide +kernel
theorem dX8_foundEnd_52 : decode cX8_foundEnd 52 = .ok (.invokevirtual 150, 3) := by decide +kernel
theorem dX8_foundEnd_55 : decode cX8_foundEnd 55 = .ok (.if_icmp .ge 7, 3) := by decide +kernel
theorem dX8_foundEnd_58 : decode cX8_foundEnd 58 = .ok (.iload 5, 2) := by decide +kernel
theorem dX8_foundEnd_60 : decode cX8_foundEnd 60 = .ok (.istore 4, 2) := by decide +kernel
theorem dX8_foundEnd_62 : decode cX8_foundEnd 62 = .ok (.iinc 5 1, 3) := by decide +kernel
theorem dX8_foundEnd_65 : decode cX8_foundEnd 65 = .ok (.goto (-30), 3) := by decide +kernel
theorem dX8_foundEnd_68 : decode cX8_foundEnd 68 = .ok (.iload 4, 2) := by decide +kernel
theorem dX8_foundEnd_70 : decode cX8_foundEnd 70 = .ok (.ireturn, 1) := by decide +kernel
theorem dX8_ifReplaced_0 : decode cX8_ifReplaced 0 = .ok (.aload_n 0, 1) := by decide +kernel
theorem dX8_ifReplaced_1 : decode cX8_ifReplaced 1 = .ok (.iload_n 1, 1) := by decide +kernel
theorem dX8_ifReplaced_2 : decode cX8_ifReplaced 2 = .ok (.invokevirtual 100, 3) := by decide +kernel
theorem dX8_ifReplaced_5 : decode cX8_ifReplaced 5 = .ok (.astore 4, 2) := by decide +kernel
theorem dX8_ifReplaced_7 : decode cX8_ifReplaced 7 = .ok (.aload 4, 2) := by decide +kernel
theorem dX8_ifReplaced_9 : decode cX8_ifReplaced 9 = .ok (.iload_n 2, 1) := by decide +kernel
theorem dX8_ifReplaced_10 : decode cX8_ifReplaced 10 = .ok (.invokestatic 121, 3) := by decide +kernel
theorem dX8_ifReplaced_13 : decode cX8_ifReplaced 13 = .ok (.aload_n 0, 1) := by decide +kernel
theorem dX8_ifReplaced_14 : decode cX8_ifReplaced 14 = .ok (.iload_n 3, 1) := by decide +kernel
theorem dX8_ifReplaced_15 : decode cX8_ifReplaced 15 = .ok (.invokevirtual 108, 3) := by decide +kernel
theorem dX8_ifReplaced_18 : decode cX8_ifReplaced 18 = .ok (.aload_n 0, 1) := by decide +kernel
theorem dX8_ifReplaced_19 : decode cX8_ifReplaced 19 = .ok (.iconst 1, 1) := by decide +kernel
theorem dX8_ifReplaced_20 : decode cX8_ifReplaced 20 = .ok (.iload_n 1, 1) := by decide +kernel
theorem dX8_ifReplaced_21 : decode cX8_ifReplaced 21 = .ok (.isub, 1) := by decide +kernel
theorem dX8_ifReplaced_22 : decode cX8_ifReplaced 22 = .ok (.invokevirtual 100, 3) := by decide +kernel
theorem dX8_ifReplaced_25 : decode cX8_ifReplaced 25 = .ok (.astore 5, 2) := by decide +kernel
theorem dX8_ifReplaced_27 : decode cX8_ifReplaced 27 = .ok (.aload_n 0, 1) := by decide +kernel
theorem dX8_ifReplaced_28 : decode cX8_ifReplaced 28 = .ok (.getfield 60, 3) := by decide +kernel
theorem dX8_ifReplaced_31 : decode cX8_ifReplaced 31 = .ok (.aload 4, 2) := by decide +kernel
theorem dX8_ifReplaced_33 : decode cX8_ifReplaced 33 = .ok (.aload 5, 2) := by decide +kernel
theorem dX8_ifReplaced_35 : decode cX8_ifReplaced 35 = .ok (.invokevirtual 214, 3) := by decide +kernel
theorem dX8_ifReplaced_38 : decode cX8_ifReplaced 38 = .ok (.aload_n 0, 1) := by decide +kernel
theorem dX8_ifReplaced_39 : decode cX8_ifReplaced 39 = .ok (.getfield 60, 3) := by decide +kernel
theorem dX8_ifReplaced_42 : decode cX8_ifReplaced 42 = .ok (.aload 4, 2) := by decide +kernel
theorem dX8_ifReplaced_44 : decode cX8_ifReplaced 44 = .ok (.aload 5, 2) := by decide +kernel
theorem dX8_ifReplaced_46 : decode cX8_ifReplaced 46 = .ok (.iload_n 2, 1) := by decide +kernel
theorem dX8_ifReplaced_47 : decode cX8_ifReplaced 47 = .ok (.iload_n 3, 1) := by decide +kernel
theorem dX8_ifReplaced_48 : decode cX8_ifReplaced 48 = .ok (.invokevirtual 217, 3) := by decide +kernel
theorem dX8_ifReplaced_51 : decode cX8_ifReplaced 51 = .ok (.ireturn, 1) := by decide +kernel
theorem dX8_bestReplacement_0 : decode cX8_bestReplacement 0 = .ok (.aload_n 0, 1) := by decide +kernel
theorem dX8_bestReplacement_1 : decode cX8_bestReplacement 1 = .ok (.iload_n 1, 1) := by decide +kernel
theorem dX8_bestReplacement_2 : decode cX8_bestReplacement 2 = .ok (.invokevirtual 100, 3) := by decide +kernel
theorem dX8_bestReplacement_5 : decode cX8_bestReplacement 5 = .ok (.astore_n 2, 1) := by decide +kernel
theorem dX8_bestReplacement_6 : decode cX8_bestReplacement 6 = .ok (.aload_n 0, 1) := by decide +kernel
theorem dX8_bestReplacement_7 : decode cX8_bestReplacement 7 = .ok (.iconst 1, 1) := by decide +kernel
theorem dX8_bestReplacement_8 : decode cX8_bestReplacement 8 = .ok (.iload_n 1, 1) := by decide +kernel
theorem dX8_bestReplacement_9 : decode cX8_bestReplacement 9 = .ok (.isub, 1) := by decide +kernel
theorem dX8_bestReplacement_10 : decode cX8_bestReplacement 10 = .ok (.invokevirtual 100, 3) := by decide +kernel
theorem dX8_bestReplacement_13 : decode cX8_bestReplacement 13 = .ok (.astore_n 3, 1) := by decide +kernel
theorem dX8_bestReplacement_14 : decode cX8_bestReplacement 14 = .ok (.aload_n 0, 1) := by decide +kernel
theorem dX8_bestReplacement_15 : decode cX8_bestReplacement 15 = .ok (.getfield 60, 3) := by decide +kernel
theorem dX8_bestReplacement_18 : decode cX8_bestReplacement 18 = .ok (.aload_n 2, 1) := by decide +kernel
theorem dX8_bestReplacement_19 : decode cX8_bestReplacement 19 = .ok (.aload_n 3, 1) := by decide +kernel
theorem dX8_bestReplacement_20 : decode cX8_bestReplacement 20 = .ok (.invokevirtual 214, 3) := by decide +kernel
theorem dX8_bestReplacement_23 : decode cX8_bestReplacement 23 = .ok (.iconst (-1), 1) := by decide +kernel
theorem dX8_bestReplacement_24 : decode cX8_bestReplacement 24 = .ok (.istore 4, 2) := by decide +kernel
theorem dX8_bestReplacement_26 : decode cX8_bestReplacement 26 = .ok (.bipush 21, 2) := by decide +kernel
theorem dX8_bestReplacement_28 : decode cX8_bestReplacement 28 = .ok (.istore 5, 2) := by decide +kernel
theorem dX8_bestReplacement_30 : decode cX8_bestReplacement 30 = .ok (.iconst 0, 1) := by decide +kernel
theorem dX8_bestReplacement_31 : decode cX8_bestReplacement 31 = .ok (.istore 6, 2) := by decide +kernel
theorem dX8_bestReplacement_33 : decode cX8_bestReplacement 33 = .ok (.iload 6, 2) := by decide +kernel
theorem dX8_bestReplacement_35 : decode cX8_bestReplacement 35 = .ok (.aload_n 2, 1) := by decide +kernel
theorem dX8_bestReplacement_36 : decode cX8_bestReplacement 36 = .ok (.invokevirtual 95, 3) := by decide +kernel
theorem dX8_bestReplacement_39 : decode cX8_bestReplacement 39 = .ok (.if_icmp .ge 66, 3) := by decide +kernel
theorem dX8_bestReplacement_42 : decode cX8_bestReplacement 42 = .ok (.iconst 0, 1) := by decide +kernel
theorem dX8_bestReplacement_43 : decode cX8_bestReplacement 43 = .ok (.istore 7, 2) := by decide +kernel
theorem dX8_bestReplacement_45 : decode cX8_bestReplacement 45 = .ok (.iload 7, 2) := by decide +kernel
theorem dX8_bestReplacement_47 : decode cX8_bestReplacement 47 = .ok (.aload_n 0, 1) := by decide +kernel
theorem dX8_bestReplacement_48 : decode cX8_bestReplacement 48 = .ok (.getfield 12, 3) := by decide +kernel
theorem dX8_bestReplacement_51 : decode cX8_bestReplacement 51 = .ok (.invokevirtual 68, 3) := by decide +kernel
theorem dX8_bestReplacement_54 : decode cX8_bestReplacement 54 = .ok (.if_icmp .ge 45, 3) := by decide +kernel
theorem dX8_bestReplacement_57 : decode cX8_bestReplacement 57 = .ok (.aload_n 0, 1) := by decide +kernel
theorem dX8_bestReplacement_58 : decode cX8_bestReplacement 58 = .ok (.getfield 60, 3) := by decide +kernel
theorem dX8_bestReplacement_61 : decode cX8_bestReplacement 61 = .ok (.aload_n 2, 1) := by decide +kernel
theorem dX8_bestReplacement_62 : decode cX8_bestReplacement 62 = .ok (.aload_n 3, 1) := by decide +kernel
theorem dX8_bestReplacement_63 : decode cX8_bestReplacement 63 = .ok (.iload 6, 2) := by decide +kernel
theorem dX8_bestReplacement_65 : decode cX8_bestReplacement 65 = .ok (.iload 7, 2) := by decide +kernel
theorem dX8_bestReplacement_67 : decode cX8_bestReplacement 67 = .ok (.invokevirtual 217, 3) := by decide +kernel
theorem dX8_bestReplacement_70 : decode cX8_bestReplacement 70 = .ok (.istore 8, 2) := by decide +kernel
theorem dX8_bestReplacement_72 : decode cX8_bestReplacement 72 = .ok (.iload 8, 2) := by decide +kernel
theorem dX8_bestReplacement_74 : decode cX8_bestReplacement 74 = .ok (.iload 5, 2) := by decide +kernel
theorem dX8_bestReplacement_76 : decode cX8_bestReplacement 76 = .ok (.if_icmp .ge 17, 3) := by decide +kernel
theorem dX8_bestReplacement_79 : decode cX8_bestReplacement 79 = .ok (.iload 8, 2) := by decide +kernel
theorem dX8_bestReplacement_81 : decode cX8_bestReplacement 81 = .ok (.istore 5, 2) := by decide +kernel
theorem dX8_bestReplacement_83 : decode cX8_bestReplacement 83 = .ok (.bipush 10, 2) := by decide +kernel
theorem dX8_bestReplacement_85 : decode cX8_bestReplacement 85 = .ok (.iload 6, 2) := by decide +kernel
theorem dX8_bestReplacement_87 : decode cX8_bestReplacement 87 = .ok (.imul, 1) := by decide +kernel
theorem dX8_bestReplacement_88 : decode cX8_bestReplacement 88 = .ok (.iload 7, 2) := by decide +kernel
theorem dX8_bestReplacement_90 : decode cX8_bestReplacement 90 = .ok (.iadd, 1) := by decide +kernel
theorem dX8_bestReplacement_91 : decode cX8_bestReplacement 91 = .ok (.istore 4, 2) := by decide +kernel
theorem dX8_bestReplacement_93 : decode cX8_bestReplacement 93 = .ok (.iinc 7 1, 3) := by decide +kernel
theorem dX8_bestReplacement_96 : decode cX8_bestReplacement 96 = .ok (.goto (-51), 3) := by decide +kernel
theorem dX8_bestReplacement_99 : decode cX8_bestReplacement 99 = .ok (.iinc 6 1, 3) := by decide +kernel
theorem dX8_bestReplacement_102 : decode cX8_bestReplacement 102 = .ok (.goto (-69), 3) := by decide +kernel
theorem dX8_bestReplacement_105 : decode cX8_bestReplacement 105 = .ok (.iload 4, 2) := by decide +kernel
theorem dX8_bestReplacement_107 : decode cX8_bestReplacement 107 = .ok (.ireturn, 1) := by decide +kernel
theorem dX8_missesToCome_0 : decode cX8_missesToCome 0 = .ok (.aload_n 0, 1) := by decide +kernel
theorem dX8_missesToCome_1 : decode cX8_missesToCome 1 = .ok (.getfield 54, 3) := by decide +kernel
theorem dX8_missesToCome_4 : decode cX8_missesToCome 4 = .ok (.aload_n 0, 1) := by decide +kernel
theorem dX8_missesToCome_5 : decode cX8_missesToCome 5 = .ok (.getfield 50, 3) := by decide +kernel
theorem dX8_missesToCome_8 : decode cX8_missesToCome 8 = .ok (.invokevirtual 221, 3) := by decide +kernel
theorem dX8_missesToCome_11 : decode cX8_missesToCome 11 = .ok (.aload_n 0, 1) := by decide +kernel
theorem dX8_missesToCome_12 : decode cX8_missesToCome 12 = .ok (.getfield 54, 3) := by decide +kernel
theorem dX8_missesToCome_15 : decode cX8_missesToCome 15 = .ok (.aload_n 0, 1) := by decide +kernel
theorem dX8_missesToCome_16 : decode cX8_missesToCome 16 = .ok (.invokevirtual 146, 3) := by decide +kernel
theorem dX8_missesToCome_19 : decode cX8_missesToCome 19 = .ok (.aload_n 0, 1) := by decide +kernel
theorem dX8_missesToCome_20 : decode cX8_missesToCome 20 = .ok (.getfield 12, 3) := by decide +kernel
theorem dX8_missesToCome_23 : decode cX8_missesToCome 23 = .ok (.iconst 0, 1) := by decide +kernel
theorem dX8_missesToCome_24 : decode cX8_missesToCome 24 = .ok (.invokevirtual 87, 3) := by decide +kernel
theorem dX8_missesToCome_27 : decode cX8_missesToCome 27 = .ok (.aload_n 0, 1) := by decide +kernel
theorem dX8_missesToCome_28 : decode cX8_missesToCome 28 = .ok (.getfield 12, 3) := by decide +kernel
theorem dX8_missesToCome_31 : decode cX8_missesToCome 31 = .ok (.iconst 1, 1) := by decide +kernel
theorem dX8_missesToCome_32 : decode cX8_missesToCome 32 = .ok (.invokevirtual 87, 3) := by decide +kernel
theorem dX8_missesToCome_35 : decode cX8_missesToCome 35 = .ok (.invokevirtual 192, 3) := by decide +kernel
theorem dX8_missesToCome_38 : decode cX8_missesToCome 38 = .ok (.aload_n 0, 1) := by decide +kernel
theorem dX8_missesToCome_39 : decode cX8_missesToCome 39 = .ok (.getfield 54, 3) := by decide +kernel
theorem dX8_missesToCome_42 : decode cX8_missesToCome 42 = .ok (.invokevirtual 199, 3) := by decide +kernel
theorem dX8_missesToCome_45 : decode cX8_missesToCome 45 = .ok (.aload_n 0, 1) := by decide +kernel
theorem dX8_missesToCome_46 : decode cX8_missesToCome 46 = .ok (.getfield 50, 3) := by decide +kernel
theorem dX8_missesToCome_49 : decode cX8_missesToCome 49 = .ok (.invokevirtual 199, 3) := by decide +kernel
theorem dX8_missesToCome_52 : decode cX8_missesToCome 52 = .ok (.isub, 1) := by decide +kernel
theorem dX8_missesToCome_53 : decode cX8_missesToCome 53 = .ok (.ireturn, 1) := by decide +kernel
theorem dX8_undo_0 : decode cX8_undo 0 = .ok (.aload_n 0, 1) := by decide +kernel
theorem dX8_undo_1 : decode cX8_undo 1 = .ok (.getfield 19, 3) := by decide +kernel
theorem dX8_undo_4 : decode cX8_undo 4 = .ok (.invokevirtual 239, 3) := by decide +kernel
theorem dX8_undo_7 : decode cX8_undo 7 = .ok (.ifCond .ne 13, 3) := by decide +kernel
theorem dX8_undo_10 : decode cX8_undo 10 = .ok (.new 112, 3) := by decide +kernel
theorem dX8_undo_13 : decode cX8_undo 13 = .ok (.dup, 1) := by decide +kernel
theorem dX8_undo_14 : decode cX8_undo 14 = .ok (.ldc 240, 2) := by decide +kernel
theorem dX8_undo_16 : decode cX8_undo 16 = .ok (.invokespecial 116, 3) := by decide +kernel
theorem dX8_undo_19 : decode cX8_undo 19 = .ok (.athrow, 1) := by decide +kernel
theorem dX8_undo_20 : decode cX8_undo 20 = .ok (.aload_n 0, 1) := by decide +kernel
theorem dX8_undo_21 : decode cX8_undo 21 = .ok (.getfield 19, 3) := by decide +kernel
theorem dX8_undo_24 : decode cX8_undo 24 = .ok (.aload_n 0, 1) := by decide +kernel
theorem dX8_undo_25 : decode cX8_undo 25 = .ok (.getfield 12, 3) := by decide +kernel
theorem dX8_undo_28 : decode cX8_undo 28 = .ok (.invokevirtual 242, 3) := by decide +kernel
theorem dX8_undo_31 : decode cX8_undo 31 = .ok (.aload_n 0, 1) := by decide +kernel
theorem dX8_undo_32 : decode cX8_undo 32 = .ok (.getfield 19, 3) := by decide +kernel
theorem dX8_undo_35 : decode cX8_undo 35 = .ok (.invokevirtual 239, 3) := by decide +kernel
theorem dX8_undo_38 : decode cX8_undo 38 = .ok (.ireturn, 1) := by decide +kernel
theorem dX8_savedStates_0 : decode cX8_savedStates 0 = .ok (.aload_n 0, 1) := by decide +kernel
theorem dX8_savedStates_1 : decode cX8_savedStates 1 = .ok (.getfield 19, 3) := by decide +kernel
theorem dX8_savedStates_4 : decode cX8_savedStates 4 = .ok (.invokevirtual 239, 3) := by decide +kernel
theorem dX8_savedStates_7 : decode cX8_savedStates 7 = .ok (.ireturn, 1) := by decide +kernel
theorem dX8_currentDistances_0 : decode cX8_currentDistances 0 = .ok (.aload_n 0, 1) := by decide +kernel
theorem dX8_currentDistances_1 : decode cX8_currentDistances 1 = .ok (.getfield 33, 3) := by decide +kernel
theorem dX8_currentDistances_4 : decode cX8_currentDistances 4 = .ok (.aload_n 0, 1) := by decide +kernel
theorem dX8_currentDistances_5 : decode cX8_currentDistances 5 = .ok (.getfield 12, 3) := by decide +kernel
theorem dX8_currentDistances_8 : decode cX8_currentDistances 8 = .ok (.iconst 0, 1) := by decide +kernel
theorem dX8_currentDistances_9 : decode cX8_currentDistances 9 = .ok (.invokevirtual 87, 3) := by decide +kernel
theorem dX8_currentDistances_12 : decode cX8_currentDistances 12 = .ok (.aload_n 0, 1) := by decide +kernel
theorem dX8_currentDistances_13 : decode cX8_currentDistances 13 = .ok (.getfield 12, 3) := by decide +kernel
theorem dX8_currentDistances_16 : decode cX8_currentDistances 16 = .ok (.iconst 1, 1) := by decide +kernel
theorem dX8_currentDistances_17 : decode cX8_currentDistances 17 = .ok (.invokevirtual 87, 3) := by decide +kernel
theorem dX8_currentDistances_20 : decode cX8_currentDistances 20 = .ok (.iconst 1, 1) := by decide +kernel
theorem dX8_currentDistances_21 : decode cX8_currentDistances 21 = .ok (.invokevirtual 286, 3) := by decide +kernel
theorem dX8_currentDistances_24 : decode cX8_currentDistances 24 = .ok (.aload_n 0, 1) := by decide +kernel
theorem dX8_currentDistances_25 : decode cX8_currentDistances 25 = .ok (.getfield 33, 3) := by decide +kernel
theorem dX8_currentDistances_28 : decode cX8_currentDistances 28 = .ok (.areturn, 1) := by decide +kernel
theorem dX8_currentSearch_0 : decode cX8_currentSearch 0 = .ok (.aload_n 0, 1) := by decide +kernel
theorem dX8_currentSearch_1 : decode cX8_currentSearch 1 = .ok (.getfield 37, 3) := by decide +kernel
theorem dX8_currentSearch_4 : decode cX8_currentSearch 4 = .ok (.aload_n 0, 1) := by decide +kernel
theorem dX8_currentSearch_5 : decode cX8_currentSearch 5 = .ok (.getfield 12, 3) := by decide +kernel
theorem dX8_currentSearch_8 : decode cX8_currentSearch 8 = .ok (.iconst 0, 1) := by decide +kernel
theorem dX8_currentSearch_9 : decode cX8_currentSearch 9 = .ok (.invokevirtual 87, 3) := by decide +kernel
theorem dX8_currentSearch_12 : decode cX8_currentSearch 12 = .ok (.aload_n 0, 1) := by decide +kernel
theorem dX8_currentSearch_13 : decode cX8_currentSearch 13 = .ok (.getfield 12, 3) := by decide +kernel
theorem dX8_currentSearch_16 : decode cX8_currentSearch 16 = .ok (.iconst 1, 1) := by decide +kernel
theorem dX8_currentSearch_17 : decode cX8_currentSearch 17 = .ok (.invokevirtual 87, 3) := by decide +kernel
theorem dX8_currentSearch_20 : decode cX8_currentSearch 20 = .ok (.iconst 0, 1) := by decide +kernel
theorem dX8_currentSearch_21 : decode cX8_currentSearch 21 = .ok (.invokevirtual 286, 3) := by decide +kernel
theorem dX8_currentSearch_24 : decode cX8_currentSearch 24 = .ok (.aload_n 0, 1) := by decide +kernel
theorem dX8_currentSearch_25 : decode cX8_currentSearch 25 = .ok (.getfield 37, 3) := by decide +kernel
theorem dX8_currentSearch_28 : decode cX8_currentSearch 28 = .ok (.areturn, 1) := by decide +kernel
theorem dX8_currentWay_0 : decode cX8_currentWay 0 = .ok (.aload_n 0, 1) := by decide +kernel
theorem dX8_currentWay_1 : decode cX8_currentWay 1 = .ok (.getfield 43, 3) := by decide +kernel
theorem dX8_currentWay_4 : decode cX8_currentWay 4 = .ok (.aload_n 0, 1) := by decide +kernel
theorem dX8_currentWay_5 : decode cX8_currentWay 5 = .ok (.invokevirtual 146, 3) := by decide +kernel
theorem dX8_currentWay_8 : decode cX8_currentWay 8 = .ok (.aload_n 0, 1) := by decide +kernel
theorem dX8_currentWay_9 : decode cX8_currentWay 9 = .ok (.getfield 12, 3) := by decide +kernel
theorem dX8_currentWay_12 : decode cX8_currentWay 12 = .ok (.iconst 0, 1) := by decide +kernel
theorem dX8_currentWay_13 : decode cX8_currentWay 13 = .ok (.invokevirtual 87, 3) := by decide +kernel
theorem dX8_currentWay_16 : decode cX8_currentWay 16 = .ok (.aload_n 0, 1) := by decide +kernel
theorem dX8_currentWay_17 : decode cX8_currentWay 17 = .ok (.getfield 12, 3) := by decide +kernel
theorem dX8_currentWay_20 : decode cX8_currentWay 20 = .ok (.iconst 1, 1) := by decide +kernel
theorem dX8_currentWay_21 : decode cX8_currentWay 21 = .ok (.invokevirtual 87, 3) := by decide +kernel
theorem dX8_currentWay_24 : decode cX8_currentWay 24 = .ok (.invokevirtual 290, 3) := by decide +kernel
theorem dX8_currentWay_27 : decode cX8_currentWay 27 = .ok (.aload_n 0, 1) := by decide +kernel
theorem dX8_currentWay_28 : decode cX8_currentWay 28 = .ok (.getfield 43, 3) := by decide +kernel
theorem dX8_currentWay_31 : decode cX8_currentWay 31 = .ok (.areturn, 1) := by decide +kernel
theorem dX8_textOf_0 : decode cX8_textOf 0 = .ok (.iload_n 1, 1) := by decide +kernel
theorem dX8_textOf_1 : decode cX8_textOf 1 = .ok (.ifCond .eq 19, 3) := by decide +kernel
theorem dX8_textOf_4 : decode cX8_textOf 4 = .ok (.iload_n 1, 1) := by decide +kernel
theorem dX8_textOf_5 : decode cX8_textOf 5 = .ok (.iconst 1, 1) := by decide +kernel
theorem dX8_textOf_6 : decode cX8_textOf 6 = .ok (.if_icmp .eq 14, 3) := by decide +kernel
theorem dX8_textOf_9 : decode cX8_textOf 9 = .ok (.new 103, 3) := by decide +kernel
theorem dX8_textOf_12 : decode cX8_textOf 12 = .ok (.dup, 1) := by decide +kernel
theorem dX8_textOf_13 : decode cX8_textOf 13 = .ok (.ldc_w 293, 3) := by decide +kernel
theorem dX8_textOf_16 : decode cX8_textOf 16 = .ok (.invokespecial 107, 3) := by decide +kernel
theorem dX8_textOf_19 : decode cX8_textOf 19 = .ok (.athrow, 1) := by decide +kernel
theorem dX8_textOf_20 : decode cX8_textOf 20 = .ok (.aload_n 0, 1) := by decide +kernel
theorem dX8_textOf_21 : decode cX8_textOf 21 = .ok (.getfield 12, 3) := by decide +kernel
theorem dX8_textOf_24 : decode cX8_textOf 24 = .ok (.iload_n 1, 1) := by decide +kernel
theorem dX8_textOf_25 : decode cX8_textOf 25 = .ok (.invokevirtual 87, 3) := by decide +kernel
theorem dX8_textOf_28 : decode cX8_textOf 28 = .ok (.areturn, 1) := by decide +kernel
theorem dX8_checkPlace_0 : decode cX8_checkPlace 0 = .ok (.iload_n 1, 1) := by decide +kernel
theorem dX8_checkPlace_1 : decode cX8_checkPlace 1 = .ok (.ifCond .lt 11, 3) := by decide +kernel
theorem dX8_checkPlace_4 : decode cX8_checkPlace 4 = .ok (.iload_n 1, 1) := by decide +kernel
theorem dX8_checkPlace_5 : decode cX8_checkPlace 5 = .ok (.aload_n 0, 1) := by decide +kernel
theorem dX8_checkPlace_6 : decode cX8_checkPlace 6 = .ok (.invokevirtual 95, 3) := by decide +kernel
theorem dX8_checkPlace_9 : decode cX8_checkPlace 9 = .ok (.if_icmp .lt 14, 3) := by decide +kernel
theorem dX8_checkPlace_12 : decode cX8_checkPlace 12 = .ok (.new 103, 3) := by decide +kernel
theorem dX8_checkPlace_15 : decode cX8_checkPlace 15 = .ok (.dup, 1) := by decide +kernel
theorem dX8_checkPlace_16 : decode cX8_checkPlace 16 = .ok (.ldc_w 295, 3) := by decide +kernel
theorem dX8_checkPlace_19 : decode cX8_checkPlace 19 = .ok (.invokespecial 107, 3) := by decide +kernel
theorem dX8_checkPlace_22 : decode cX8_checkPlace 22 = .ok (.athrow, 1) := by decide +kernel
theorem dX8_checkPlace_23 : decode cX8_checkPlace 23 = .ok (.return_, 1) := by decide +kernel
theorem dX8_checkLetter_0 : decode cX8_checkLetter 0 = .ok (.iload_n 1, 1) := by decide +kernel
theorem dX8_checkLetter_1 : decode cX8_checkLetter 1 = .ok (.ifCond .lt 14, 3) := by decide +kernel
theorem dX8_checkLetter_4 : decode cX8_checkLetter 4 = .ok (.iload_n 1, 1) := by decide +kernel
theorem dX8_checkLetter_5 : decode cX8_checkLetter 5 = .ok (.aload_n 0, 1) := by decide +kernel
theorem dX8_checkLetter_6 : decode cX8_checkLetter 6 = .ok (.getfield 12, 3) := by decide +kernel
theorem dX8_checkLetter_9 : decode cX8_checkLetter 9 = .ok (.invokevirtual 68, 3) := by decide +kernel
theorem dX8_checkLetter_12 : decode cX8_checkLetter 12 = .ok (.if_icmp .lt 14, 3) := by decide +kernel
theorem dX8_checkLetter_15 : decode cX8_checkLetter 15 = .ok (.new 76, 3) := by decide +kernel
theorem dX8_checkLetter_18 : decode cX8_checkLetter 18 = .ok (.dup, 1) := by decide +kernel
theorem dX8_checkLetter_19 : decode cX8_checkLetter 19 = .ok (.ldc_w 297, 3) := by decide +kernel
theorem dX8_checkLetter_22 : decode cX8_checkLetter 22 = .ok (.invokespecial 80, 3) := by decide +kernel
theorem dX8_checkLetter_25 : decode cX8_checkLetter 25 = .ok (.athrow, 1) := by decide +kernel
theorem dX8_checkLetter_26 : decode cX8_checkLetter 26 = .ok (.return_, 1) := by decide +kernel
theorem dX8_checkPrefixes_0 : decode cX8_checkPrefixes 0 = .ok (.iload_n 1, 1) := by decide +kernel
theorem dX8_checkPrefixes_1 : decode cX8_checkPrefixes 1 = .ok (.ifCond .lt 38, 3) := by decide +kernel
theorem dX8_checkPrefixes_4 : decode cX8_checkPrefixes 4 = .ok (.iload_n 1, 1) := by decide +kernel
theorem dX8_checkPrefixes_5 : decode cX8_checkPrefixes 5 = .ok (.aload_n 0, 1) := by decide +kernel
theorem dX8_checkPrefixes_6 : decode cX8_checkPrefixes 6 = .ok (.getfield 12, 3) := by decide +kernel
theorem dX8_checkPrefixes_9 : decode cX8_checkPrefixes 9 = .ok (.iconst 0, 1) := by decide +kernel
theorem dX8_checkPrefixes_10 : decode cX8_checkPrefixes 10 = .ok (.invokevirtual 87, 3) := by decide +kernel
theorem dX8_checkPrefixes_13 : decode cX8_checkPrefixes 13 = .ok (.invokevirtual 95, 3) := by decide +kernel
theorem dX8_checkPrefixes_16 : decode cX8_checkPrefixes 16 = .ok (.if_icmp .gt 23, 3) := by decide +kernel
theorem dX8_checkPrefixes_19 : decode cX8_checkPrefixes 19 = .ok (.iload_n 2, 1) := by decide +kernel
theorem dX8_checkPrefixes_20 : decode cX8_checkPrefixes 20 = .ok (.iload_n 3, 1) := by decide +kernel
theorem dX8_checkPrefixes_21 : decode cX8_checkPrefixes 21 = .ok (.if_icmp .lt 18, 3) := by decide +kernel
theorem dX8_checkPrefixes_24 : decode cX8_checkPrefixes 24 = .ok (.iload_n 2, 1) := by decide +kernel
theorem dX8_checkPrefixes_25 : decode cX8_checkPrefixes 25 = .ok (.aload_n 0, 1) := by decide +kernel
theorem dX8_checkPrefixes_26 : decode cX8_checkPrefixes 26 = .ok (.getfield 12, 3) := by decide +kernel
theorem dX8_checkPrefixes_29 : decode cX8_checkPrefixes 29 = .ok (.iconst 1, 1) := by decide +kernel
theorem dX8_checkPrefixes_30 : decode cX8_checkPrefixes 30 = .ok (.invokevirtual 87, 3) := by decide +kernel
theorem dX8_checkPrefixes_33 : decode cX8_checkPrefixes 33 = .ok (.invokevirtual 95, 3) := by decide +kernel
theorem dX8_checkPrefixes_36 : decode cX8_checkPrefixes 36 = .ok (.if_icmp .le 14, 3) := by decide +kernel
theorem dX8_checkPrefixes_39 : decode cX8_checkPrefixes 39 = .ok (.new 103, 3) := by decide +kernel
theorem dX8_checkPrefixes_42 : decode cX8_checkPrefixes 42 = .ok (.dup, 1) := by decide +kernel
theorem dX8_checkPrefixes_43 : decode cX8_checkPrefixes 43 = .ok (.ldc_w 299, 3) := by decide +kernel
theorem dX8_checkPrefixes_46 : decode cX8_checkPrefixes 46 = .ok (.invokespecial 107, 3) := by decide +kernel
theorem dX8_checkPrefixes_49 : decode cX8_checkPrefixes 49 = .ok (.athrow, 1) := by decide +kernel
theorem dX8_checkPrefixes_50 : decode cX8_checkPrefixes 50 = .ok (.return_, 1) := by decide +kernel
theorem dX8_checkBound_0 : decode cX8_checkBound 0 = .ok (.iload_n 0, 1) := by decide +kernel
theorem dX8_checkBound_1 : decode cX8_checkBound 1 = .ok (.ifCond .lt 9, 3) := by decide +kernel
theorem dX8_checkBound_4 : decode cX8_checkBound 4 = .ok (.iload_n 0, 1) := by decide +kernel
theorem dX8_checkBound_5 : decode cX8_checkBound 5 = .ok (.bipush 20, 2) := by decide +kernel
theorem dX8_checkBound_7 : decode cX8_checkBound 7 = .ok (.if_icmp .le 14, 3) := by decide +kernel
theorem dX8_checkBound_10 : decode cX8_checkBound 10 = .ok (.new 76, 3) := by decide +kernel
theorem dX8_checkBound_13 : decode cX8_checkBound 13 = .ok (.dup, 1) := by decide +kernel
theorem dX8_checkBound_14 : decode cX8_checkBound 14 = .ok (.ldc_w 301, 3) := by decide +kernel
theorem dX8_checkBound_17 : decode cX8_checkBound 17 = .ok (.invokespecial 80, 3) := by decide +kernel
theorem dX8_checkBound_20 : decode cX8_checkBound 20 = .ok (.athrow, 1) := by decide +kernel
theorem dX8_checkBound_21 : decode cX8_checkBound 21 = .ok (.return_, 1) := by decide +kernel
theorem dX8_replaceCost_0 : decode cX8_replaceCost 0 = .ok (.iload_n 0, 1) := by decide +kernel
theorem dX8_replaceCost_1 : decode cX8_replaceCost 1 = .ok (.iload_n 1, 1) := by decide +kernel
theorem dX8_replaceCost_2 : decode cX8_replaceCost 2 = .ok (.if_icmp .ne 7, 3) := by decide +kernel
theorem dX8_replaceCost_5 : decode cX8_replaceCost 5 = .ok (.iconst 0, 1) := by decide +kernel
theorem dX8_replaceCost_6 : decode cX8_replaceCost 6 = .ok (.goto 4, 3) := by decide +kernel
theorem dX8_replaceCost_9 : decode cX8_replaceCost 9 = .ok (.iconst 1, 1) := by decide +kernel
theorem dX8_replaceCost_10 : decode cX8_replaceCost 10 = .ok (.ireturn, 1) := by decide +kernel
theorem dX8_leastCost_0 : decode cX8_leastCost 0 = .ok (.iload_n 0, 1) := by decide +kernel
theorem dX8_leastCost_1 : decode cX8_leastCost 1 = .ok (.iload_n 1, 1) := by decide +kernel
theorem dX8_leastCost_2 : decode cX8_leastCost 2 = .ok (.invokestatic 181, 3) := by decide +kernel
theorem dX8_leastCost_5 : decode cX8_leastCost 5 = .ok (.iconst 1, 1) := by decide +kernel
theorem dX8_leastCost_6 : decode cX8_leastCost 6 = .ok (.iadd, 1) := by decide +kernel
theorem dX8_leastCost_7 : decode cX8_leastCost 7 = .ok (.iload_n 2, 1) := by decide +kernel
theorem dX8_leastCost_8 : decode cX8_leastCost 8 = .ok (.iload_n 3, 1) := by decide +kernel
theorem dX8_leastCost_9 : decode cX8_leastCost 9 = .ok (.iadd, 1) := by decide +kernel
theorem dX8_leastCost_10 : decode cX8_leastCost 10 = .ok (.invokestatic 181, 3) := by decide +kernel
theorem dX8_leastCost_13 : decode cX8_leastCost 13 = .ok (.ireturn, 1) := by decide +kernel
theorem dL_cell_0 : decode cL_cell 0 = .ok (.iload_n 1, 1) := by decide +kernel
theorem dL_cell_1 : decode cL_cell 1 = .ok (.aload_n 0, 1) := by decide +kernel
theorem dL_cell_2 : decode cL_cell 2 = .ok (.arraylength, 1) := by decide +kernel
theorem dL_cell_3 : decode cL_cell 3 = .ok (.if_icmp .ge 9, 3) := by decide +kernel
theorem dL_cell_6 : decode cL_cell 6 = .ok (.aload_n 0, 1) := by decide +kernel
theorem dL_cell_7 : decode cL_cell 7 = .ok (.iload_n 1, 1) := by decide +kernel
theorem dL_cell_8 : decode cL_cell 8 = .ok (.iaload, 1) := by decide +kernel
theorem dL_cell_9 : decode cL_cell 9 = .ok (.goto 15, 3) := by decide +kernel
theorem dL_cell_12 : decode cL_cell 12 = .ok (.sipush 7919, 3) := by decide +kernel
theorem dL_cell_15 : decode cL_cell 15 = .ok (.iload_n 1, 1) := by decide +kernel
theorem dL_cell_16 : decode cL_cell 16 = .ok (.iconst 3, 1) := by decide +kernel
theorem dL_cell_17 : decode cL_cell 17 = .ok (.iadd, 1) := by decide +kernel
theorem dL_cell_18 : decode cL_cell 18 = .ok (.imul, 1) := by decide +kernel
theorem dL_cell_19 : decode cL_cell 19 = .ok (.iload_n 1, 1) := by decide +kernel
theorem dL_cell_20 : decode cL_cell 20 = .ok (.bipush 11, 2) := by decide +kernel
theorem dL_cell_22 : decode cL_cell 22 = .ok (.iadd, 1) := by decide +kernel
theorem dL_cell_23 : decode cL_cell 23 = .ok (.imul, 1) := by decide +kernel
theorem dL_cell_24 : decode cL_cell 24 = .ok (.ireturn, 1) := by decide +kernel
theorem dL_low_0 : decode cL_low 0 = .ok (.iload_n 0, 1) := by decide +kernel
theorem dL_low_1 : decode cL_low 1 = .ok (.ldc 7, 2) := by decide +kernel
theorem dL_low_3 : decode cL_low 3 = .ok (.iand, 1) := by decide +kernel
theorem dL_low_4 : decode cL_low 4 = .ok (.iload_n 1, 1) := by decide +kernel
theorem dL_low_5 : decode cL_low 5 = .ok (.irem, 1) := by decide +kernel
theorem dL_low_6 : decode cL_low 6 = .ok (.ireturn, 1) := by decide +kernel
theorem dL_does_0 : decode cL_does 0 = .ok (.iload_n 1, 1) := by decide +kernel
theorem dL_does_1 : decode cL_does 1 = .ok (.iconst 4, 1) := by decide +kernel
theorem dL_does_2 : decode cL_does 2 = .ok (.ishr, 1) := by decide +kernel
theorem dL_does_3 : decode cL_does 3 = .ok (.iconst 1, 1) := by decide +kernel
theorem dL_does_4 : decode cL_does 4 = .ok (.iand, 1) := by decide +kernel
theorem dL_does_5 : decode cL_does 5 = .ok (.istore_n 2, 1) := by decide +kernel
theorem dL_does_6 : decode cL_does 6 = .ok (.aload_n 0, 1) := by decide +kernel
theorem dL_does_7 : decode cL_does 7 = .ok (.iload_n 2, 1) := by decide +kernel
theorem dL_does_8 : decode cL_does 8 = .ok (.invokevirtual 8, 3) := by decide +kernel
theorem dL_does_11 : decode cL_does 11 = .ok (.istore_n 3, 1) := by decide +kernel
theorem dL_does_12 : decode cL_does 12 = .ok (.iload_n 1, 1) := by decide +kernel
theorem dL_does_13 : decode cL_does 13 = .ok (.iconst 5, 1) := by decide +kernel
theorem dL_does_14 : decode cL_does 14 = .ok (.ishr, 1) := by decide +kernel
theorem dL_does_15 : decode cL_does 15 = .ok (.iconst 3, 1) := by decide +kernel
theorem dL_does_16 : decode cL_does 16 = .ok (.invokestatic 14, 3) := by decide +kernel
theorem dL_does_19 : decode cL_does 19 = .ok (.istore 4, 2) := by decide +kernel
theorem dL_does_21 : decode cL_does 21 = .ok (.iload_n 1, 1) := by decide +kernel
theorem dL_does_22 : decode cL_does 22 = .ok (.bipush 15, 2) := by decide +kernel
theorem dL_does_24 : decode cL_does 24 = .ok (.iand, 1) := by decide +kernel
theorem dL_does_25 : decode cL_does 25 = .ok (.tableswitch 199 0 12 #[67, 67, 67, 67, 67, 67, 95, 117, 117, 141, 146, 171, 187], 67) := by decide +kernel
theorem dL_does_92 : decode cL_does 92 = .ok (.iload_n 3, 1) := by decide +kernel
theorem dL_does_93 : decode cL_does 93 = .ok (.bipush 20, 2) := by decide +kernel
theorem dL_does_95 : decode cL_does 95 = .ok (.if_icmp .ne 7, 3) := by decide +kernel
theorem dL_does_98 : decode cL_does 98 = .ok (.iconst 0, 1) := by decide +kernel
theorem dL_does_99 : decode cL_does 99 = .ok (.goto 20, 3) := by decide +kernel
theorem dL_does_102 : decode cL_does 102 = .ok (.aload_n 0, 1) := by decide +kernel
theorem dL_does_103 : decode cL_does 103 = .ok (.iload_n 2, 1) := by decide +kernel
theorem dL_does_104 : decode cL_does 104 = .ok (.iload_n 1, 1) := by decide +kernel
theorem dL_does_105 : decode cL_does 105 = .ok (.bipush 7, 2) := by decide +kernel
theorem dL_does_107 : decode cL_does 107 = .ok (.ishr, 1) := by decide +kernel
theorem dL_does_108 : decode cL_does 108 = .ok (.iload_n 3, 1) := by decide +kernel
theorem dL_does_109 : decode cL_does 109 = .ok (.iconst 1, 1) := by decide +kernel
