theorem dX9_band_76 : decode cX9_band 76 = .ok (.iinc 3 1, 3) := by decide +kernel
theorem dX9_band_79 : decode cX9_band 79 = .ok (.goto (-54), 3) := by decide +kernel
theorem dX9_band_82 : decode cX9_band 82 = .ok (.iload_n 2, 1) := by decide +kernel
theorem dX9_band_83 : decode cX9_band 83 = .ok (.ireturn, 1) := by decide +kernel
theorem dX9_similarity_0 : decode cX9_similarity 0 = .ok (.aload_n 0, 1) := by decide +kernel
theorem dX9_similarity_1 : decode cX9_similarity 1 = .ok (.iconst 0, 1) := by decide +kernel
theorem dX9_similarity_2 : decode cX9_similarity 2 = .ok (.putfield 36, 3) := by decide +kernel
theorem dX9_similarity_5 : decode cX9_similarity 5 = .ok (.aload_n 0, 1) := by decide +kernel
theorem dX9_similarity_6 : decode cX9_similarity 6 = .ok (.getfield 7, 3) := by decide +kernel
theorem dX9_similarity_9 : decode cX9_similarity 9 = .ok (.iconst 0, 1) := by decide +kernel
theorem dX9_similarity_10 : decode cX9_similarity 10 = .ok (.iaload, 1) := by decide +kernel
theorem dX9_similarity_11 : decode cX9_similarity 11 = .ok (.aload_n 0, 1) := by decide +kernel
theorem dX9_similarity_12 : decode cX9_similarity 12 = .ok (.getfield 7, 3) := by decide +kernel
theorem dX9_similarity_15 : decode cX9_similarity 15 = .ok (.iconst 1, 1) := by decide +kernel
theorem dX9_similarity_16 : decode cX9_similarity 16 = .ok (.iaload, 1) := by decide +kernel
theorem dX9_similarity_17 : decode cX9_similarity 17 = .ok (.if_icmp .le 12, 3) := by decide +kernel
theorem dX9_similarity_20 : decode cX9_similarity 20 = .ok (.aload_n 0, 1) := by decide +kernel
theorem dX9_similarity_21 : decode cX9_similarity 21 = .ok (.getfield 7, 3) := by decide +kernel
theorem dX9_similarity_24 : decode cX9_similarity 24 = .ok (.iconst 0, 1) := by decide +kernel
theorem dX9_similarity_25 : decode cX9_similarity 25 = .ok (.iaload, 1) := by decide +kernel
theorem dX9_similarity_26 : decode cX9_similarity 26 = .ok (.goto 9, 3) := by decide +kernel
theorem dX9_similarity_29 : decode cX9_similarity 29 = .ok (.aload_n 0, 1) := by decide +kernel
theorem dX9_similarity_30 : decode cX9_similarity 30 = .ok (.getfield 7, 3) := by decide +kernel
theorem dX9_similarity_33 : decode cX9_similarity 33 = .ok (.iconst 1, 1) := by decide +kernel
theorem dX9_similarity_34 : decode cX9_similarity 34 = .ok (.iaload, 1) := by decide +kernel
theorem dX9_similarity_35 : decode cX9_similarity 35 = .ok (.istore_n 1, 1) := by decide +kernel
theorem dX9_similarity_36 : decode cX9_similarity 36 = .ok (.iload_n 1, 1) := by decide +kernel
theorem dX9_similarity_37 : decode cX9_similarity 37 = .ok (.ifCond .ne 7, 3) := by decide +kernel
theorem dX9_similarity_40 : decode cX9_similarity 40 = .ok (.dconst 1, 1) := by decide +kernel
theorem dX9_similarity_41 : decode cX9_similarity 41 = .ok (.goto 13, 3) := by decide +kernel
theorem dX9_similarity_44 : decode cX9_similarity 44 = .ok (.dconst 1, 1) := by decide +kernel
theorem dX9_similarity_45 : decode cX9_similarity 45 = .ok (.aload_n 0, 1) := by decide +kernel
theorem dX9_similarity_46 : decode cX9_similarity 46 = .ok (.invokevirtual 112, 3) := by decide +kernel
theorem dX9_similarity_49 : decode cX9_similarity 49 = .ok (.i2d, 1) := by decide +kernel
theorem dX9_similarity_50 : decode cX9_similarity 50 = .ok (.iload_n 1, 1) := by decide +kernel
theorem dX9_similarity_51 : decode cX9_similarity 51 = .ok (.i2d, 1) := by decide +kernel
theorem dX9_similarity_52 : decode cX9_similarity 52 = .ok (.ddiv, 1) := by decide +kernel
theorem dX9_similarity_53 : decode cX9_similarity 53 = .ok (.dsub, 1) := by decide +kernel
theorem dX9_similarity_54 : decode cX9_similarity 54 = .ok (.dreturn, 1) := by decide +kernel
theorem dX9_setBlock_0 : decode cX9_setBlock 0 = .ok (.aload_n 0, 1) := by decide +kernel
theorem dX9_setBlock_1 : decode cX9_setBlock 1 = .ok (.iconst 0, 1) := by decide +kernel
theorem dX9_setBlock_2 : decode cX9_setBlock 2 = .ok (.putfield 36, 3) := by decide +kernel
theorem dX9_setBlock_5 : decode cX9_setBlock 5 = .ok (.iload_n 1, 1) := by decide +kernel
theorem dX9_setBlock_6 : decode cX9_setBlock 6 = .ok (.iconst 1, 1) := by decide +kernel
theorem dX9_setBlock_7 : decode cX9_setBlock 7 = .ok (.iconst 2, 1) := by decide +kernel
theorem dX9_setBlock_8 : decode cX9_setBlock 8 = .ok (.invokestatic 42, 3) := by decide +kernel
theorem dX9_setBlock_11 : decode cX9_setBlock 11 = .ok (.ifCond .ne 9, 3) := by decide +kernel
theorem dX9_setBlock_14 : decode cX9_setBlock 14 = .ok (.aload_n 0, 1) := by decide +kernel
theorem dX9_setBlock_15 : decode cX9_setBlock 15 = .ok (.iconst 1, 1) := by decide +kernel
theorem dX9_setBlock_16 : decode cX9_setBlock 16 = .ok (.invokevirtual 98, 3) := by decide +kernel
theorem dX9_setBlock_19 : decode cX9_setBlock 19 = .ok (.ireturn, 1) := by decide +kernel
theorem dX9_setBlock_20 : decode cX9_setBlock 20 = .ok (.aload_n 0, 1) := by decide +kernel
theorem dX9_setBlock_21 : decode cX9_setBlock 21 = .ok (.getfield 16, 3) := by decide +kernel
theorem dX9_setBlock_24 : decode cX9_setBlock 24 = .ok (.istore_n 2, 1) := by decide +kernel
theorem dX9_setBlock_25 : decode cX9_setBlock 25 = .ok (.aload_n 0, 1) := by decide +kernel
theorem dX9_setBlock_26 : decode cX9_setBlock 26 = .ok (.iload_n 1, 1) := by decide +kernel
theorem dX9_setBlock_27 : decode cX9_setBlock 27 = .ok (.putfield 16, 3) := by decide +kernel
theorem dX9_setBlock_30 : decode cX9_setBlock 30 = .ok (.iconst 0, 1) := by decide +kernel
theorem dX9_setBlock_31 : decode cX9_setBlock 31 = .ok (.istore_n 3, 1) := by decide +kernel
theorem dX9_setBlock_32 : decode cX9_setBlock 32 = .ok (.iload_n 3, 1) := by decide +kernel
theorem dX9_setBlock_33 : decode cX9_setBlock 33 = .ok (.sipush 20736, 3) := by decide +kernel
theorem dX9_setBlock_36 : decode cX9_setBlock 36 = .ok (.if_icmp .ge 16, 3) := by decide +kernel
theorem dX9_setBlock_39 : decode cX9_setBlock 39 = .ok (.aload_n 0, 1) := by decide +kernel
theorem dX9_setBlock_40 : decode cX9_setBlock 40 = .ok (.getfield 20, 3) := by decide +kernel
theorem dX9_setBlock_43 : decode cX9_setBlock 43 = .ok (.iload_n 3, 1) := by decide +kernel
theorem dX9_setBlock_44 : decode cX9_setBlock 44 = .ok (.iconst 0, 1) := by decide +kernel
theorem dX9_setBlock_45 : decode cX9_setBlock 45 = .ok (.bastore, 1) := by decide +kernel
theorem dX9_setBlock_46 : decode cX9_setBlock 46 = .ok (.iinc 3 1, 3) := by decide +kernel
theorem dX9_setBlock_49 : decode cX9_setBlock 49 = .ok (.goto (-17), 3) := by decide +kernel
theorem dX9_setBlock_52 : decode cX9_setBlock 52 = .ok (.aload_n 0, 1) := by decide +kernel
theorem dX9_setBlock_53 : decode cX9_setBlock 53 = .ok (.iconst 0, 1) := by decide +kernel
theorem dX9_setBlock_54 : decode cX9_setBlock 54 = .ok (.putfield 73, 3) := by decide +kernel
theorem dX9_setBlock_57 : decode cX9_setBlock 57 = .ok (.aload_n 0, 1) := by decide +kernel
theorem dX9_setBlock_58 : decode cX9_setBlock 58 = .ok (.iconst 0, 1) := by decide +kernel
theorem dX9_setBlock_59 : decode cX9_setBlock 59 = .ok (.putfield 76, 3) := by decide +kernel
theorem dX9_setBlock_62 : decode cX9_setBlock 62 = .ok (.aload_n 0, 1) := by decide +kernel
theorem dX9_setBlock_63 : decode cX9_setBlock 63 = .ok (.iconst 0, 1) := by decide +kernel
theorem dX9_setBlock_64 : decode cX9_setBlock 64 = .ok (.putfield 79, 3) := by decide +kernel
theorem dX9_setBlock_67 : decode cX9_setBlock 67 = .ok (.iload_n 2, 1) := by decide +kernel
theorem dX9_setBlock_68 : decode cX9_setBlock 68 = .ok (.ireturn, 1) := by decide +kernel
theorem dX9_measure_0 : decode cX9_measure 0 = .ok (.aload_n 0, 1) := by decide +kernel
theorem dX9_measure_1 : decode cX9_measure 1 = .ok (.iconst 0, 1) := by decide +kernel
theorem dX9_measure_2 : decode cX9_measure 2 = .ok (.putfield 36, 3) := by decide +kernel
theorem dX9_measure_5 : decode cX9_measure 5 = .ok (.aload_n 0, 1) := by decide +kernel
theorem dX9_measure_6 : decode cX9_measure 6 = .ok (.iconst 1, 1) := by decide +kernel
theorem dX9_measure_7 : decode cX9_measure 7 = .ok (.invokevirtual 119, 3) := by decide +kernel
theorem dX9_measure_10 : decode cX9_measure 10 = .ok (.istore_n 1, 1) := by decide +kernel
theorem dX9_measure_11 : decode cX9_measure 11 = .ok (.aload_n 0, 1) := by decide +kernel
theorem dX9_measure_12 : decode cX9_measure 12 = .ok (.aload_n 0, 1) := by decide +kernel
theorem dX9_measure_13 : decode cX9_measure 13 = .ok (.getfield 7, 3) := by decide +kernel
theorem dX9_measure_16 : decode cX9_measure 16 = .ok (.iconst 0, 1) := by decide +kernel
theorem dX9_measure_17 : decode cX9_measure 17 = .ok (.iaload, 1) := by decide +kernel
theorem dX9_measure_18 : decode cX9_measure 18 = .ok (.aload_n 0, 1) := by decide +kernel
theorem dX9_measure_19 : decode cX9_measure 19 = .ok (.getfield 7, 3) := by decide +kernel
theorem dX9_measure_22 : decode cX9_measure 22 = .ok (.iconst 1, 1) := by decide +kernel
theorem dX9_measure_23 : decode cX9_measure 23 = .ok (.iaload, 1) := by decide +kernel
theorem dX9_measure_24 : decode cX9_measure 24 = .ok (.invokevirtual 50, 3) := by decide +kernel
theorem dX9_measure_27 : decode cX9_measure 27 = .ok (.ireturn, 1) := by decide +kernel
theorem dX9_hits_0 : decode cX9_hits 0 = .ok (.aload_n 0, 1) := by decide +kernel
theorem dX9_hits_1 : decode cX9_hits 1 = .ok (.iconst 0, 1) := by decide +kernel
theorem dX9_hits_2 : decode cX9_hits 2 = .ok (.putfield 36, 3) := by decide +kernel
theorem dX9_hits_5 : decode cX9_hits 5 = .ok (.aload_n 0, 1) := by decide +kernel
theorem dX9_hits_6 : decode cX9_hits 6 = .ok (.getfield 73, 3) := by decide +kernel
theorem dX9_hits_9 : decode cX9_hits 9 = .ok (.ireturn, 1) := by decide +kernel
theorem dX9_misses_0 : decode cX9_misses 0 = .ok (.aload_n 0, 1) := by decide +kernel
theorem dX9_misses_1 : decode cX9_misses 1 = .ok (.iconst 0, 1) := by decide +kernel
theorem dX9_misses_2 : decode cX9_misses 2 = .ok (.putfield 36, 3) := by decide +kernel
theorem dX9_misses_5 : decode cX9_misses 5 = .ok (.aload_n 0, 1) := by decide +kernel
theorem dX9_misses_6 : decode cX9_misses 6 = .ok (.getfield 76, 3) := by decide +kernel
theorem dX9_misses_9 : decode cX9_misses 9 = .ok (.ireturn, 1) := by decide +kernel
theorem dX9_singleSteps_0 : decode cX9_singleSteps 0 = .ok (.aload_n 0, 1) := by decide +kernel
theorem dX9_singleSteps_1 : decode cX9_singleSteps 1 = .ok (.iconst 0, 1) := by decide +kernel
theorem dX9_singleSteps_2 : decode cX9_singleSteps 2 = .ok (.putfield 36, 3) := by decide +kernel
theorem dX9_singleSteps_5 : decode cX9_singleSteps 5 = .ok (.aload_n 0, 1) := by decide +kernel
theorem dX9_singleSteps_6 : decode cX9_singleSteps 6 = .ok (.getfield 79, 3) := by decide +kernel
theorem dX9_singleSteps_9 : decode cX9_singleSteps 9 = .ok (.ireturn, 1) := by decide +kernel
theorem dX9_across_0 : decode cX9_across 0 = .ok (.aload_n 0, 1) := by decide +kernel
theorem dX9_across_1 : decode cX9_across 1 = .ok (.iconst 0, 1) := by decide +kernel
theorem dX9_across_2 : decode cX9_across 2 = .ok (.putfield 36, 3) := by decide +kernel
theorem dX9_across_5 : decode cX9_across 5 = .ok (.iload_n 1, 1) := by decide +kernel
theorem dX9_across_6 : decode cX9_across 6 = .ok (.iconst 0, 1) := by decide +kernel
theorem dX9_across_7 : decode cX9_across 7 = .ok (.aload_n 0, 1) := by decide +kernel
theorem dX9_across_8 : decode cX9_across 8 = .ok (.getfield 7, 3) := by decide +kernel
theorem dX9_across_11 : decode cX9_across 11 = .ok (.iconst 0, 1) := by decide +kernel
theorem dX9_across_12 : decode cX9_across 12 = .ok (.iaload, 1) := by decide +kernel
theorem dX9_across_13 : decode cX9_across 13 = .ok (.invokestatic 42, 3) := by decide +kernel
theorem dX9_across_16 : decode cX9_across 16 = .ok (.ifCond .eq 17, 3) := by decide +kernel
theorem dX9_across_19 : decode cX9_across 19 = .ok (.iload_n 2, 1) := by decide +kernel
theorem dX9_across_20 : decode cX9_across 20 = .ok (.iconst 1, 1) := by decide +kernel
theorem dX9_across_21 : decode cX9_across 21 = .ok (.aload_n 0, 1) := by decide +kernel
theorem dX9_across_22 : decode cX9_across 22 = .ok (.getfield 7, 3) := by decide +kernel
theorem dX9_across_25 : decode cX9_across 25 = .ok (.iconst 1, 1) := by decide +kernel
theorem dX9_across_26 : decode cX9_across 26 = .ok (.iaload, 1) := by decide +kernel
theorem dX9_across_27 : decode cX9_across 27 = .ok (.invokestatic 42, 3) := by decide +kernel
theorem dX9_across_30 : decode cX9_across 30 = .ok (.ifCond .ne 9, 3) := by decide +kernel
theorem dX9_across_33 : decode cX9_across 33 = .ok (.aload_n 0, 1) := by decide +kernel
theorem dX9_across_34 : decode cX9_across 34 = .ok (.iconst 1, 1) := by decide +kernel
theorem dX9_across_35 : decode cX9_across 35 = .ok (.invokevirtual 98, 3) := by decide +kernel
theorem dX9_across_38 : decode cX9_across 38 = .ok (.ireturn, 1) := by decide +kernel
theorem dX9_across_39 : decode cX9_across 39 = .ok (.aload_n 0, 1) := by decide +kernel
theorem dX9_across_40 : decode cX9_across 40 = .ok (.iconst 0, 1) := by decide +kernel
theorem dX9_across_41 : decode cX9_across 41 = .ok (.invokevirtual 60, 3) := by decide +kernel
theorem dX9_across_44 : decode cX9_across 44 = .ok (.aload_n 0, 1) := by decide +kernel
theorem dX9_across_45 : decode cX9_across 45 = .ok (.iload_n 1, 1) := by decide +kernel
theorem dX9_across_46 : decode cX9_across 46 = .ok (.iload_n 2, 1) := by decide +kernel
theorem dX9_across_47 : decode cX9_across 47 = .ok (.invokevirtual 50, 3) := by decide +kernel
theorem dX9_across_50 : decode cX9_across 50 = .ok (.aload_n 0, 1) := by decide +kernel
theorem dX9_across_51 : decode cX9_across 51 = .ok (.iload_n 1, 1) := by decide +kernel
theorem dX9_across_52 : decode cX9_across 52 = .ok (.iload_n 2, 1) := by decide +kernel
theorem dX9_across_53 : decode cX9_across 53 = .ok (.iconst 1, 1) := by decide +kernel
theorem dX9_across_54 : decode cX9_across 54 = .ok (.isub, 1) := by decide +kernel
theorem dX9_across_55 : decode cX9_across 55 = .ok (.invokevirtual 50, 3) := by decide +kernel
theorem dX9_across_58 : decode cX9_across 58 = .ok (.isub, 1) := by decide +kernel
theorem dX9_across_59 : decode cX9_across 59 = .ok (.ireturn, 1) := by decide +kernel
theorem dX9_found_0 : decode cX9_found 0 = .ok (.aload_n 0, 1) := by decide +kernel
theorem dX9_found_1 : decode cX9_found 1 = .ok (.iconst 1, 1) := by decide +kernel
theorem dX9_found_2 : decode cX9_found 2 = .ok (.invokevirtual 60, 3) := by decide +kernel
theorem dX9_found_5 : decode cX9_found 5 = .ok (.aload_n 0, 1) := by decide +kernel
theorem dX9_found_6 : decode cX9_found 6 = .ok (.iconst 0, 1) := by decide +kernel
theorem dX9_found_7 : decode cX9_found 7 = .ok (.aload_n 0, 1) := by decide +kernel
theorem dX9_found_8 : decode cX9_found 8 = .ok (.getfield 7, 3) := by decide +kernel
theorem dX9_found_11 : decode cX9_found 11 = .ok (.iconst 1, 1) := by decide +kernel
theorem dX9_found_12 : decode cX9_found 12 = .ok (.iaload, 1) := by decide +kernel
theorem dX9_found_13 : decode cX9_found 13 = .ok (.invokevirtual 50, 3) := by decide +kernel
theorem dX9_found_16 : decode cX9_found 16 = .ok (.istore_n 1, 1) := by decide +kernel
theorem dX9_found_17 : decode cX9_found 17 = .ok (.iconst 1, 1) := by decide +kernel
theorem dX9_found_18 : decode cX9_found 18 = .ok (.istore_n 2, 1) := by decide +kernel
theorem dX9_found_19 : decode cX9_found 19 = .ok (.iload_n 2, 1) := by decide +kernel
theorem dX9_found_20 : decode cX9_found 20 = .ok (.aload_n 0, 1) := by decide +kernel
theorem dX9_found_21 : decode cX9_found 21 = .ok (.getfield 7, 3) := by decide +kernel
theorem dX9_found_24 : decode cX9_found 24 = .ok (.iconst 0, 1) := by decide +kernel
theorem dX9_found_25 : decode cX9_found 25 = .ok (.iaload, 1) := by decide +kernel
theorem dX9_found_26 : decode cX9_found 26 = .ok (.if_icmp .gt 40, 3) := by decide +kernel
theorem dX9_found_29 : decode cX9_found 29 = .ok (.aload_n 0, 1) := by decide +kernel
theorem dX9_found_30 : decode cX9_found 30 = .ok (.iload_n 2, 1) := by decide +kernel
theorem dX9_found_31 : decode cX9_found 31 = .ok (.aload_n 0, 1) := by decide +kernel
theorem dX9_found_32 : decode cX9_found 32 = .ok (.getfield 7, 3) := by decide +kernel
theorem dX9_found_35 : decode cX9_found 35 = .ok (.iconst 1, 1) := by decide +kernel
theorem dX9_found_36 : decode cX9_found 36 = .ok (.iaload, 1) := by decide +kernel
theorem dX9_found_37 : decode cX9_found 37 = .ok (.invokevirtual 50, 3) := by decide +kernel
theorem dX9_found_40 : decode cX9_found 40 = .ok (.iload_n 1, 1) := by decide +kernel
theorem dX9_found_41 : decode cX9_found 41 = .ok (.if_icmp .ge 17, 3) := by decide +kernel
theorem dX9_found_44 : decode cX9_found 44 = .ok (.aload_n 0, 1) := by decide +kernel
theorem dX9_found_45 : decode cX9_found 45 = .ok (.iload_n 2, 1) := by decide +kernel
theorem dX9_found_46 : decode cX9_found 46 = .ok (.aload_n 0, 1) := by decide +kernel
theorem dX9_found_47 : decode cX9_found 47 = .ok (.getfield 7, 3) := by decide +kernel
theorem dX9_found_50 : decode cX9_found 50 = .ok (.iconst 1, 1) := by decide +kernel
theorem dX9_found_51 : decode cX9_found 51 = .ok (.iaload, 1) := by decide +kernel
theorem dX9_found_52 : decode cX9_found 52 = .ok (.invokevirtual 50, 3) := by decide +kernel
theorem dX9_found_55 : decode cX9_found 55 = .ok (.goto 4, 3) := by decide +kernel
theorem dX9_found_58 : decode cX9_found 58 = .ok (.iload_n 1, 1) := by decide +kernel
theorem dX9_found_59 : decode cX9_found 59 = .ok (.istore_n 1, 1) := by decide +kernel
theorem dX9_found_60 : decode cX9_found 60 = .ok (.iinc 2 1, 3) := by decide +kernel
theorem dX9_found_63 : decode cX9_found 63 = .ok (.goto (-44), 3) := by decide +kernel
theorem dX9_found_66 : decode cX9_found 66 = .ok (.iload_n 1, 1) := by decide +kernel
theorem dX9_found_67 : decode cX9_found 67 = .ok (.ireturn, 1) := by decide +kernel
theorem dX9_end_0 : decode cX9_end 0 = .ok (.aload_n 0, 1) := by decide +kernel
theorem dX9_end_1 : decode cX9_end 1 = .ok (.invokevirtual 123, 3) := by decide +kernel
theorem dX9_end_4 : decode cX9_end 4 = .ok (.istore_n 1, 1) := by decide +kernel
theorem dX9_end_5 : decode cX9_end 5 = .ok (.iconst 0, 1) := by decide +kernel
theorem dX9_end_6 : decode cX9_end 6 = .ok (.istore_n 2, 1) := by decide +kernel
theorem dX9_end_7 : decode cX9_end 7 = .ok (.aload_n 0, 1) := by decide +kernel
theorem dX9_end_8 : decode cX9_end 8 = .ok (.iload_n 2, 1) := by decide +kernel
theorem dX9_end_9 : decode cX9_end 9 = .ok (.aload_n 0, 1) := by decide +kernel
theorem dX9_end_10 : decode cX9_end 10 = .ok (.getfield 7, 3) := by decide +kernel
theorem dX9_end_13 : decode cX9_end 13 = .ok (.iconst 1, 1) := by decide +kernel
theorem dX9_end_14 : decode cX9_end 14 = .ok (.iaload, 1) := by decide +kernel
theorem dX9_end_15 : decode cX9_end 15 = .ok (.invokevirtual 50, 3) := by decide +kernel
theorem dX9_end_18 : decode cX9_end 18 = .ok (.iload_n 1, 1) := by decide +kernel
theorem dX9_end_19 : decode cX9_end 19 = .ok (.if_icmp .eq 9, 3) := by decide +kernel
theorem dX9_end_22 : decode cX9_end 22 = .ok (.iinc 2 1, 3) := by decide +kernel
theorem dX9_end_25 : decode cX9_end 25 = .ok (.goto (-18), 3) := by decide +kernel
theorem dX9_end_28 : decode cX9_end 28 = .ok (.iload_n 2, 1) := by decide +kernel
theorem dX9_end_29 : decode cX9_end 29 = .ok (.ireturn, 1) := by decide +kernel
theorem dX9_foundDistance_0 : decode cX9_foundDistance 0 = .ok (.aload_n 0, 1) := by decide +kernel
theorem dX9_foundDistance_1 : decode cX9_foundDistance 1 = .ok (.iconst 0, 1) := by decide +kernel
theorem dX9_foundDistance_2 : decode cX9_foundDistance 2 = .ok (.putfield 36, 3) := by decide +kernel
theorem dX9_foundDistance_5 : decode cX9_foundDistance 5 = .ok (.aload_n 0, 1) := by decide +kernel
theorem dX9_foundDistance_6 : decode cX9_foundDistance 6 = .ok (.invokevirtual 123, 3) := by decide +kernel
theorem dX9_foundDistance_9 : decode cX9_foundDistance 9 = .ok (.ireturn, 1) := by decide +kernel
theorem dX9_foundEnd_0 : decode cX9_foundEnd 0 = .ok (.aload_n 0, 1) := by decide +kernel
theorem dX9_foundEnd_1 : decode cX9_foundEnd 1 = .ok (.iconst 0, 1) := by decide +kernel
theorem dX9_foundEnd_2 : decode cX9_foundEnd 2 = .ok (.putfield 36, 3) := by decide +kernel
theorem dX9_foundEnd_5 : decode cX9_foundEnd 5 = .ok (.aload_n 0, 1) := by decide +kernel
theorem dX9_foundEnd_6 : decode cX9_foundEnd 6 = .ok (.invokevirtual 126, 3) := by decide +kernel
theorem dX9_foundEnd_9 : decode cX9_foundEnd 9 = .ok (.ireturn, 1) := by decide +kernel
theorem dX9_tried_0 : decode cX9_tried 0 = .ok (.aload_n 0, 1) := by decide +kernel
theorem dX9_tried_1 : decode cX9_tried 1 = .ok (.iload_n 1, 1) := by decide +kernel
theorem dX9_tried_2 : decode cX9_tried 2 = .ok (.iload_n 2, 1) := by decide +kernel
theorem dX9_tried_3 : decode cX9_tried 3 = .ok (.invokevirtual 46, 3) := by decide +kernel
theorem dX9_tried_6 : decode cX9_tried 6 = .ok (.istore 4, 2) := by decide +kernel
theorem dX9_tried_8 : decode cX9_tried 8 = .ok (.aload_n 0, 1) := by decide +kernel
theorem dX9_tried_9 : decode cX9_tried 9 = .ok (.getfield 7, 3) := by decide +kernel
theorem dX9_tried_12 : decode cX9_tried 12 = .ok (.iconst 3, 1) := by decide +kernel
theorem dX9_tried_13 : decode cX9_tried 13 = .ok (.bipush 20, 2) := by decide +kernel
theorem dX9_tried_15 : decode cX9_tried 15 = .ok (.iload_n 1, 1) := by decide +kernel
theorem dX9_tried_16 : decode cX9_tried 16 = .ok (.imul, 1) := by decide +kernel
theorem dX9_tried_17 : decode cX9_tried 17 = .ok (.iadd, 1) := by decide +kernel
theorem dX9_tried_18 : decode cX9_tried 18 = .ok (.iload_n 2, 1) := by decide +kernel
theorem dX9_tried_19 : decode cX9_tried 19 = .ok (.iadd, 1) := by decide +kernel
theorem dX9_tried_20 : decode cX9_tried 20 = .ok (.iload_n 3, 1) := by decide +kernel
theorem dX9_tried_21 : decode cX9_tried 21 = .ok (.iastore, 1) := by decide +kernel
theorem dX9_tried_22 : decode cX9_tried 22 = .ok (.aload_n 0, 1) := by decide +kernel
theorem dX9_tried_23 : decode cX9_tried 23 = .ok (.invokevirtual 112, 3) := by decide +kernel
theorem dX9_tried_26 : decode cX9_tried 26 = .ok (.istore 5, 2) := by decide +kernel
theorem dX9_tried_28 : decode cX9_tried 28 = .ok (.aload_n 0, 1) := by decide +kernel
theorem dX9_tried_29 : decode cX9_tried 29 = .ok (.getfield 7, 3) := by decide +kernel
theorem dX9_tried_32 : decode cX9_tried 32 = .ok (.iconst 3, 1) := by decide +kernel
theorem dX9_tried_33 : decode cX9_tried 33 = .ok (.bipush 20, 2) := by decide +kernel
theorem dX9_tried_35 : decode cX9_tried 35 = .ok (.iload_n 1, 1) := by decide +kernel
theorem dX9_tried_36 : decode cX9_tried 36 = .ok (.imul, 1) := by decide +kernel
theorem dX9_tried_37 : decode cX9_tried 37 = .ok (.iadd, 1) := by decide +kernel
theorem dX9_tried_38 : decode cX9_tried 38 = .ok (.iload_n 2, 1) := by decide +kernel
theorem dX9_tried_39 : decode cX9_tried 39 = .ok (.iadd, 1) := by decide +kernel
theorem dX9_tried_40 : decode cX9_tried 40 = .ok (.iload 4, 2) := by decide +kernel
theorem dX9_tried_42 : decode cX9_tried 42 = .ok (.iastore, 1) := by decide +kernel
theorem dX9_tried_43 : decode cX9_tried 43 = .ok (.iload 5, 2) := by decide +kernel
theorem dX9_tried_45 : decode cX9_tried 45 = .ok (.ireturn, 1) := by decide +kernel
theorem dX9_ifReplaced_0 : decode cX9_ifReplaced 0 = .ok (.aload_n 0, 1) := by decide +kernel
theorem dX9_ifReplaced_1 : decode cX9_ifReplaced 1 = .ok (.iconst 0, 1) := by decide +kernel
theorem dX9_ifReplaced_2 : decode cX9_ifReplaced 2 = .ok (.putfield 36, 3) := by decide +kernel
theorem dX9_ifReplaced_5 : decode cX9_ifReplaced 5 = .ok (.iload_n 1, 1) := by decide +kernel
theorem dX9_ifReplaced_6 : decode cX9_ifReplaced 6 = .ok (.invokestatic 109, 3) := by decide +kernel
theorem dX9_ifReplaced_9 : decode cX9_ifReplaced 9 = .ok (.ifCond .eq 19, 3) := by decide +kernel
theorem dX9_ifReplaced_12 : decode cX9_ifReplaced 12 = .ok (.iload_n 2, 1) := by decide +kernel
theorem dX9_ifReplaced_13 : decode cX9_ifReplaced 13 = .ok (.iconst 0, 1) := by decide +kernel
theorem dX9_ifReplaced_14 : decode cX9_ifReplaced 14 = .ok (.aload_n 0, 1) := by decide +kernel
theorem dX9_ifReplaced_15 : decode cX9_ifReplaced 15 = .ok (.getfield 7, 3) := by decide +kernel
theorem dX9_ifReplaced_18 : decode cX9_ifReplaced 18 = .ok (.iload_n 1, 1) := by decide +kernel
theorem dX9_ifReplaced_19 : decode cX9_ifReplaced 19 = .ok (.iaload, 1) := by decide +kernel
theorem dX9_ifReplaced_20 : decode cX9_ifReplaced 20 = .ok (.iconst 1, 1) := by decide +kernel
theorem dX9_ifReplaced_21 : decode cX9_ifReplaced 21 = .ok (.isub, 1) := by decide +kernel
theorem dX9_ifReplaced_22 : decode cX9_ifReplaced 22 = .ok (.invokestatic 42, 3) := by decide +kernel
theorem dX9_ifReplaced_25 : decode cX9_ifReplaced 25 = .ok (.ifCond .ne 9, 3) := by decide +kernel
theorem dX9_ifReplaced_28 : decode cX9_ifReplaced 28 = .ok (.aload_n 0, 1) := by decide +kernel
theorem dX9_ifReplaced_29 : decode cX9_ifReplaced 29 = .ok (.iconst 1, 1) := by decide +kernel
theorem dX9_ifReplaced_30 : decode cX9_ifReplaced 30 = .ok (.invokevirtual 98, 3) := by decide +kernel
theorem dX9_ifReplaced_33 : decode cX9_ifReplaced 33 = .ok (.ireturn, 1) := by decide +kernel
theorem dX9_ifReplaced_34 : decode cX9_ifReplaced 34 = .ok (.aload_n 0, 1) := by decide +kernel
theorem dX9_ifReplaced_35 : decode cX9_ifReplaced 35 = .ok (.iload_n 3, 1) := by decide +kernel
theorem dX9_ifReplaced_36 : decode cX9_ifReplaced 36 = .ok (.invokevirtual 102, 3) := by decide +kernel
theorem dX9_ifReplaced_39 : decode cX9_ifReplaced 39 = .ok (.ifCond .eq 13, 3) := by decide +kernel
theorem dX9_ifReplaced_42 : decode cX9_ifReplaced 42 = .ok (.aload_n 0, 1) := by decide +kernel
theorem dX9_ifReplaced_43 : decode cX9_ifReplaced 43 = .ok (.iload_n 1, 1) := by decide +kernel
theorem dX9_ifReplaced_44 : decode cX9_ifReplaced 44 = .ok (.iload_n 2, 1) := by decide +kernel
theorem dX9_ifReplaced_45 : decode cX9_ifReplaced 45 = .ok (.iload_n 3, 1) := by decide +kernel
theorem dX9_ifReplaced_46 : decode cX9_ifReplaced 46 = .ok (.invokevirtual 129, 3) := by decide +kernel
theorem dX9_ifReplaced_49 : decode cX9_ifReplaced 49 = .ok (.goto 8, 3) := by decide +kernel
theorem dX9_ifReplaced_52 : decode cX9_ifReplaced 52 = .ok (.aload_n 0, 1) := by decide +kernel
theorem dX9_ifReplaced_53 : decode cX9_ifReplaced 53 = .ok (.iconst 2, 1) := by decide +kernel
theorem dX9_ifReplaced_54 : decode cX9_ifReplaced 54 = .ok (.invokevirtual 98, 3) := by decide +kernel
theorem dX9_ifReplaced_57 : decode cX9_ifReplaced 57 = .ok (.ireturn, 1) := by decide +kernel
theorem dX9_best_0 : decode cX9_best 0 = .ok (.iconst (-1), 1) := by decide +kernel
theorem dX9_best_1 : decode cX9_best 1 = .ok (.istore_n 2, 1) := by decide +kernel
theorem dX9_best_2 : decode cX9_best 2 = .ok (.iconst 0, 1) := by decide +kernel
theorem dX9_best_3 : decode cX9_best 3 = .ok (.istore_n 3, 1) := by decide +kernel
theorem dX9_best_4 : decode cX9_best 4 = .ok (.iconst 0, 1) := by decide +kernel
theorem dX9_best_5 : decode cX9_best 5 = .ok (.istore 4, 2) := by decide +kernel
theorem dX9_best_7 : decode cX9_best 7 = .ok (.iload 4, 2) := by decide +kernel
theorem dX9_best_9 : decode cX9_best 9 = .ok (.aload_n 0, 1) := by decide +kernel
theorem dX9_best_10 : decode cX9_best 10 = .ok (.getfield 7, 3) := by decide +kernel
theorem dX9_best_13 : decode cX9_best 13 = .ok (.iload_n 1, 1) := by decide +kernel
theorem dX9_best_14 : decode cX9_best 14 = .ok (.iaload, 1) := by decide +kernel
theorem dX9_best_15 : decode cX9_best 15 = .ok (.if_icmp .ge 87, 3) := by decide +kernel
theorem dX9_best_18 : decode cX9_best 18 = .ok (.iconst 0, 1) := by decide +kernel
theorem dX9_best_19 : decode cX9_best 19 = .ok (.istore 5, 2) := by decide +kernel
theorem dX9_best_21 : decode cX9_best 21 = .ok (.iload 5, 2) := by decide +kernel
theorem dX9_best_23 : decode cX9_best 23 = .ok (.aload_n 0, 1) := by decide +kernel
theorem dX9_best_24 : decode cX9_best 24 = .ok (.getfield 7, 3) := by decide +kernel
theorem dX9_best_27 : decode cX9_best 27 = .ok (.iconst 2, 1) := by decide +kernel
theorem dX9_best_28 : decode cX9_best 28 = .ok (.iaload, 1) := by decide +kernel
theorem dX9_best_29 : decode cX9_best 29 = .ok (.if_icmp .ge 67, 3) := by decide +kernel
theorem dX9_best_32 : decode cX9_best 32 = .ok (.aload_n 0, 1) := by decide +kernel
theorem dX9_best_33 : decode cX9_best 33 = .ok (.iload_n 1, 1) := by decide +kernel
theorem dX9_best_34 : decode cX9_best 34 = .ok (.iload 4, 2) := by decide +kernel
theorem dX9_best_36 : decode cX9_best 36 = .ok (.iload 5, 2) := by decide +kernel
theorem dX9_best_38 : decode cX9_best 38 = .ok (.invokevirtual 129, 3) := by decide +kernel
theorem dX9_best_41 : decode cX9_best 41 = .ok (.istore 6, 2) := by decide +kernel
theorem dX9_best_43 : decode cX9_best 43 = .ok (.iload_n 2, 1) := by decide +kernel
theorem dX9_best_44 : decode cX9_best 44 = .ok (.ifCond .lt 9, 3) := by decide +kernel
theorem dX9_best_47 : decode cX9_best 47 = .ok (.iload 6, 2) := by decide +kernel
theorem dX9_best_49 : decode cX9_best 49 = .ok (.iload_n 3, 1) := by decide +kernel
theorem dX9_best_50 : decode cX9_best 50 = .ok (.if_icmp .ge 7, 3) := by decide +kernel
theorem dX9_best_53 : decode cX9_best 53 = .ok (.iconst 1, 1) := by decide +kernel
theorem dX9_best_54 : decode cX9_best 54 = .ok (.goto 4, 3) := by decide +kernel
theorem dX9_best_57 : decode cX9_best 57 = .ok (.iconst 0, 1) := by decide +kernel
theorem dX9_best_58 : decode cX9_best 58 = .ok (.istore 7, 2) := by decide +kernel
theorem dX9_best_60 : decode cX9_best 60 = .ok (.iload 7, 2) := by decide +kernel
theorem dX9_best_62 : decode cX9_best 62 = .ok (.ifCond .eq 14, 3) := by decide +kernel
theorem dX9_best_65 : decode cX9_best 65 = .ok (.bipush 10, 2) := by decide +kernel
theorem dX9_best_67 : decode cX9_best 67 = .ok (.iload 4, 2) := by decide +kernel
theorem dX9_best_69 : decode cX9_best 69 = .ok (.imul, 1) := by decide +kernel
theorem dX9_best_70 : decode cX9_best 70 = .ok (.iload 5, 2) := by decide +kernel
theorem dX9_best_72 : decode cX9_best 72 = .ok (.iadd, 1) := by decide +kernel
theorem dX9_best_73 : decode cX9_best 73 = .ok (.goto 4, 3) := by decide +kernel
theorem dX9_best_76 : decode cX9_best 76 = .ok (.iload_n 2, 1) := by decide +kernel
theorem dX9_best_77 : decode cX9_best 77 = .ok (.istore_n 2, 1) := by decide +kernel
theorem dX9_best_78 : decode cX9_best 78 = .ok (.iload 7, 2) := by decide +kernel
theorem dX9_best_80 : decode cX9_best 80 = .ok (.ifCond .eq 8, 3) := by decide +kernel
theorem dX9_best_83 : decode cX9_best 83 = .ok (.iload 6, 2) := by decide +kernel
theorem dX9_best_85 : decode cX9_best 85 = .ok (.goto 4, 3) := by decide +kernel
theorem dX9_best_88 : decode cX9_best 88 = .ok (.iload_n 3, 1) := by decide +kernel
theorem dX9_best_89 : decode cX9_best 89 = .ok (.istore_n 3, 1) := by decide +kernel
theorem dX9_best_90 : decode cX9_best 90 = .ok (.iinc 5 1, 3) := by decide +kernel
theorem dX9_best_93 : decode cX9_best 93 = .ok (.goto (-72), 3) := by decide +kernel
theorem dX9_best_96 : decode cX9_best 96 = .ok (.iinc 4 1, 3) := by decide +kernel
theorem dX9_best_99 : decode cX9_best 99 = .ok (.goto (-92), 3) := by decide +kernel
theorem dX9_best_102 : decode cX9_best 102 = .ok (.iload_n 2, 1) := by decide +kernel
theorem dX9_best_103 : decode cX9_best 103 = .ok (.ireturn, 1) := by decide +kernel
theorem dX9_bestReplacement_0 : decode cX9_bestReplacement 0 = .ok (.aload_n 0, 1) := by decide +kernel
theorem dX9_bestReplacement_1 : decode cX9_bestReplacement 1 = .ok (.iconst 0, 1) := by decide +kernel
theorem dX9_bestReplacement_2 : decode cX9_bestReplacement 2 = .ok (.putfield 36, 3) := by decide +kernel
theorem dX9_bestReplacement_5 : decode cX9_bestReplacement 5 = .ok (.iload_n 1, 1) := by decide +kernel
theorem dX9_bestReplacement_6 : decode cX9_bestReplacement 6 = .ok (.invokestatic 109, 3) := by decide +kernel
theorem dX9_bestReplacement_9 : decode cX9_bestReplacement 9 = .ok (.ifCond .eq 11, 3) := by decide +kernel
theorem dX9_bestReplacement_12 : decode cX9_bestReplacement 12 = .ok (.aload_n 0, 1) := by decide +kernel
theorem dX9_bestReplacement_13 : decode cX9_bestReplacement 13 = .ok (.iload_n 1, 1) := by decide +kernel
theorem dX9_bestReplacement_14 : decode cX9_bestReplacement 14 = .ok (.invokevirtual 132, 3) := by decide +kernel
theorem dX9_bestReplacement_17 : decode cX9_bestReplacement 17 = .ok (.goto 8, 3) := by decide +kernel
theorem dX9_bestReplacement_20 : decode cX9_bestReplacement 20 = .ok (.aload_n 0, 1) := by decide +kernel
theorem dX9_bestReplacement_21 : decode cX9_bestReplacement 21 = .ok (.iconst 1, 1) := by decide +kernel
theorem dX9_bestReplacement_22 : decode cX9_bestReplacement 22 = .ok (.invokevirtual 98, 3) := by decide +kernel
theorem dX9_bestReplacement_25 : decode cX9_bestReplacement 25 = .ok (.ireturn, 1) := by decide +kernel
theorem dX9_missesToCome_0 : decode cX9_missesToCome 0 = .ok (.aload_n 0, 1) := by decide +kernel
theorem dX9_missesToCome_1 : decode cX9_missesToCome 1 = .ok (.iconst 0, 1) := by decide +kernel
theorem dX9_missesToCome_2 : decode cX9_missesToCome 2 = .ok (.putfield 36, 3) := by decide +kernel
theorem dX9_missesToCome_5 : decode cX9_missesToCome 5 = .ok (.aload_n 0, 1) := by decide +kernel
theorem dX9_missesToCome_6 : decode cX9_missesToCome 6 = .ok (.iconst 0, 1) := by decide +kernel
theorem dX9_missesToCome_7 : decode cX9_missesToCome 7 = .ok (.invokevirtual 119, 3) := by decide +kernel
theorem dX9_missesToCome_10 : decode cX9_missesToCome 10 = .ok (.ireturn, 1) := by decide +kernel
theorem dX9_append_0 : decode cX9_append 0 = .ok (.aload_n 0, 1) := by decide +kernel
theorem dX9_append_1 : decode cX9_append 1 = .ok (.iconst 0, 1) := by decide +kernel
theorem dX9_append_2 : decode cX9_append 2 = .ok (.putfield 36, 3) := by decide +kernel
theorem dX9_append_5 : decode cX9_append 5 = .ok (.iload_n 1, 1) := by decide +kernel
theorem dX9_append_6 : decode cX9_append 6 = .ok (.bipush 33, 2) := by decide +kernel
theorem dX9_append_8 : decode cX9_append 8 = .ok (.bipush 126, 2) := by decide +kernel
theorem dX9_append_10 : decode cX9_append 10 = .ok (.invokestatic 42, 3) := by decide +kernel
theorem dX9_append_13 : decode cX9_append 13 = .ok (.ifCond .ne 9, 3) := by decide +kernel
theorem dX9_append_16 : decode cX9_append 16 = .ok (.aload_n 0, 1) := by decide +kernel
theorem dX9_append_17 : decode cX9_append 17 = .ok (.iconst 1, 1) := by decide +kernel
theorem dX9_append_18 : decode cX9_append 18 = .ok (.invokevirtual 98, 3) := by decide +kernel
theorem dX9_append_21 : decode cX9_append 21 = .ok (.ireturn, 1) := by decide +kernel
theorem dX9_append_22 : decode cX9_append 22 = .ok (.aload_n 0, 1) := by decide +kernel
theorem dX9_append_23 : decode cX9_append 23 = .ok (.getfield 92, 3) := by decide +kernel
theorem dX9_append_26 : decode cX9_append 26 = .ok (.bipush 60, 2) := by decide +kernel
theorem dX9_append_28 : decode cX9_append 28 = .ok (.if_icmp .ne 9, 3) := by decide +kernel
theorem dX9_append_31 : decode cX9_append 31 = .ok (.aload_n 0, 1) := by decide +kernel
theorem dX9_append_32 : decode cX9_append 32 = .ok (.iconst 2, 1) := by decide +kernel
theorem dX9_append_33 : decode cX9_append 33 = .ok (.invokevirtual 98, 3) := by decide +kernel
theorem dX9_append_36 : decode cX9_append 36 = .ok (.ireturn, 1) := by decide +kernel
theorem dX9_append_37 : decode cX9_append 37 = .ok (.aload_n 0, 1) := by decide +kernel
theorem dX9_append_38 : decode cX9_append 38 = .ok (.getfield 27, 3) := by decide +kernel
theorem dX9_append_41 : decode cX9_append 41 = .ok (.aload_n 0, 1) := by decide +kernel
theorem dX9_append_42 : decode cX9_append 42 = .ok (.getfield 92, 3) := by decide +kernel
theorem dX9_append_45 : decode cX9_append 45 = .ok (.iload_n 1, 1) := by decide +kernel
theorem dX9_append_46 : decode cX9_append 46 = .ok (.iastore, 1) := by decide +kernel
theorem dX9_append_47 : decode cX9_append 47 = .ok (.aload_n 0, 1) := by decide +kernel
theorem dX9_append_48 : decode cX9_append 48 = .ok (.dup, 1) := by decide +kernel
theorem dX9_append_49 : decode cX9_append 49 = .ok (.getfield 92, 3) := by decide +kernel
theorem dX9_append_52 : decode cX9_append 52 = .ok (.iconst 1, 1) := by decide +kernel
theorem dX9_append_53 : decode cX9_append 53 = .ok (.iadd, 1) := by decide +kernel
theorem dX9_append_54 : decode cX9_append 54 = .ok (.putfield 92, 3) := by decide +kernel
theorem dX9_append_57 : decode cX9_append 57 = .ok (.aload_n 0, 1) := by decide +kernel
theorem dX9_append_58 : decode cX9_append 58 = .ok (.getfield 92, 3) := by decide +kernel
theorem dX9_append_61 : decode cX9_append 61 = .ok (.ireturn, 1) := by decide +kernel
theorem dX9_clearBuffer_0 : decode cX9_clearBuffer 0 = .ok (.aload_n 0, 1) := by decide +kernel
theorem dX9_clearBuffer_1 : decode cX9_clearBuffer 1 = .ok (.iconst 0, 1) := by decide +kernel
theorem dX9_clearBuffer_2 : decode cX9_clearBuffer 2 = .ok (.putfield 36, 3) := by decide +kernel
theorem dX9_clearBuffer_5 : decode cX9_clearBuffer 5 = .ok (.aload_n 0, 1) := by decide +kernel
theorem dX9_clearBuffer_6 : decode cX9_clearBuffer 6 = .ok (.getfield 92, 3) := by decide +kernel
theorem dX9_clearBuffer_9 : decode cX9_clearBuffer 9 = .ok (.istore_n 1, 1) := by decide +kernel
theorem dX9_clearBuffer_10 : decode cX9_clearBuffer 10 = .ok (.aload_n 0, 1) := by decide +kernel
theorem dX9_clearBuffer_11 : decode cX9_clearBuffer 11 = .ok (.iconst 0, 1) := by decide +kernel
theorem dX9_clearBuffer_12 : decode cX9_clearBuffer 12 = .ok (.putfield 92, 3) := by decide +kernel
theorem dX9_clearBuffer_15 : decode cX9_clearBuffer 15 = .ok (.iload_n 1, 1) := by decide +kernel
theorem dX9_clearBuffer_16 : decode cX9_clearBuffer 16 = .ok (.ireturn, 1) := by decide +kernel
theorem dX9_firstError_0 : decode cX9_firstError 0 = .ok (.aload_n 0, 1) := by decide +kernel
theorem dX9_firstError_1 : decode cX9_firstError 1 = .ok (.iconst 0, 1) := by decide +kernel
theorem dX9_firstError_2 : decode cX9_firstError 2 = .ok (.putfield 36, 3) := by decide +kernel
theorem dX9_firstError_5 : decode cX9_firstError 5 = .ok (.aload_n 0, 1) := by decide +kernel
theorem dX9_firstError_6 : decode cX9_firstError 6 = .ok (.invokevirtual 95, 3) := by decide +kernel
theorem dX9_firstError_9 : decode cX9_firstError 9 = .ok (.aload_n 0, 1) := by decide +kernel
theorem dX9_firstError_10 : decode cX9_firstError 10 = .ok (.getfield 82, 3) := by decide +kernel
theorem dX9_firstError_13 : decode cX9_firstError 13 = .ok (.ireturn, 1) := by decide +kernel
theorem dX9_undo_0 : decode cX9_undo 0 = .ok (.aload_n 0, 1) := by decide +kernel
theorem dX9_undo_1 : decode cX9_undo 1 = .ok (.iconst 0, 1) := by decide +kernel
theorem dX9_undo_2 : decode cX9_undo 2 = .ok (.putfield 36, 3) := by decide +kernel
theorem dX9_undo_5 : decode cX9_undo 5 = .ok (.aload_n 0, 1) := by decide +kernel
theorem dX9_undo_6 : decode cX9_undo 6 = .ok (.getfield 39, 3) := by decide +kernel
theorem dX9_undo_9 : decode cX9_undo 9 = .ok (.ifCond .ne 9, 3) := by decide +kernel
theorem dX9_undo_12 : decode cX9_undo 12 = .ok (.aload_n 0, 1) := by decide +kernel
theorem dX9_undo_13 : decode cX9_undo 13 = .ok (.iconst 1, 1) := by decide +kernel
theorem dX9_undo_14 : decode cX9_undo 14 = .ok (.invokevirtual 98, 3) := by decide +kernel
theorem dX9_undo_17 : decode cX9_undo 17 = .ok (.ireturn, 1) := by decide +kernel
theorem dX9_undo_18 : decode cX9_undo 18 = .ok (.aload_n 0, 1) := by decide +kernel
theorem dX9_undo_19 : decode cX9_undo 19 = .ok (.dup, 1) := by decide +kernel
theorem dX9_undo_20 : decode cX9_undo 20 = .ok (.getfield 39, 3) := by decide +kernel
theorem dX9_undo_23 : decode cX9_undo 23 = .ok (.iconst 1, 1) := by decide +kernel
theorem dX9_undo_24 : decode cX9_undo 24 = .ok (.isub, 1) := by decide +kernel
theorem dX9_undo_25 : decode cX9_undo 25 = .ok (.putfield 39, 3) := by decide +kernel
theorem dX9_undo_28 : decode cX9_undo 28 = .ok (.iconst 0, 1) := by decide +kernel
theorem dX9_undo_29 : decode cX9_undo 29 = .ok (.istore_n 1, 1) := by decide +kernel
theorem dX9_undo_30 : decode cX9_undo 30 = .ok (.iload_n 1, 1) := by decide +kernel
theorem dX9_undo_31 : decode cX9_undo 31 = .ok (.bipush 43, 2) := by decide +kernel
theorem dX9_undo_33 : decode cX9_undo 33 = .ok (.if_icmp .ge 29, 3) := by decide +kernel
theorem dX9_undo_36 : decode cX9_undo 36 = .ok (.aload_n 0, 1) := by decide +kernel
theorem dX9_undo_37 : decode cX9_undo 37 = .ok (.getfield 7, 3) := by decide +kernel
theorem dX9_undo_40 : decode cX9_undo 40 = .ok (.iload_n 1, 1) := by decide +kernel
theorem dX9_undo_41 : decode cX9_undo 41 = .ok (.aload_n 0, 1) := by decide +kernel
theorem dX9_undo_42 : decode cX9_undo 42 = .ok (.getfield 13, 3) := by decide +kernel
theorem dX9_undo_45 : decode cX9_undo 45 = .ok (.bipush 43, 2) := by decide +kernel
theorem dX9_undo_47 : decode cX9_undo 47 = .ok (.aload_n 0, 1) := by decide +kernel
theorem dX9_undo_48 : decode cX9_undo 48 = .ok (.getfield 39, 3) := by decide +kernel
theorem dX9_undo_51 : decode cX9_undo 51 = .ok (.imul, 1) := by decide +kernel
theorem dX9_undo_52 : decode cX9_undo 52 = .ok (.iload_n 1, 1) := by decide +kernel
theorem dX9_undo_53 : decode cX9_undo 53 = .ok (.iadd, 1) := by decide +kernel
theorem dX9_undo_54 : decode cX9_undo 54 = .ok (.iaload, 1) := by decide +kernel
theorem dX9_undo_55 : decode cX9_undo 55 = .ok (.iastore, 1) := by decide +kernel
theorem dX9_undo_56 : decode cX9_undo 56 = .ok (.iinc 1 1, 3) := by decide +kernel
theorem dX9_undo_59 : decode cX9_undo 59 = .ok (.goto (-29), 3) := by decide +kernel
theorem dX9_undo_62 : decode cX9_undo 62 = .ok (.aload_n 0, 1) := by decide +kernel
theorem dX9_undo_63 : decode cX9_undo 63 = .ok (.getfield 39, 3) := by decide +kernel
theorem dX9_undo_66 : decode cX9_undo 66 = .ok (.ireturn, 1) := by decide +kernel
theorem dX9_savedStates_0 : decode cX9_savedStates 0 = .ok (.aload_n 0, 1) := by decide +kernel
theorem dX9_savedStates_1 : decode cX9_savedStates 1 = .ok (.iconst 0, 1) := by decide +kernel
theorem dX9_savedStates_2 : decode cX9_savedStates 2 = .ok (.putfield 36, 3) := by decide +kernel
theorem dX9_savedStates_5 : decode cX9_savedStates 5 = .ok (.aload_n 0, 1) := by decide +kernel
theorem dX9_savedStates_6 : decode cX9_savedStates 6 = .ok (.getfield 39, 3) := by decide +kernel
theorem dX9_savedStates_9 : decode cX9_savedStates 9 = .ok (.ireturn, 1) := by decide +kernel
theorem dX9_digest_0 : decode cX9_digest 0 = .ok (.aload_n 0, 1) := by decide +kernel
theorem dX9_digest_1 : decode cX9_digest 1 = .ok (.iconst 0, 1) := by decide +kernel
theorem dX9_digest_2 : decode cX9_digest 2 = .ok (.putfield 36, 3) := by decide +kernel
theorem dX9_digest_5 : decode cX9_digest 5 = .ok (.ldc2_w 135, 3) := by decide +kernel
theorem dX9_digest_8 : decode cX9_digest 8 = .ok (.lstore_n 1, 1) := by decide +kernel
theorem dX9_digest_9 : decode cX9_digest 9 = .ok (.ldc2_w 137, 3) := by decide +kernel
theorem dX9_digest_12 : decode cX9_digest 12 = .ok (.lload_n 1, 1) := by decide +kernel
theorem dX9_digest_13 : decode cX9_digest 13 = .ok (.lmul, 1) := by decide +kernel
theorem dX9_digest_14 : decode cX9_digest 14 = .ok (.aload_n 0, 1) := by decide +kernel
theorem dX9_digest_15 : decode cX9_digest 15 = .ok (.getfield 7, 3) := by decide +kernel
theorem dX9_digest_18 : decode cX9_digest 18 = .ok (.iconst 2, 1) := by decide +kernel
theorem dX9_digest_19 : decode cX9_digest 19 = .ok (.iaload, 1) := by decide +kernel
theorem dX9_digest_20 : decode cX9_digest 20 = .ok (.i2l, 1) := by decide +kernel
theorem dX9_digest_21 : decode cX9_digest 21 = .ok (.ladd, 1) := by decide +kernel
theorem dX9_digest_22 : decode cX9_digest 22 = .ok (.lstore_n 1, 1) := by decide +kernel
theorem dX9_digest_23 : decode cX9_digest 23 = .ok (.iconst 0, 1) := by decide +kernel
theorem dX9_digest_24 : decode cX9_digest 24 = .ok (.istore_n 3, 1) := by decide +kernel
theorem dX9_digest_25 : decode cX9_digest 25 = .ok (.iload_n 3, 1) := by decide +kernel
theorem dX9_digest_26 : decode cX9_digest 26 = .ok (.iconst 2, 1) := by decide +kernel
theorem dX9_digest_27 : decode cX9_digest 27 = .ok (.if_icmp .ge 58, 3) := by decide +kernel
theorem dX9_digest_30 : decode cX9_digest 30 = .ok (.ldc2_w 137, 3) := by decide +kernel
theorem dX9_digest_33 : decode cX9_digest 33 = .ok (.lload_n 1, 1) := by decide +kernel
theorem dX9_digest_34 : decode cX9_digest 34 = .ok (.lmul, 1) := by decide +kernel
theorem dX9_digest_35 : decode cX9_digest 35 = .ok (.aload_n 0, 1) := by decide +kernel
theorem dX9_digest_36 : decode cX9_digest 36 = .ok (.getfield 7, 3) := by decide +kernel
theorem dX9_digest_39 : decode cX9_digest 39 = .ok (.iload_n 3, 1) := by decide +kernel
theorem dX9_digest_40 : decode cX9_digest 40 = .ok (.iaload, 1) := by decide +kernel
theorem dX9_digest_41 : decode cX9_digest 41 = .ok (.i2l, 1) := by decide +kernel
theorem dX9_digest_42 : decode cX9_digest 42 = .ok (.ladd, 1) := by decide +kernel
theorem dX9_digest_43 : decode cX9_digest 43 = .ok (.lstore_n 1, 1) := by decide +kernel
theorem dX9_digest_44 : decode cX9_digest 44 = .ok (.iconst 0, 1) := by decide +kernel
theorem dX9_digest_45 : decode cX9_digest 45 = .ok (.istore 4, 2) := by decide +kernel
theorem dX9_digest_47 : decode cX9_digest 47 = .ok (.iload 4, 2) := by decide +kernel
theorem dX9_digest_49 : decode cX9_digest 49 = .ok (.aload_n 0, 1) := by decide +kernel
theorem dX9_digest_50 : decode cX9_digest 50 = .ok (.getfield 7, 3) := by decide +kernel
theorem dX9_digest_53 : decode cX9_digest 53 = .ok (.iload_n 3, 1) := by decide +kernel
theorem dX9_digest_54 : decode cX9_digest 54 = .ok (.iaload, 1) := by decide +kernel
theorem dX9_digest_55 : decode cX9_digest 55 = .ok (.if_icmp .ge 24, 3) := by decide +kernel
theorem dX9_digest_58 : decode cX9_digest 58 = .ok (.ldc2_w 137, 3) := by decide +kernel
theorem dX9_digest_61 : decode cX9_digest 61 = .ok (.lload_n 1, 1) := by decide +kernel
theorem dX9_digest_62 : decode cX9_digest 62 = .ok (.lmul, 1) := by decide +kernel
theorem dX9_digest_63 : decode cX9_digest 63 = .ok (.aload_n 0, 1) := by decide +kernel
theorem dX9_digest_64 : decode cX9_digest 64 = .ok (.iload_n 3, 1) := by decide +kernel
theorem dX9_digest_65 : decode cX9_digest 65 = .ok (.iload 4, 2) := by decide +kernel
theorem dX9_digest_67 : decode cX9_digest 67 = .ok (.invokevirtual 46, 3) := by decide +kernel
theorem dX9_digest_70 : decode cX9_digest 70 = .ok (.i2l, 1) := by decide +kernel
theorem dX9_digest_71 : decode cX9_digest 71 = .ok (.ladd, 1) := by decide +kernel
theorem dX9_digest_72 : decode cX9_digest 72 = .ok (.lstore_n 1, 1) := by decide +kernel
theorem dX9_digest_73 : decode cX9_digest 73 = .ok (.iinc 4 1, 3) := by decide +kernel
theorem dX9_digest_76 : decode cX9_digest 76 = .ok (.goto (-29), 3) := by decide +kernel
theorem dX9_digest_79 : decode cX9_digest 79 = .ok (.iinc 3 1, 3) := by decide +kernel
theorem dX9_digest_82 : decode cX9_digest 82 = .ok (.goto (-57), 3) := by decide +kernel
theorem dX9_digest_85 : decode cX9_digest 85 = .ok (.ldc2_w 137, 3) := by decide +kernel
theorem dX9_digest_88 : decode cX9_digest 88 = .ok (.lload_n 1, 1) := by decide +kernel
theorem dX9_digest_89 : decode cX9_digest 89 = .ok (.lmul, 1) := by decide +kernel
theorem dX9_digest_90 : decode cX9_digest 90 = .ok (.aload_n 0, 1) := by decide +kernel
theorem dX9_digest_91 : decode cX9_digest 91 = .ok (.invokevirtual 112, 3) := by decide +kernel
theorem dX9_digest_94 : decode cX9_digest 94 = .ok (.i2l, 1) := by decide +kernel
theorem dX9_digest_95 : decode cX9_digest 95 = .ok (.ladd, 1) := by decide +kernel
theorem dX9_digest_96 : decode cX9_digest 96 = .ok (.lstore_n 1, 1) := by decide +kernel
theorem dX9_digest_97 : decode cX9_digest 97 = .ok (.aload_n 0, 1) := by decide +kernel
theorem dX9_digest_98 : decode cX9_digest 98 = .ok (.invokevirtual 116, 3) := by decide +kernel
theorem dX9_digest_101 : decode cX9_digest 101 = .ok (.ldc2_w 137, 3) := by decide +kernel
theorem dX9_digest_104 : decode cX9_digest 104 = .ok (.lload_n 1, 1) := by decide +kernel
theorem dX9_digest_105 : decode cX9_digest 105 = .ok (.lmul, 1) := by decide +kernel
theorem dX9_digest_106 : decode cX9_digest 106 = .ok (.aload_n 0, 1) := by decide +kernel
theorem dX9_digest_107 : decode cX9_digest 107 = .ok (.getfield 64, 3) := by decide +kernel
theorem dX9_digest_110 : decode cX9_digest 110 = .ok (.i2l, 1) := by decide +kernel
theorem dX9_digest_111 : decode cX9_digest 111 = .ok (.ladd, 1) := by decide +kernel
theorem dX9_digest_112 : decode cX9_digest 112 = .ok (.lstore_n 1, 1) := by decide +kernel
theorem dX9_digest_113 : decode cX9_digest 113 = .ok (.ldc2_w 137, 3) := by decide +kernel
theorem dX9_digest_116 : decode cX9_digest 116 = .ok (.lload_n 1, 1) := by decide +kernel
theorem dX9_digest_117 : decode cX9_digest 117 = .ok (.lmul, 1) := by decide +kernel
theorem dX9_digest_118 : decode cX9_digest 118 = .ok (.aload_n 0, 1) := by decide +kernel
theorem dX9_digest_119 : decode cX9_digest 119 = .ok (.invokevirtual 123, 3) := by decide +kernel
theorem dX9_digest_122 : decode cX9_digest 122 = .ok (.i2l, 1) := by decide +kernel
theorem dX9_digest_123 : decode cX9_digest 123 = .ok (.ladd, 1) := by decide +kernel
theorem dX9_digest_124 : decode cX9_digest 124 = .ok (.lstore_n 1, 1) := by decide +kernel
theorem dX9_digest_125 : decode cX9_digest 125 = .ok (.ldc2_w 137, 3) := by decide +kernel
theorem dX9_digest_128 : decode cX9_digest 128 = .ok (.lload_n 1, 1) := by decide +kernel
theorem dX9_digest_129 : decode cX9_digest 129 = .ok (.lmul, 1) := by decide +kernel
theorem dX9_digest_130 : decode cX9_digest 130 = .ok (.aload_n 0, 1) := by decide +kernel
theorem dX9_digest_131 : decode cX9_digest 131 = .ok (.invokevirtual 126, 3) := by decide +kernel
theorem dX9_digest_134 : decode cX9_digest 134 = .ok (.i2l, 1) := by decide +kernel
theorem dX9_digest_135 : decode cX9_digest 135 = .ok (.ladd, 1) := by decide +kernel
theorem dX9_digest_136 : decode cX9_digest 136 = .ok (.lstore_n 1, 1) := by decide +kernel
theorem dX9_digest_137 : decode cX9_digest 137 = .ok (.ldc2_w 137, 3) := by decide +kernel
theorem dX9_digest_140 : decode cX9_digest 140 = .ok (.lload_n 1, 1) := by decide +kernel
theorem dX9_digest_141 : decode cX9_digest 141 = .ok (.lmul, 1) := by decide +kernel
theorem dX9_digest_142 : decode cX9_digest 142 = .ok (.aload_n 0, 1) := by decide +kernel
theorem dX9_digest_143 : decode cX9_digest 143 = .ok (.getfield 73, 3) := by decide +kernel
theorem dX9_digest_146 : decode cX9_digest 146 = .ok (.i2l, 1) := by decide +kernel
theorem dX9_digest_147 : decode cX9_digest 147 = .ok (.ladd, 1) := by decide +kernel
theorem dX9_digest_148 : decode cX9_digest 148 = .ok (.lstore_n 1, 1) := by decide +kernel
theorem dX9_digest_149 : decode cX9_digest 149 = .ok (.ldc2_w 137, 3) := by decide +kernel
theorem dX9_digest_152 : decode cX9_digest 152 = .ok (.lload_n 1, 1) := by decide +kernel
theorem dX9_digest_153 : decode cX9_digest 153 = .ok (.lmul, 1) := by decide +kernel
theorem dX9_digest_154 : decode cX9_digest 154 = .ok (.aload_n 0, 1) := by decide +kernel
theorem dX9_digest_155 : decode cX9_digest 155 = .ok (.getfield 76, 3) := by decide +kernel
theorem dX9_digest_158 : decode cX9_digest 158 = .ok (.i2l, 1) := by decide +kernel
theorem dX9_digest_159 : decode cX9_digest 159 = .ok (.ladd, 1) := by decide +kernel
theorem dX9_digest_160 : decode cX9_digest 160 = .ok (.lstore_n 1, 1) := by decide +kernel
theorem dX9_digest_161 : decode cX9_digest 161 = .ok (.ldc2_w 137, 3) := by decide +kernel
theorem dX9_digest_164 : decode cX9_digest 164 = .ok (.lload_n 1, 1) := by decide +kernel
theorem dX9_digest_165 : decode cX9_digest 165 = .ok (.lmul, 1) := by decide +kernel
theorem dX9_digest_166 : decode cX9_digest 166 = .ok (.aload_n 0, 1) := by decide +kernel
theorem dX9_digest_167 : decode cX9_digest 167 = .ok (.getfield 79, 3) := by decide +kernel
theorem dX9_digest_170 : decode cX9_digest 170 = .ok (.i2l, 1) := by decide +kernel
theorem dX9_digest_171 : decode cX9_digest 171 = .ok (.ladd, 1) := by decide +kernel
theorem dX9_digest_172 : decode cX9_digest 172 = .ok (.lstore_n 1, 1) := by decide +kernel
theorem dX9_digest_173 : decode cX9_digest 173 = .ok (.ldc2_w 137, 3) := by decide +kernel
theorem dX9_digest_176 : decode cX9_digest 176 = .ok (.lload_n 1, 1) := by decide +kernel
theorem dX9_digest_177 : decode cX9_digest 177 = .ok (.lmul, 1) := by decide +kernel
theorem dX9_digest_178 : decode cX9_digest 178 = .ok (.aload_n 0, 1) := by decide +kernel
theorem dX9_digest_179 : decode cX9_digest 179 = .ok (.iconst 0, 1) := by decide +kernel
theorem dX9_digest_180 : decode cX9_digest 180 = .ok (.invokevirtual 119, 3) := by decide +kernel
theorem dX9_digest_183 : decode cX9_digest 183 = .ok (.i2l, 1) := by decide +kernel
theorem dX9_digest_184 : decode cX9_digest 184 = .ok (.ladd, 1) := by decide +kernel
theorem dX9_digest_185 : decode cX9_digest 185 = .ok (.lstore_n 1, 1) := by decide +kernel
theorem dX9_digest_186 : decode cX9_digest 186 = .ok (.aload_n 0, 1) := by decide +kernel
theorem dX9_digest_187 : decode cX9_digest 187 = .ok (.getfield 64, 3) := by decide +kernel
theorem dX9_digest_190 : decode cX9_digest 190 = .ok (.iconst 1, 1) := by decide +kernel
theorem dX9_digest_191 : decode cX9_digest 191 = .ok (.isub, 1) := by decide +kernel
theorem dX9_digest_192 : decode cX9_digest 192 = .ok (.istore_n 3, 1) := by decide +kernel
theorem dX9_digest_193 : decode cX9_digest 193 = .ok (.iload_n 3, 1) := by decide +kernel
theorem dX9_digest_194 : decode cX9_digest 194 = .ok (.ifCond .lt 23, 3) := by decide +kernel
theorem dX9_digest_197 : decode cX9_digest 197 = .ok (.ldc2_w 137, 3) := by decide +kernel
theorem dX9_digest_200 : decode cX9_digest 200 = .ok (.lload_n 1, 1) := by decide +kernel
theorem dX9_digest_201 : decode cX9_digest 201 = .ok (.lmul, 1) := by decide +kernel
theorem dX9_digest_202 : decode cX9_digest 202 = .ok (.aload_n 0, 1) := by decide +kernel
theorem dX9_digest_203 : decode cX9_digest 203 = .ok (.getfield 33, 3) := by decide +kernel
theorem dX9_digest_206 : decode cX9_digest 206 = .ok (.iload_n 3, 1) := by decide +kernel
theorem dX9_digest_207 : decode cX9_digest 207 = .ok (.iaload, 1) := by decide +kernel
theorem dX9_digest_208 : decode cX9_digest 208 = .ok (.i2l, 1) := by decide +kernel
theorem dX9_digest_209 : decode cX9_digest 209 = .ok (.ladd, 1) := by decide +kernel
theorem dX9_digest_210 : decode cX9_digest 210 = .ok (.lstore_n 1, 1) := by decide +kernel
theorem dX9_digest_211 : decode cX9_digest 211 = .ok (.iinc 3 (-1), 3) := by decide +kernel
theorem dX9_digest_214 : decode cX9_digest 214 = .ok (.goto (-21), 3) := by decide +kernel
theorem dX9_digest_217 : decode cX9_digest 217 = .ok (.ldc2_w 137, 3) := by decide +kernel
theorem dX9_digest_220 : decode cX9_digest 220 = .ok (.lload_n 1, 1) := by decide +kernel
theorem dX9_digest_221 : decode cX9_digest 221 = .ok (.lmul, 1) := by decide +kernel
theorem dX9_digest_222 : decode cX9_digest 222 = .ok (.aload_n 0, 1) := by decide +kernel
theorem dX9_digest_223 : decode cX9_digest 223 = .ok (.iconst 0, 1) := by decide +kernel
theorem dX9_digest_224 : decode cX9_digest 224 = .ok (.invokevirtual 132, 3) := by decide +kernel
theorem dX9_digest_227 : decode cX9_digest 227 = .ok (.i2l, 1) := by decide +kernel
theorem dX9_digest_228 : decode cX9_digest 228 = .ok (.ladd, 1) := by decide +kernel
theorem dX9_digest_229 : decode cX9_digest 229 = .ok (.lstore_n 1, 1) := by decide +kernel
theorem dX9_digest_230 : decode cX9_digest 230 = .ok (.ldc2_w 137, 3) := by decide +kernel
theorem dX9_digest_233 : decode cX9_digest 233 = .ok (.lload_n 1, 1) := by decide +kernel
theorem dX9_digest_234 : decode cX9_digest 234 = .ok (.lmul, 1) := by decide +kernel
theorem dX9_digest_235 : decode cX9_digest 235 = .ok (.aload_n 0, 1) := by decide +kernel
theorem dX9_digest_236 : decode cX9_digest 236 = .ok (.iconst 1, 1) := by decide +kernel
theorem dX9_digest_237 : decode cX9_digest 237 = .ok (.invokevirtual 132, 3) := by decide +kernel
theorem dX9_digest_240 : decode cX9_digest 240 = .ok (.i2l, 1) := by decide +kernel
theorem dX9_digest_241 : decode cX9_digest 241 = .ok (.ladd, 1) := by decide +kernel
theorem dX9_digest_242 : decode cX9_digest 242 = .ok (.lstore_n 1, 1) := by decide +kernel
theorem dX9_digest_243 : decode cX9_digest 243 = .ok (.aload_n 0, 1) := by decide +kernel
theorem dX9_digest_244 : decode cX9_digest 244 = .ok (.iconst 0, 1) := by decide +kernel
theorem dX9_digest_245 : decode cX9_digest 245 = .ok (.invokevirtual 60, 3) := by decide +kernel
theorem dX9_digest_248 : decode cX9_digest 248 = .ok (.iconst 0, 1) := by decide +kernel
theorem dX9_digest_249 : decode cX9_digest 249 = .ok (.istore_n 3, 1) := by decide +kernel
theorem dX9_digest_250 : decode cX9_digest 250 = .ok (.iload_n 3, 1) := by decide +kernel
theorem dX9_digest_251 : decode cX9_digest 251 = .ok (.aload_n 0, 1) := by decide +kernel
theorem dX9_digest_252 : decode cX9_digest 252 = .ok (.getfield 7, 3) := by decide +kernel
theorem dX9_digest_255 : decode cX9_digest 255 = .ok (.iconst 0, 1) := by decide +kernel
theorem dX9_digest_256 : decode cX9_digest 256 = .ok (.iaload, 1) := by decide +kernel
theorem dX9_digest_257 : decode cX9_digest 257 = .ok (.if_icmp .gt 44, 3) := by decide +kernel
theorem dX9_digest_260 : decode cX9_digest 260 = .ok (.iconst 0, 1) := by decide +kernel
theorem dX9_digest_261 : decode cX9_digest 261 = .ok (.istore 4, 2) := by decide +kernel
theorem dX9_digest_263 : decode cX9_digest 263 = .ok (.iload 4, 2) := by decide +kernel
theorem dX9_digest_265 : decode cX9_digest 265 = .ok (.aload_n 0, 1) := by decide +kernel
theorem dX9_digest_266 : decode cX9_digest 266 = .ok (.getfield 7, 3) := by decide +kernel
theorem dX9_digest_269 : decode cX9_digest 269 = .ok (.iconst 1, 1) := by decide +kernel
theorem dX9_digest_270 : decode cX9_digest 270 = .ok (.iaload, 1) := by decide +kernel
theorem dX9_digest_271 : decode cX9_digest 271 = .ok (.if_icmp .gt 24, 3) := by decide +kernel
theorem dX9_digest_274 : decode cX9_digest 274 = .ok (.ldc2_w 137, 3) := by decide +kernel
theorem dX9_digest_277 : decode cX9_digest 277 = .ok (.lload_n 1, 1) := by decide +kernel
theorem dX9_digest_278 : decode cX9_digest 278 = .ok (.lmul, 1) := by decide +kernel
theorem dX9_digest_279 : decode cX9_digest 279 = .ok (.aload_n 0, 1) := by decide +kernel
theorem dX9_digest_280 : decode cX9_digest 280 = .ok (.iload_n 3, 1) := by decide +kernel
theorem dX9_digest_281 : decode cX9_digest 281 = .ok (.iload 4, 2) := by decide +kernel
theorem dX9_digest_283 : decode cX9_digest 283 = .ok (.invokevirtual 50, 3) := by decide +kernel
theorem dX9_digest_286 : decode cX9_digest 286 = .ok (.i2l, 1) := by decide +kernel
theorem dX9_digest_287 : decode cX9_digest 287 = .ok (.ladd, 1) := by decide +kernel
theorem dX9_digest_288 : decode cX9_digest 288 = .ok (.lstore_n 1, 1) := by decide +kernel
theorem dX9_digest_289 : decode cX9_digest 289 = .ok (.iinc 4 1, 3) := by decide +kernel
theorem dX9_digest_292 : decode cX9_digest 292 = .ok (.goto (-29), 3) := by decide +kernel
theorem dX9_digest_295 : decode cX9_digest 295 = .ok (.iinc 3 1, 3) := by decide +kernel
theorem dX9_digest_298 : decode cX9_digest 298 = .ok (.goto (-48), 3) := by decide +kernel
theorem dX9_digest_301 : decode cX9_digest 301 = .ok (.lload_n 1, 1) := by decide +kernel
theorem dX9_digest_302 : decode cX9_digest 302 = .ok (.lreturn, 1) := by decide +kernel
theorem dL_load_0 : decode cL_load 0 = .ok (.aload_n 1, 1) := by decide +kernel
theorem dL_load_1 : decode cL_load 1 = .ok (.iconst 0, 1) := by decide +kernel
theorem dL_load_2 : decode cL_load 2 = .ok (.aload_n 0, 1) := by decide +kernel
theorem dL_load_3 : decode cL_load 3 = .ok (.invokevirtual 7, 3) := by decide +kernel
theorem dL_load_6 : decode cL_load 6 = .ok (.i2l, 1) := by decide +kernel
theorem dL_load_7 : decode cL_load 7 = .ok (.lastore, 1) := by decide +kernel
theorem dL_load_8 : decode cL_load 8 = .ok (.goto 6, 3) := by decide +kernel
theorem dL_load_11 : decode cL_load 11 = .ok (.astore_n 2, 1) := by decide +kernel
theorem dL_load_12 : decode cL_load 12 = .ok (.iconst 1, 1) := by decide +kernel
theorem dL_load_13 : decode cL_load 13 = .ok (.ireturn, 1) := by decide +kernel
theorem dL_load_14 : decode cL_load 14 = .ok (.iconst 0, 1) := by decide +kernel
theorem dL_load_15 : decode cL_load 15 = .ok (.ireturn, 1) := by decide +kernel
theorem dL_insert_0 : decode cL_insert 0 = .ok (.aload 4, 2) := by decide +kernel
theorem dL_insert_2 : decode cL_insert 2 = .ok (.iconst 0, 1) := by decide +kernel
theorem dL_insert_3 : decode cL_insert 3 = .ok (.aload_n 0, 1) := by decide +kernel
theorem dL_insert_4 : decode cL_insert 4 = .ok (.iload_n 1, 1) := by decide +kernel
theorem dL_insert_5 : decode cL_insert 5 = .ok (.iload_n 2, 1) := by decide +kernel
theorem dL_insert_6 : decode cL_insert 6 = .ok (.iload_n 3, 1) := by decide +kernel
theorem dL_insert_7 : decode cL_insert 7 = .ok (.invokevirtual 15, 3) := by decide +kernel
theorem dL_insert_10 : decode cL_insert 10 = .ok (.i2l, 1) := by decide +kernel
theorem dL_insert_11 : decode cL_insert 11 = .ok (.lastore, 1) := by decide +kernel
theorem dL_insert_12 : decode cL_insert 12 = .ok (.goto 15, 3) := by decide +kernel
theorem dL_insert_15 : decode cL_insert 15 = .ok (.astore 5, 2) := by decide +kernel
theorem dL_insert_17 : decode cL_insert 17 = .ok (.iconst 1, 1) := by decide +kernel
theorem dL_insert_18 : decode cL_insert 18 = .ok (.ireturn, 1) := by decide +kernel
theorem dL_insert_19 : decode cL_insert 19 = .ok (.astore 5, 2) := by decide +kernel
theorem dL_insert_21 : decode cL_insert 21 = .ok (.iconst 2, 1) := by decide +kernel
theorem dL_insert_22 : decode cL_insert 22 = .ok (.ireturn, 1) := by decide +kernel
theorem dL_insert_23 : decode cL_insert 23 = .ok (.astore 5, 2) := by decide +kernel
theorem dL_insert_25 : decode cL_insert 25 = .ok (.iconst 3, 1) := by decide +kernel
theorem dL_insert_26 : decode cL_insert 26 = .ok (.ireturn, 1) := by decide +kernel
theorem dL_insert_27 : decode cL_insert 27 = .ok (.iconst 0, 1) := by decide +kernel
theorem dL_insert_28 : decode cL_insert 28 = .ok (.ireturn, 1) := by decide +kernel
theorem dL_remove_0 : decode cL_remove 0 = .ok (.aload_n 3, 1) := by decide +kernel
theorem dL_remove_1 : decode cL_remove 1 = .ok (.iconst 0, 1) := by decide +kernel
theorem dL_remove_2 : decode cL_remove 2 = .ok (.aload_n 0, 1) := by decide +kernel
theorem dL_remove_3 : decode cL_remove 3 = .ok (.iload_n 1, 1) := by decide +kernel
theorem dL_remove_4 : decode cL_remove 4 = .ok (.iload_n 2, 1) := by decide +kernel
theorem dL_remove_5 : decode cL_remove 5 = .ok (.invokevirtual 23, 3) := by decide +kernel
theorem dL_remove_8 : decode cL_remove 8 = .ok (.i2l, 1) := by decide +kernel
theorem dL_remove_9 : decode cL_remove 9 = .ok (.lastore, 1) := by decide +kernel
theorem dL_remove_10 : decode cL_remove 10 = .ok (.goto 7, 3) := by decide +kernel
theorem dL_remove_13 : decode cL_remove 13 = .ok (.astore 4, 2) := by decide +kernel
theorem dL_remove_15 : decode cL_remove 15 = .ok (.iconst 1, 1) := by decide +kernel
theorem dL_remove_16 : decode cL_remove 16 = .ok (.ireturn, 1) := by decide +kernel
theorem dL_remove_17 : decode cL_remove 17 = .ok (.iconst 0, 1) := by decide +kernel
theorem dL_remove_18 : decode cL_remove 18 = .ok (.ireturn, 1) := by decide +kernel
theorem dL_replace_0 : decode cL_replace 0 = .ok (.aload 4, 2) := by decide +kernel
theorem dL_replace_2 : decode cL_replace 2 = .ok (.iconst 0, 1) := by decide +kernel
theorem dL_replace_3 : decode cL_replace 3 = .ok (.aload_n 0, 1) := by decide +kernel
theorem dL_replace_4 : decode cL_replace 4 = .ok (.iload_n 1, 1) := by decide +kernel
theorem dL_replace_5 : decode cL_replace 5 = .ok (.iload_n 2, 1) := by decide +kernel
theorem dL_replace_6 : decode cL_replace 6 = .ok (.iload_n 3, 1) := by decide +kernel
theorem dL_replace_7 : decode cL_replace 7 = .ok (.invokevirtual 27, 3) := by decide +kernel
theorem dL_replace_10 : decode cL_replace 10 = .ok (.i2l, 1) := by decide +kernel
theorem dL_replace_11 : decode cL_replace 11 = .ok (.lastore, 1) := by decide +kernel
theorem dL_replace_12 : decode cL_replace 12 = .ok (.goto 11, 3) := by decide +kernel
theorem dL_replace_15 : decode cL_replace 15 = .ok (.astore 5, 2) := by decide +kernel
theorem dL_replace_17 : decode cL_replace 17 = .ok (.iconst 1, 1) := by decide +kernel
theorem dL_replace_18 : decode cL_replace 18 = .ok (.ireturn, 1) := by decide +kernel
theorem dL_replace_19 : decode cL_replace 19 = .ok (.astore 5, 2) := by decide +kernel
theorem dL_replace_21 : decode cL_replace 21 = .ok (.iconst 2, 1) := by decide +kernel
theorem dL_replace_22 : decode cL_replace 22 = .ok (.ireturn, 1) := by decide +kernel
theorem dL_replace_23 : decode cL_replace 23 = .ok (.iconst 0, 1) := by decide +kernel
theorem dL_replace_24 : decode cL_replace 24 = .ok (.ireturn, 1) := by decide +kernel
theorem dL_setAlphabet_0 : decode cL_setAlphabet 0 = .ok (.aload_n 2, 1) := by decide +kernel
theorem dL_setAlphabet_1 : decode cL_setAlphabet 1 = .ok (.iconst 0, 1) := by decide +kernel
theorem dL_setAlphabet_2 : decode cL_setAlphabet 2 = .ok (.aload_n 0, 1) := by decide +kernel
theorem dL_setAlphabet_3 : decode cL_setAlphabet 3 = .ok (.iload_n 1, 1) := by decide +kernel
theorem dL_setAlphabet_4 : decode cL_setAlphabet 4 = .ok (.invokevirtual 30, 3) := by decide +kernel
theorem dL_setAlphabet_7 : decode cL_setAlphabet 7 = .ok (.i2l, 1) := by decide +kernel
theorem dL_setAlphabet_8 : decode cL_setAlphabet 8 = .ok (.lastore, 1) := by decide +kernel
theorem dL_setAlphabet_9 : decode cL_setAlphabet 9 = .ok (.goto 9, 3) := by decide +kernel
theorem dL_setAlphabet_12 : decode cL_setAlphabet 12 = .ok (.astore_n 3, 1) := by decide +kernel
theorem dL_setAlphabet_13 : decode cL_setAlphabet 13 = .ok (.iconst 1, 1) := by decide +kernel
theorem dL_setAlphabet_14 : decode cL_setAlphabet 14 = .ok (.ireturn, 1) := by decide +kernel
theorem dL_setAlphabet_15 : decode cL_setAlphabet 15 = .ok (.astore_n 3, 1) := by decide +kernel
theorem dL_setAlphabet_16 : decode cL_setAlphabet 16 = .ok (.iconst 2, 1) := by decide +kernel
theorem dL_setAlphabet_17 : decode cL_setAlphabet 17 = .ok (.ireturn, 1) := by decide +kernel
theorem dL_setAlphabet_18 : decode cL_setAlphabet 18 = .ok (.iconst 0, 1) := by decide +kernel
theorem dL_setAlphabet_19 : decode cL_setAlphabet 19 = .ok (.ireturn, 1) := by decide +kernel
theorem dL_length_0 : decode cL_length 0 = .ok (.aload_n 2, 1) := by decide +kernel
theorem dL_length_1 : decode cL_length 1 = .ok (.iconst 0, 1) := by decide +kernel
theorem dL_length_2 : decode cL_length 2 = .ok (.aload_n 0, 1) := by decide +kernel
theorem dL_length_3 : decode cL_length 3 = .ok (.iload_n 1, 1) := by decide +kernel
theorem dL_length_4 : decode cL_length 4 = .ok (.invokevirtual 34, 3) := by decide +kernel
theorem dL_length_7 : decode cL_length 7 = .ok (.i2l, 1) := by decide +kernel
theorem dL_length_8 : decode cL_length 8 = .ok (.lastore, 1) := by decide +kernel
theorem dL_length_9 : decode cL_length 9 = .ok (.goto 6, 3) := by decide +kernel
theorem dL_length_12 : decode cL_length 12 = .ok (.astore_n 3, 1) := by decide +kernel
theorem dL_length_13 : decode cL_length 13 = .ok (.iconst 1, 1) := by decide +kernel
theorem dL_length_14 : decode cL_length 14 = .ok (.ireturn, 1) := by decide +kernel
theorem dL_length_15 : decode cL_length 15 = .ok (.iconst 0, 1) := by decide +kernel
theorem dL_length_16 : decode cL_length 16 = .ok (.ireturn, 1) := by decide +kernel
theorem dL_letter_0 : decode cL_letter 0 = .ok (.aload_n 3, 1) := by decide +kernel
theorem dL_letter_1 : decode cL_letter 1 = .ok (.iconst 0, 1) := by decide +kernel
theorem dL_letter_2 : decode cL_letter 2 = .ok (.aload_n 0, 1) := by decide +kernel
theorem dL_letter_3 : decode cL_letter 3 = .ok (.iload_n 1, 1) := by decide +kernel
theorem dL_letter_4 : decode cL_letter 4 = .ok (.iload_n 2, 1) := by decide +kernel
theorem dL_letter_5 : decode cL_letter 5 = .ok (.invokevirtual 37, 3) := by decide +kernel
theorem dL_letter_8 : decode cL_letter 8 = .ok (.i2l, 1) := by decide +kernel
theorem dL_letter_9 : decode cL_letter 9 = .ok (.lastore, 1) := by decide +kernel
theorem dL_letter_10 : decode cL_letter 10 = .ok (.goto 7, 3) := by decide +kernel
theorem dL_letter_13 : decode cL_letter 13 = .ok (.astore 4, 2) := by decide +kernel
theorem dL_letter_15 : decode cL_letter 15 = .ok (.iconst 1, 1) := by decide +kernel
theorem dL_letter_16 : decode cL_letter 16 = .ok (.ireturn, 1) := by decide +kernel
theorem dL_letter_17 : decode cL_letter 17 = .ok (.iconst 0, 1) := by decide +kernel
theorem dL_letter_18 : decode cL_letter 18 = .ok (.ireturn, 1) := by decide +kernel
theorem dL_prefix_0 : decode cL_prefix 0 = .ok (.aload_n 3, 1) := by decide +kernel
theorem dL_prefix_1 : decode cL_prefix 1 = .ok (.iconst 0, 1) := by decide +kernel
theorem dL_prefix_2 : decode cL_prefix 2 = .ok (.aload_n 0, 1) := by decide +kernel
theorem dL_prefix_3 : decode cL_prefix 3 = .ok (.iload_n 1, 1) := by decide +kernel
theorem dL_prefix_4 : decode cL_prefix 4 = .ok (.iload_n 2, 1) := by decide +kernel
theorem dL_prefix_5 : decode cL_prefix 5 = .ok (.invokevirtual 40, 3) := by decide +kernel
theorem dL_prefix_8 : decode cL_prefix 8 = .ok (.i2l, 1) := by decide +kernel
theorem dL_prefix_9 : decode cL_prefix 9 = .ok (.lastore, 1) := by decide +kernel
theorem dL_prefix_10 : decode cL_prefix 10 = .ok (.goto 7, 3) := by decide +kernel
theorem dL_prefix_13 : decode cL_prefix 13 = .ok (.astore 4, 2) := by decide +kernel
theorem dL_prefix_15 : decode cL_prefix 15 = .ok (.iconst 1, 1) := by decide +kernel
theorem dL_prefix_16 : decode cL_prefix 16 = .ok (.ireturn, 1) := by decide +kernel
theorem dL_prefix_17 : decode cL_prefix 17 = .ok (.iconst 0, 1) := by decide +kernel
theorem dL_prefix_18 : decode cL_prefix 18 = .ok (.ireturn, 1) := by decide +kernel
theorem dL_step_0 : decode cL_step 0 = .ok (.aload_n 2, 1) := by decide +kernel
theorem dL_step_1 : decode cL_step 1 = .ok (.iconst 0, 1) := by decide +kernel
theorem dL_step_2 : decode cL_step 2 = .ok (.aload_n 0, 1) := by decide +kernel
theorem dL_step_3 : decode cL_step 3 = .ok (.iload_n 1, 1) := by decide +kernel
theorem dL_step_4 : decode cL_step 4 = .ok (.invokevirtual 43, 3) := by decide +kernel
theorem dL_step_7 : decode cL_step 7 = .ok (.i2l, 1) := by decide +kernel
theorem dL_step_8 : decode cL_step 8 = .ok (.lastore, 1) := by decide +kernel
theorem dL_step_9 : decode cL_step 9 = .ok (.goto 6, 3) := by decide +kernel
theorem dL_step_12 : decode cL_step 12 = .ok (.astore_n 3, 1) := by decide +kernel
theorem dL_step_13 : decode cL_step 13 = .ok (.iconst 1, 1) := by decide +kernel
theorem dL_step_14 : decode cL_step 14 = .ok (.ireturn, 1) := by decide +kernel
theorem dL_step_15 : decode cL_step 15 = .ok (.iconst 0, 1) := by decide +kernel
theorem dL_step_16 : decode cL_step 16 = .ok (.ireturn, 1) := by decide +kernel
theorem dL_count_0 : decode cL_count 0 = .ok (.aload_n 2, 1) := by decide +kernel
theorem dL_count_1 : decode cL_count 1 = .ok (.iconst 0, 1) := by decide +kernel
theorem dL_count_2 : decode cL_count 2 = .ok (.aload_n 0, 1) := by decide +kernel
theorem dL_count_3 : decode cL_count 3 = .ok (.iload_n 1, 1) := by decide +kernel
theorem dL_count_4 : decode cL_count 4 = .ok (.invokevirtual 46, 3) := by decide +kernel
theorem dL_count_7 : decode cL_count 7 = .ok (.i2l, 1) := by decide +kernel
theorem dL_count_8 : decode cL_count 8 = .ok (.lastore, 1) := by decide +kernel
theorem dL_count_9 : decode cL_count 9 = .ok (.goto 6, 3) := by decide +kernel
theorem dL_count_12 : decode cL_count 12 = .ok (.astore_n 3, 1) := by decide +kernel
theorem dL_count_13 : decode cL_count 13 = .ok (.iconst 1, 1) := by decide +kernel
theorem dL_count_14 : decode cL_count 14 = .ok (.ireturn, 1) := by decide +kernel
theorem dL_count_15 : decode cL_count 15 = .ok (.iconst 0, 1) := by decide +kernel
theorem dL_count_16 : decode cL_count 16 = .ok (.ireturn, 1) := by decide +kernel
theorem dL_within_0 : decode cL_within 0 = .ok (.aload_n 2, 1) := by decide +kernel
theorem dL_within_1 : decode cL_within 1 = .ok (.iconst 0, 1) := by decide +kernel
theorem dL_within_2 : decode cL_within 2 = .ok (.aload_n 0, 1) := by decide +kernel
theorem dL_within_3 : decode cL_within 3 = .ok (.iload_n 1, 1) := by decide +kernel
theorem dL_within_4 : decode cL_within 4 = .ok (.invokevirtual 49, 3) := by decide +kernel
theorem dL_within_7 : decode cL_within 7 = .ok (.i2l, 1) := by decide +kernel
theorem dL_within_8 : decode cL_within 8 = .ok (.lastore, 1) := by decide +kernel
theorem dL_within_9 : decode cL_within 9 = .ok (.goto 6, 3) := by decide +kernel
theorem dL_within_12 : decode cL_within 12 = .ok (.astore_n 3, 1) := by decide +kernel
theorem dL_within_13 : decode cL_within 13 = .ok (.iconst 1, 1) := by decide +kernel
theorem dL_within_14 : decode cL_within 14 = .ok (.ireturn, 1) := by decide +kernel
theorem dL_within_15 : decode cL_within 15 = .ok (.iconst 0, 1) := by decide +kernel
theorem dL_within_16 : decode cL_within 16 = .ok (.ireturn, 1) := by decide +kernel
theorem dL_band_0 : decode cL_band 0 = .ok (.aload_n 2, 1) := by decide +kernel
theorem dL_band_1 : decode cL_band 1 = .ok (.iconst 0, 1) := by decide +kernel
theorem dL_band_2 : decode cL_band 2 = .ok (.aload_n 0, 1) := by decide +kernel
theorem dL_band_3 : decode cL_band 3 = .ok (.iload_n 1, 1) := by decide +kernel
theorem dL_band_4 : decode cL_band 4 = .ok (.invokevirtual 52, 3) := by decide +kernel
theorem dL_band_7 : decode cL_band 7 = .ok (.i2l, 1) := by decide +kernel
theorem dL_band_8 : decode cL_band 8 = .ok (.lastore, 1) := by decide +kernel
theorem dL_band_9 : decode cL_band 9 = .ok (.goto 6, 3) := by decide +kernel
theorem dL_band_12 : decode cL_band 12 = .ok (.astore_n 3, 1) := by decide +kernel
theorem dL_band_13 : decode cL_band 13 = .ok (.iconst 1, 1) := by decide +kernel
theorem dL_band_14 : decode cL_band 14 = .ok (.ireturn, 1) := by decide +kernel
theorem dL_band_15 : decode cL_band 15 = .ok (.iconst 0, 1) := by decide +kernel
theorem dL_band_16 : decode cL_band 16 = .ok (.ireturn, 1) := by decide +kernel
theorem dL_setBlock_0 : decode cL_setBlock 0 = .ok (.aload_n 2, 1) := by decide +kernel
theorem dL_setBlock_1 : decode cL_setBlock 1 = .ok (.iconst 0, 1) := by decide +kernel
theorem dL_setBlock_2 : decode cL_setBlock 2 = .ok (.aload_n 0, 1) := by decide +kernel
theorem dL_setBlock_3 : decode cL_setBlock 3 = .ok (.iload_n 1, 1) := by decide +kernel
theorem dL_setBlock_4 : decode cL_setBlock 4 = .ok (.invokevirtual 55, 3) := by decide +kernel
theorem dL_setBlock_7 : decode cL_setBlock 7 = .ok (.i2l, 1) := by decide +kernel
theorem dL_setBlock_8 : decode cL_setBlock 8 = .ok (.lastore, 1) := by decide +kernel
theorem dL_setBlock_9 : decode cL_setBlock 9 = .ok (.goto 6, 3) := by decide +kernel
theorem dL_setBlock_12 : decode cL_setBlock 12 = .ok (.astore_n 3, 1) := by decide +kernel
theorem dL_setBlock_13 : decode cL_setBlock 13 = .ok (.iconst 1, 1) := by decide +kernel
theorem dL_setBlock_14 : decode cL_setBlock 14 = .ok (.ireturn, 1) := by decide +kernel
theorem dL_setBlock_15 : decode cL_setBlock 15 = .ok (.iconst 0, 1) := by decide +kernel
theorem dL_setBlock_16 : decode cL_setBlock 16 = .ok (.ireturn, 1) := by decide +kernel
theorem dL_across_0 : decode cL_across 0 = .ok (.aload_n 3, 1) := by decide +kernel
theorem dL_across_1 : decode cL_across 1 = .ok (.iconst 0, 1) := by decide +kernel
theorem dL_across_2 : decode cL_across 2 = .ok (.aload_n 0, 1) := by decide +kernel
theorem dL_across_3 : decode cL_across 3 = .ok (.iload_n 1, 1) := by decide +kernel
theorem dL_across_4 : decode cL_across 4 = .ok (.iload_n 2, 1) := by decide +kernel
theorem dL_across_5 : decode cL_across 5 = .ok (.invokevirtual 58, 3) := by decide +kernel
theorem dL_across_8 : decode cL_across 8 = .ok (.i2l, 1) := by decide +kernel
theorem dL_across_9 : decode cL_across 9 = .ok (.lastore, 1) := by decide +kernel
theorem dL_across_10 : decode cL_across 10 = .ok (.goto 7, 3) := by decide +kernel
theorem dL_across_13 : decode cL_across 13 = .ok (.astore 4, 2) := by decide +kernel
theorem dL_across_15 : decode cL_across 15 = .ok (.iconst 1, 1) := by decide +kernel
theorem dL_across_16 : decode cL_across 16 = .ok (.ireturn, 1) := by decide +kernel
theorem dL_across_17 : decode cL_across 17 = .ok (.iconst 0, 1) := by decide +kernel
theorem dL_across_18 : decode cL_across 18 = .ok (.ireturn, 1) := by decide +kernel
theorem dL_ifReplaced_0 : decode cL_ifReplaced 0 = .ok (.aload 4, 2) := by decide +kernel
theorem dL_ifReplaced_2 : decode cL_ifReplaced 2 = .ok (.iconst 0, 1) := by decide +kernel
theorem dL_ifReplaced_3 : decode cL_ifReplaced 3 = .ok (.aload_n 0, 1) := by decide +kernel
theorem dL_ifReplaced_4 : decode cL_ifReplaced 4 = .ok (.iload_n 1, 1) := by decide +kernel
theorem dL_ifReplaced_5 : decode cL_ifReplaced 5 = .ok (.iload_n 2, 1) := by decide +kernel
theorem dL_ifReplaced_6 : decode cL_ifReplaced 6 = .ok (.iload_n 3, 1) := by decide +kernel
theorem dL_ifReplaced_7 : decode cL_ifReplaced 7 = .ok (.invokevirtual 61, 3) := by decide +kernel
theorem dL_ifReplaced_10 : decode cL_ifReplaced 10 = .ok (.i2l, 1) := by decide +kernel
theorem dL_ifReplaced_11 : decode cL_ifReplaced 11 = .ok (.lastore, 1) := by decide +kernel
theorem dL_ifReplaced_12 : decode cL_ifReplaced 12 = .ok (.goto 11, 3) := by decide +kernel
theorem dL_ifReplaced_15 : decode cL_ifReplaced 15 = .ok (.astore 5, 2) := by decide +kernel
theorem dL_ifReplaced_17 : decode cL_ifReplaced 17 = .ok (.iconst 1, 1) := by decide +kernel
theorem dL_ifReplaced_18 : decode cL_ifReplaced 18 = .ok (.ireturn, 1) := by decide +kernel
theorem dL_ifReplaced_19 : decode cL_ifReplaced 19 = .ok (.astore 5, 2) := by decide +kernel
theorem dL_ifReplaced_21 : decode cL_ifReplaced 21 = .ok (.iconst 2, 1) := by decide +kernel
theorem dL_ifReplaced_22 : decode cL_ifReplaced 22 = .ok (.ireturn, 1) := by decide +kernel
theorem dL_ifReplaced_23 : decode cL_ifReplaced 23 = .ok (.iconst 0, 1) := by decide +kernel
theorem dL_ifReplaced_24 : decode cL_ifReplaced 24 = .ok (.ireturn, 1) := by decide +kernel
theorem dL_bestReplacement_0 : decode cL_bestReplacement 0 = .ok (.aload_n 2, 1) := by decide +kernel
theorem dL_bestReplacement_1 : decode cL_bestReplacement 1 = .ok (.iconst 0, 1) := by decide +kernel
theorem dL_bestReplacement_2 : decode cL_bestReplacement 2 = .ok (.aload_n 0, 1) := by decide +kernel
theorem dL_bestReplacement_3 : decode cL_bestReplacement 3 = .ok (.iload_n 1, 1) := by decide +kernel
theorem dL_bestReplacement_4 : decode cL_bestReplacement 4 = .ok (.invokevirtual 64, 3) := by decide +kernel
theorem dL_bestReplacement_7 : decode cL_bestReplacement 7 = .ok (.i2l, 1) := by decide +kernel
theorem dL_bestReplacement_8 : decode cL_bestReplacement 8 = .ok (.lastore, 1) := by decide +kernel
theorem dL_bestReplacement_9 : decode cL_bestReplacement 9 = .ok (.goto 6, 3) := by decide +kernel
theorem dL_bestReplacement_12 : decode cL_bestReplacement 12 = .ok (.astore_n 3, 1) := by decide +kernel
theorem dL_bestReplacement_13 : decode cL_bestReplacement 13 = .ok (.iconst 1, 1) := by decide +kernel
theorem dL_bestReplacement_14 : decode cL_bestReplacement 14 = .ok (.ireturn, 1) := by decide +kernel
theorem dL_bestReplacement_15 : decode cL_bestReplacement 15 = .ok (.iconst 0, 1) := by decide +kernel
theorem dL_bestReplacement_16 : decode cL_bestReplacement 16 = .ok (.ireturn, 1) := by decide +kernel
theorem dL_append_0 : decode cL_append 0 = .ok (.aload_n 2, 1) := by decide +kernel
theorem dL_append_1 : decode cL_append 1 = .ok (.iconst 0, 1) := by decide +kernel
theorem dL_append_2 : decode cL_append 2 = .ok (.aload_n 0, 1) := by decide +kernel
theorem dL_append_3 : decode cL_append 3 = .ok (.iload_n 1, 1) := by decide +kernel
theorem dL_append_4 : decode cL_append 4 = .ok (.invokevirtual 67, 3) := by decide +kernel
theorem dL_append_7 : decode cL_append 7 = .ok (.i2l, 1) := by decide +kernel
theorem dL_append_8 : decode cL_append 8 = .ok (.lastore, 1) := by decide +kernel
theorem dL_append_9 : decode cL_append 9 = .ok (.goto 9, 3) := by decide +kernel
theorem dL_append_12 : decode cL_append 12 = .ok (.astore_n 3, 1) := by decide +kernel
theorem dL_append_13 : decode cL_append 13 = .ok (.iconst 1, 1) := by decide +kernel
theorem dL_append_14 : decode cL_append 14 = .ok (.ireturn, 1) := by decide +kernel
theorem dL_append_15 : decode cL_append 15 = .ok (.astore_n 3, 1) := by decide +kernel
theorem dL_append_16 : decode cL_append 16 = .ok (.iconst 2, 1) := by decide +kernel
theorem dL_append_17 : decode cL_append 17 = .ok (.ireturn, 1) := by decide +kernel
theorem dL_append_18 : decode cL_append 18 = .ok (.iconst 0, 1) := by decide +kernel
theorem dL_append_19 : decode cL_append 19 = .ok (.ireturn, 1) := by decide +kernel
theorem dL_undo_0 : decode cL_undo 0 = .ok (.aload_n 1, 1) := by decide +kernel
theorem dL_undo_1 : decode cL_undo 1 = .ok (.iconst 0, 1) := by decide +kernel
theorem dL_undo_2 : decode cL_undo 2 = .ok (.aload_n 0, 1) := by decide +kernel
theorem dL_undo_3 : decode cL_undo 3 = .ok (.invokevirtual 70, 3) := by decide +kernel
theorem dL_undo_6 : decode cL_undo 6 = .ok (.i2l, 1) := by decide +kernel
theorem dL_undo_7 : decode cL_undo 7 = .ok (.lastore, 1) := by decide +kernel
theorem dL_undo_8 : decode cL_undo 8 = .ok (.goto 6, 3) := by decide +kernel
theorem dL_undo_11 : decode cL_undo 11 = .ok (.astore_n 2, 1) := by decide +kernel
theorem dL_undo_12 : decode cL_undo 12 = .ok (.iconst 1, 1) := by decide +kernel
theorem dL_undo_13 : decode cL_undo 13 = .ok (.ireturn, 1) := by decide +kernel
theorem dL_undo_14 : decode cL_undo 14 = .ok (.iconst 0, 1) := by decide +kernel
theorem dL_undo_15 : decode cL_undo 15 = .ok (.ireturn, 1) := by decide +kernel
theorem dL_law_0 : decode cL_law 0 = .ok (.new 8, 3) := by decide +kernel
theorem dL_law_3 : decode cL_law 3 = .ok (.dup, 1) := by decide +kernel
theorem dL_law_4 : decode cL_law 4 = .ok (.invokespecial 73, 3) := by decide +kernel
theorem dL_law_7 : decode cL_law 7 = .ok (.astore_n 1, 1) := by decide +kernel
theorem dL_law_8 : decode cL_law 8 = .ok (.new 74, 3) := by decide +kernel
theorem dL_law_11 : decode cL_law 11 = .ok (.dup, 1) := by decide +kernel
theorem dL_law_12 : decode cL_law 12 = .ok (.invokespecial 76, 3) := by decide +kernel
theorem dL_law_15 : decode cL_law 15 = .ok (.astore_n 2, 1) := by decide +kernel
theorem dL_law_16 : decode cL_law 16 = .ok (.iconst 1, 1) := by decide +kernel
theorem dL_law_17 : decode cL_law 17 = .ok (.newarray .long, 2) := by decide +kernel
theorem dL_law_19 : decode cL_law 19 = .ok (.astore_n 3, 1) := by decide +kernel
theorem dL_law_20 : decode cL_law 20 = .ok (.iconst 0, 1) := by decide +kernel
theorem dL_law_21 : decode cL_law 21 = .ok (.istore 4, 2) := by decide +kernel
theorem dL_law_23 : decode cL_law 23 = .ok (.iload 4, 2) := by decide +kernel
theorem dL_law_25 : decode cL_law 25 = .ok (.aload_n 0, 1) := by decide +kernel
theorem dL_law_26 : decode cL_law 26 = .ok (.arraylength, 1) := by decide +kernel
theorem dL_law_27 : decode cL_law 27 = .ok (.iconst 4, 1) := by decide +kernel
theorem dL_law_28 : decode cL_law 28 = .ok (.isub, 1) := by decide +kernel
theorem dL_law_29 : decode cL_law 29 = .ok (.if_icmp .gt 1489, 3) := by decide +kernel
theorem dL_law_32 : decode cL_law 32 = .ok (.aload_n 0, 1) := by decide +kernel
theorem dL_law_33 : decode cL_law 33 = .ok (.iload 4, 2) := by decide +kernel
theorem dL_law_35 : decode cL_law 35 = .ok (.iaload, 1) := by decide +kernel
theorem dL_law_36 : decode cL_law 36 = .ok (.bipush 63, 2) := by decide +kernel
theorem dL_law_38 : decode cL_law 38 = .ok (.iand, 1) := by decide +kernel
theorem dL_law_39 : decode cL_law 39 = .ok (.tableswitch 1473 0 32 #[145, 189, 269, 337, 417, 430, 486, 542, 610, 623, 691, 704, 760, 816, 872, 928, 969, 1025, 1038, 1051, 1064, 1077, 1145, 1158, 1171, 1251, 1307, 1320, 1376, 1389, 1402, 1446, 1459], 145) := by decide +kernel
theorem dL_law_184 : decode cL_law 184 = .ok (.aload_n 1, 1) := by decide +kernel
theorem dL_law_185 : decode cL_law 185 = .ok (.aload_n 3, 1) := by decide +kernel
theorem dL_law_186 : decode cL_law 186 = .ok (.invokestatic 77, 3) := by decide +kernel
theorem dL_law_189 : decode cL_law 189 = .ok (.istore 5, 2) := by decide +kernel
theorem dL_law_191 : decode cL_law 191 = .ok (.aload_n 2, 1) := by decide +kernel
theorem dL_law_192 : decode cL_law 192 = .ok (.invokevirtual 82, 3) := by decide +kernel
theorem dL_law_195 : decode cL_law 195 = .ok (.istore 6, 2) := by decide +kernel
theorem dL_law_197 : decode cL_law 197 = .ok (.aload_n 2, 1) := by decide +kernel
theorem dL_law_198 : decode cL_law 198 = .ok (.invokevirtual 83, 3) := by decide +kernel
theorem dL_law_201 : decode cL_law 201 = .ok (.iload 5, 2) := by decide +kernel
theorem dL_law_203 : decode cL_law 203 = .ok (.if_icmp .eq 5, 3) := by decide +kernel
theorem dL_law_206 : decode cL_law 206 = .ok (.iconst 0, 1) := by decide +kernel
theorem dL_law_207 : decode cL_law 207 = .ok (.ireturn, 1) := by decide +kernel
theorem dL_law_208 : decode cL_law 208 = .ok (.iload 5, 2) := by decide +kernel
theorem dL_law_210 : decode cL_law 210 = .ok (.ifCond .ne 15, 3) := by decide +kernel
theorem dL_law_213 : decode cL_law 213 = .ok (.aload_n 3, 1) := by decide +kernel
theorem dL_law_214 : decode cL_law 214 = .ok (.iconst 0, 1) := by decide +kernel
theorem dL_law_215 : decode cL_law 215 = .ok (.laload, 1) := by decide +kernel
theorem dL_law_216 : decode cL_law 216 = .ok (.iload 6, 2) := by decide +kernel
theorem dL_law_218 : decode cL_law 218 = .ok (.i2l, 1) := by decide +kernel
theorem dL_law_219 : decode cL_law 219 = .ok (.lcmp, 1) := by decide +kernel
theorem dL_law_220 : decode cL_law 220 = .ok (.ifCond .eq 5, 3) := by decide +kernel
theorem dL_law_223 : decode cL_law 223 = .ok (.iconst 0, 1) := by decide +kernel
theorem dL_law_224 : decode cL_law 224 = .ok (.ireturn, 1) := by decide +kernel
theorem dL_law_225 : decode cL_law 225 = .ok (.goto 1287, 3) := by decide +kernel
theorem dL_law_228 : decode cL_law 228 = .ok (.aload_n 1, 1) := by decide +kernel
theorem dL_law_229 : decode cL_law 229 = .ok (.aload_n 0, 1) := by decide +kernel
theorem dL_law_230 : decode cL_law 230 = .ok (.iload 4, 2) := by decide +kernel
theorem dL_law_232 : decode cL_law 232 = .ok (.iconst 1, 1) := by decide +kernel
theorem dL_law_233 : decode cL_law 233 = .ok (.iadd, 1) := by decide +kernel
theorem dL_law_234 : decode cL_law 234 = .ok (.iaload, 1) := by decide +kernel
theorem dL_law_235 : decode cL_law 235 = .ok (.aload_n 0, 1) := by decide +kernel
theorem dL_law_236 : decode cL_law 236 = .ok (.iload 4, 2) := by decide +kernel
theorem dL_law_238 : decode cL_law 238 = .ok (.iconst 2, 1) := by decide +kernel
theorem dL_law_239 : decode cL_law 239 = .ok (.iadd, 1) := by decide +kernel
theorem dL_law_240 : decode cL_law 240 = .ok (.iaload, 1) := by decide +kernel
theorem dL_law_241 : decode cL_law 241 = .ok (.aload_n 0, 1) := by decide +kernel
theorem dL_law_242 : decode cL_law 242 = .ok (.iload 4, 2) := by decide +kernel
theorem dL_law_244 : decode cL_law 244 = .ok (.iconst 3, 1) := by decide +kernel
theorem dL_law_245 : decode cL_law 245 = .ok (.iadd, 1) := by decide +kernel
theorem dL_law_246 : decode cL_law 246 = .ok (.iaload, 1) := by decide +kernel
theorem dL_law_247 : decode cL_law 247 = .ok (.aload_n 3, 1) := by decide +kernel
theorem dL_law_248 : decode cL_law 248 = .ok (.invokestatic 86, 3) := by decide +kernel
theorem dL_law_251 : decode cL_law 251 = .ok (.istore 5, 2) := by decide +kernel
theorem dL_law_253 : decode cL_law 253 = .ok (.aload_n 2, 1) := by decide +kernel
theorem dL_law_254 : decode cL_law 254 = .ok (.aload_n 0, 1) := by decide +kernel
theorem dL_law_255 : decode cL_law 255 = .ok (.iload 4, 2) := by decide +kernel
theorem dL_law_257 : decode cL_law 257 = .ok (.iconst 1, 1) := by decide +kernel
theorem dL_law_258 : decode cL_law 258 = .ok (.iadd, 1) := by decide +kernel
theorem dL_law_259 : decode cL_law 259 = .ok (.iaload, 1) := by decide +kernel
theorem dL_law_260 : decode cL_law 260 = .ok (.aload_n 0, 1) := by decide +kernel
theorem dL_law_261 : decode cL_law 261 = .ok (.iload 4, 2) := by decide +kernel
theorem dL_law_263 : decode cL_law 263 = .ok (.iconst 2, 1) := by decide +kernel
theorem dL_law_264 : decode cL_law 264 = .ok (.iadd, 1) := by decide +kernel
theorem dL_law_265 : decode cL_law 265 = .ok (.iaload, 1) := by decide +kernel
theorem dL_law_266 : decode cL_law 266 = .ok (.aload_n 0, 1) := by decide +kernel
theorem dL_law_267 : decode cL_law 267 = .ok (.iload 4, 2) := by decide +kernel
theorem dL_law_269 : decode cL_law 269 = .ok (.iconst 3, 1) := by decide +kernel
theorem dL_law_270 : decode cL_law 270 = .ok (.iadd, 1) := by decide +kernel
theorem dL_law_271 : decode cL_law 271 = .ok (.iaload, 1) := by decide +kernel
theorem dL_law_272 : decode cL_law 272 = .ok (.invokevirtual 89, 3) := by decide +kernel
theorem dL_law_275 : decode cL_law 275 = .ok (.istore 6, 2) := by decide +kernel
theorem dL_law_277 : decode cL_law 277 = .ok (.aload_n 2, 1) := by decide +kernel
theorem dL_law_278 : decode cL_law 278 = .ok (.invokevirtual 83, 3) := by decide +kernel
theorem dL_law_281 : decode cL_law 281 = .ok (.iload 5, 2) := by decide +kernel
theorem dL_law_283 : decode cL_law 283 = .ok (.if_icmp .eq 5, 3) := by decide +kernel
theorem dL_law_286 : decode cL_law 286 = .ok (.iconst 0, 1) := by decide +kernel
theorem dL_law_287 : decode cL_law 287 = .ok (.ireturn, 1) := by decide +kernel
theorem dL_law_288 : decode cL_law 288 = .ok (.iload 5, 2) := by decide +kernel
theorem dL_law_290 : decode cL_law 290 = .ok (.ifCond .ne 15, 3) := by decide +kernel
theorem dL_law_293 : decode cL_law 293 = .ok (.aload_n 3, 1) := by decide +kernel
theorem dL_law_294 : decode cL_law 294 = .ok (.iconst 0, 1) := by decide +kernel
theorem dL_law_295 : decode cL_law 295 = .ok (.laload, 1) := by decide +kernel
theorem dL_law_296 : decode cL_law 296 = .ok (.iload 6, 2) := by decide +kernel
theorem dL_law_298 : decode cL_law 298 = .ok (.i2l, 1) := by decide +kernel
theorem dL_law_299 : decode cL_law 299 = .ok (.lcmp, 1) := by decide +kernel
theorem dL_law_300 : decode cL_law 300 = .ok (.ifCond .eq 5, 3) := by decide +kernel
theorem dL_law_303 : decode cL_law 303 = .ok (.iconst 0, 1) := by decide +kernel
theorem dL_law_304 : decode cL_law 304 = .ok (.ireturn, 1) := by decide +kernel
theorem dL_law_305 : decode cL_law 305 = .ok (.goto 1207, 3) := by decide +kernel
theorem dL_law_308 : decode cL_law 308 = .ok (.aload_n 1, 1) := by decide +kernel
theorem dL_law_309 : decode cL_law 309 = .ok (.aload_n 0, 1) := by decide +kernel
theorem dL_law_310 : decode cL_law 310 = .ok (.iload 4, 2) := by decide +kernel
theorem dL_law_312 : decode cL_law 312 = .ok (.iconst 1, 1) := by decide +kernel
theorem dL_law_313 : decode cL_law 313 = .ok (.iadd, 1) := by decide +kernel
theorem dL_law_314 : decode cL_law 314 = .ok (.iaload, 1) := by decide +kernel
theorem dL_law_315 : decode cL_law 315 = .ok (.aload_n 0, 1) := by decide +kernel
theorem dL_law_316 : decode cL_law 316 = .ok (.iload 4, 2) := by decide +kernel
theorem dL_law_318 : decode cL_law 318 = .ok (.iconst 2, 1) := by decide +kernel
theorem dL_law_319 : decode cL_law 319 = .ok (.iadd, 1) := by decide +kernel
theorem dL_law_320 : decode cL_law 320 = .ok (.iaload, 1) := by decide +kernel
theorem dL_law_321 : decode cL_law 321 = .ok (.aload_n 3, 1) := by decide +kernel
theorem dL_law_322 : decode cL_law 322 = .ok (.invokestatic 90, 3) := by decide +kernel
theorem dL_law_325 : decode cL_law 325 = .ok (.istore 5, 2) := by decide +kernel
theorem dL_law_327 : decode cL_law 327 = .ok (.aload_n 2, 1) := by decide +kernel
theorem dL_law_328 : decode cL_law 328 = .ok (.aload_n 0, 1) := by decide +kernel
theorem dL_law_329 : decode cL_law 329 = .ok (.iload 4, 2) := by decide +kernel
theorem dL_law_331 : decode cL_law 331 = .ok (.iconst 1, 1) := by decide +kernel
theorem dL_law_332 : decode cL_law 332 = .ok (.iadd, 1) := by decide +kernel
theorem dL_law_333 : decode cL_law 333 = .ok (.iaload, 1) := by decide +kernel
theorem dL_law_334 : decode cL_law 334 = .ok (.aload_n 0, 1) := by decide +kernel
theorem dL_law_335 : decode cL_law 335 = .ok (.iload 4, 2) := by decide +kernel
theorem dL_law_337 : decode cL_law 337 = .ok (.iconst 2, 1) := by decide +kernel
theorem dL_law_338 : decode cL_law 338 = .ok (.iadd, 1) := by decide +kernel
theorem dL_law_339 : decode cL_law 339 = .ok (.iaload, 1) := by decide +kernel
theorem dL_law_340 : decode cL_law 340 = .ok (.invokevirtual 93, 3) := by decide +kernel
theorem dL_law_343 : decode cL_law 343 = .ok (.istore 6, 2) := by decide +kernel
theorem dL_law_345 : decode cL_law 345 = .ok (.aload_n 2, 1) := by decide +kernel
theorem dL_law_346 : decode cL_law 346 = .ok (.invokevirtual 83, 3) := by decide +kernel
theorem dL_law_349 : decode cL_law 349 = .ok (.iload 5, 2) := by decide +kernel
theorem dL_law_351 : decode cL_law 351 = .ok (.if_icmp .eq 5, 3) := by decide +kernel
theorem dL_law_354 : decode cL_law 354 = .ok (.iconst 0, 1) := by decide +kernel
theorem dL_law_355 : decode cL_law 355 = .ok (.ireturn, 1) := by decide +kernel
theorem dL_law_356 : decode cL_law 356 = .ok (.iload 5, 2) := by decide +kernel
theorem dL_law_358 : decode cL_law 358 = .ok (.ifCond .ne 15, 3) := by decide +kernel
theorem dL_law_361 : decode cL_law 361 = .ok (.aload_n 3, 1) := by decide +kernel
theorem dL_law_362 : decode cL_law 362 = .ok (.iconst 0, 1) := by decide +kernel
theorem dL_law_363 : decode cL_law 363 = .ok (.laload, 1) := by decide +kernel
theorem dL_law_364 : decode cL_law 364 = .ok (.iload 6, 2) := by decide +kernel
theorem dL_law_366 : decode cL_law 366 = .ok (.i2l, 1) := by decide +kernel
theorem dL_law_367 : decode cL_law 367 = .ok (.lcmp, 1) := by decide +kernel
theorem dL_law_368 : decode cL_law 368 = .ok (.ifCond .eq 5, 3) := by decide +kernel
theorem dL_law_371 : decode cL_law 371 = .ok (.iconst 0, 1) := by decide +kernel
theorem dL_law_372 : decode cL_law 372 = .ok (.ireturn, 1) := by decide +kernel
theorem dL_law_373 : decode cL_law 373 = .ok (.goto 1139, 3) := by decide +kernel
theorem dL_law_376 : decode cL_law 376 = .ok (.aload_n 1, 1) := by decide +kernel
theorem dL_law_377 : decode cL_law 377 = .ok (.aload_n 0, 1) := by decide +kernel
theorem dL_law_378 : decode cL_law 378 = .ok (.iload 4, 2) := by decide +kernel
theorem dL_law_380 : decode cL_law 380 = .ok (.iconst 1, 1) := by decide +kernel
theorem dL_law_381 : decode cL_law 381 = .ok (.iadd, 1) := by decide +kernel
theorem dL_law_382 : decode cL_law 382 = .ok (.iaload, 1) := by decide +kernel
theorem dL_law_383 : decode cL_law 383 = .ok (.aload_n 0, 1) := by decide +kernel
theorem dL_law_384 : decode cL_law 384 = .ok (.iload 4, 2) := by decide +kernel
theorem dL_law_386 : decode cL_law 386 = .ok (.iconst 2, 1) := by decide +kernel
theorem dL_law_387 : decode cL_law 387 = .ok (.iadd, 1) := by decide +kernel
theorem dL_law_388 : decode cL_law 388 = .ok (.iaload, 1) := by decide +kernel
theorem dL_law_389 : decode cL_law 389 = .ok (.aload_n 0, 1) := by decide +kernel
theorem dL_law_390 : decode cL_law 390 = .ok (.iload 4, 2) := by decide +kernel
theorem dL_law_392 : decode cL_law 392 = .ok (.iconst 3, 1) := by decide +kernel
theorem dL_law_393 : decode cL_law 393 = .ok (.iadd, 1) := by decide +kernel
theorem dL_law_394 : decode cL_law 394 = .ok (.iaload, 1) := by decide +kernel
theorem dL_law_395 : decode cL_law 395 = .ok (.aload_n 3, 1) := by decide +kernel
theorem dL_law_396 : decode cL_law 396 = .ok (.invokestatic 94, 3) := by decide +kernel
theorem dL_law_399 : decode cL_law 399 = .ok (.istore 5, 2) := by decide +kernel
theorem dL_law_401 : decode cL_law 401 = .ok (.aload_n 2, 1) := by decide +kernel
theorem dL_law_402 : decode cL_law 402 = .ok (.aload_n 0, 1) := by decide +kernel
theorem dL_law_403 : decode cL_law 403 = .ok (.iload 4, 2) := by decide +kernel
theorem dL_law_405 : decode cL_law 405 = .ok (.iconst 1, 1) := by decide +kernel
theorem dL_law_406 : decode cL_law 406 = .ok (.iadd, 1) := by decide +kernel
theorem dL_law_407 : decode cL_law 407 = .ok (.iaload, 1) := by decide +kernel
theorem dL_law_408 : decode cL_law 408 = .ok (.aload_n 0, 1) := by decide +kernel
theorem dL_law_409 : decode cL_law 409 = .ok (.iload 4, 2) := by decide +kernel
theorem dL_law_411 : decode cL_law 411 = .ok (.iconst 2, 1) := by decide +kernel
theorem dL_law_412 : decode cL_law 412 = .ok (.iadd, 1) := by decide +kernel
theorem dL_law_413 : decode cL_law 413 = .ok (.iaload, 1) := by decide +kernel
theorem dL_law_414 : decode cL_law 414 = .ok (.aload_n 0, 1) := by decide +kernel
theorem dL_law_415 : decode cL_law 415 = .ok (.iload 4, 2) := by decide +kernel
theorem dL_law_417 : decode cL_law 417 = .ok (.iconst 3, 1) := by decide +kernel
theorem dL_law_418 : decode cL_law 418 = .ok (.iadd, 1) := by decide +kernel
theorem dL_law_419 : decode cL_law 419 = .ok (.iaload, 1) := by decide +kernel
theorem dL_law_420 : decode cL_law 420 = .ok (.invokevirtual 96, 3) := by decide +kernel
theorem dL_law_423 : decode cL_law 423 = .ok (.istore 6, 2) := by decide +kernel
theorem dL_law_425 : decode cL_law 425 = .ok (.aload_n 2, 1) := by decide +kernel
theorem dL_law_426 : decode cL_law 426 = .ok (.invokevirtual 83, 3) := by decide +kernel
theorem dL_law_429 : decode cL_law 429 = .ok (.iload 5, 2) := by decide +kernel
theorem dL_law_431 : decode cL_law 431 = .ok (.if_icmp .eq 5, 3) := by decide +kernel
theorem dL_law_434 : decode cL_law 434 = .ok (.iconst 0, 1) := by decide +kernel
theorem dL_law_435 : decode cL_law 435 = .ok (.ireturn, 1) := by decide +kernel
theorem dL_law_436 : decode cL_law 436 = .ok (.iload 5, 2) := by decide +kernel
theorem dL_law_438 : decode cL_law 438 = .ok (.ifCond .ne 15, 3) := by decide +kernel
theorem dL_law_441 : decode cL_law 441 = .ok (.aload_n 3, 1) := by decide +kernel
theorem dL_law_442 : decode cL_law 442 = .ok (.iconst 0, 1) := by decide +kernel
theorem dL_law_443 : decode cL_law 443 = .ok (.laload, 1) := by decide +kernel
theorem dL_law_444 : decode cL_law 444 = .ok (.iload 6, 2) := by decide +kernel
theorem dL_law_446 : decode cL_law 446 = .ok (.i2l, 1) := by decide +kernel
theorem dL_law_447 : decode cL_law 447 = .ok (.lcmp, 1) := by decide +kernel
theorem dL_law_448 : decode cL_law 448 = .ok (.ifCond .eq 5, 3) := by decide +kernel
theorem dL_law_451 : decode cL_law 451 = .ok (.iconst 0, 1) := by decide +kernel
theorem dL_law_452 : decode cL_law 452 = .ok (.ireturn, 1) := by decide +kernel
theorem dL_law_453 : decode cL_law 453 = .ok (.goto 1059, 3) := by decide +kernel
theorem dL_law_456 : decode cL_law 456 = .ok (.aload_n 1, 1) := by decide +kernel
theorem dL_law_457 : decode cL_law 457 = .ok (.invokevirtual 97, 3) := by decide +kernel
theorem dL_law_460 : decode cL_law 460 = .ok (.aload_n 2, 1) := by decide +kernel
theorem dL_law_461 : decode cL_law 461 = .ok (.invokevirtual 100, 3) := by decide +kernel
theorem dL_law_464 : decode cL_law 464 = .ok (.if_icmp .eq 1048, 3) := by decide +kernel
theorem dL_law_467 : decode cL_law 467 = .ok (.iconst 0, 1) := by decide +kernel
theorem dL_law_468 : decode cL_law 468 = .ok (.ireturn, 1) := by decide +kernel
theorem dL_law_469 : decode cL_law 469 = .ok (.aload_n 1, 1) := by decide +kernel
theorem dL_law_470 : decode cL_law 470 = .ok (.aload_n 0, 1) := by decide +kernel
theorem dL_law_471 : decode cL_law 471 = .ok (.iload 4, 2) := by decide +kernel
theorem dL_law_473 : decode cL_law 473 = .ok (.iconst 1, 1) := by decide +kernel
theorem dL_law_474 : decode cL_law 474 = .ok (.iadd, 1) := by decide +kernel
theorem dL_law_475 : decode cL_law 475 = .ok (.iaload, 1) := by decide +kernel
theorem dL_law_476 : decode cL_law 476 = .ok (.aload_n 3, 1) := by decide +kernel
theorem dL_law_477 : decode cL_law 477 = .ok (.invokestatic 101, 3) := by decide +kernel
theorem dL_law_480 : decode cL_law 480 = .ok (.istore 5, 2) := by decide +kernel
theorem dL_law_482 : decode cL_law 482 = .ok (.aload_n 2, 1) := by decide +kernel
theorem dL_law_483 : decode cL_law 483 = .ok (.aload_n 0, 1) := by decide +kernel
theorem dL_law_484 : decode cL_law 484 = .ok (.iload 4, 2) := by decide +kernel
theorem dL_law_486 : decode cL_law 486 = .ok (.iconst 1, 1) := by decide +kernel
theorem dL_law_487 : decode cL_law 487 = .ok (.iadd, 1) := by decide +kernel
theorem dL_law_488 : decode cL_law 488 = .ok (.iaload, 1) := by decide +kernel
theorem dL_law_489 : decode cL_law 489 = .ok (.invokevirtual 104, 3) := by decide +kernel
theorem dL_law_492 : decode cL_law 492 = .ok (.istore 6, 2) := by decide +kernel
theorem dL_law_494 : decode cL_law 494 = .ok (.aload_n 2, 1) := by decide +kernel
theorem dL_law_495 : decode cL_law 495 = .ok (.invokevirtual 83, 3) := by decide +kernel
theorem dL_law_498 : decode cL_law 498 = .ok (.iload 5, 2) := by decide +kernel
theorem dL_law_500 : decode cL_law 500 = .ok (.if_icmp .eq 5, 3) := by decide +kernel
theorem dL_law_503 : decode cL_law 503 = .ok (.iconst 0, 1) := by decide +kernel
theorem dL_law_504 : decode cL_law 504 = .ok (.ireturn, 1) := by decide +kernel
theorem dL_law_505 : decode cL_law 505 = .ok (.iload 5, 2) := by decide +kernel
theorem dL_law_507 : decode cL_law 507 = .ok (.ifCond .ne 15, 3) := by decide +kernel
theorem dL_law_510 : decode cL_law 510 = .ok (.aload_n 3, 1) := by decide +kernel
theorem dL_law_511 : decode cL_law 511 = .ok (.iconst 0, 1) := by decide +kernel
theorem dL_law_512 : decode cL_law 512 = .ok (.laload, 1) := by decide +kernel
theorem dL_law_513 : decode cL_law 513 = .ok (.iload 6, 2) := by decide +kernel
theorem dL_law_515 : decode cL_law 515 = .ok (.i2l, 1) := by decide +kernel
theorem dL_law_516 : decode cL_law 516 = .ok (.lcmp, 1) := by decide +kernel
theorem dL_law_517 : decode cL_law 517 = .ok (.ifCond .eq 5, 3) := by decide +kernel
theorem dL_law_520 : decode cL_law 520 = .ok (.iconst 0, 1) := by decide +kernel
theorem dL_law_521 : decode cL_law 521 = .ok (.ireturn, 1) := by decide +kernel
theorem dL_law_522 : decode cL_law 522 = .ok (.goto 990, 3) := by decide +kernel
theorem dL_law_525 : decode cL_law 525 = .ok (.aload_n 1, 1) := by decide +kernel
theorem dL_law_526 : decode cL_law 526 = .ok (.aload_n 0, 1) := by decide +kernel
theorem dL_law_527 : decode cL_law 527 = .ok (.iload 4, 2) := by decide +kernel
theorem dL_law_529 : decode cL_law 529 = .ok (.iconst 1, 1) := by decide +kernel
theorem dL_law_530 : decode cL_law 530 = .ok (.iadd, 1) := by decide +kernel
theorem dL_law_531 : decode cL_law 531 = .ok (.iaload, 1) := by decide +kernel
theorem dL_law_532 : decode cL_law 532 = .ok (.aload_n 3, 1) := by decide +kernel
theorem dL_law_533 : decode cL_law 533 = .ok (.invokestatic 105, 3) := by decide +kernel
theorem dL_law_536 : decode cL_law 536 = .ok (.istore 5, 2) := by decide +kernel
theorem dL_law_538 : decode cL_law 538 = .ok (.aload_n 2, 1) := by decide +kernel
theorem dL_law_539 : decode cL_law 539 = .ok (.aload_n 0, 1) := by decide +kernel
theorem dL_law_540 : decode cL_law 540 = .ok (.iload 4, 2) := by decide +kernel
theorem dL_law_542 : decode cL_law 542 = .ok (.iconst 1, 1) := by decide +kernel
theorem dL_law_543 : decode cL_law 543 = .ok (.iadd, 1) := by decide +kernel
theorem dL_law_544 : decode cL_law 544 = .ok (.iaload, 1) := by decide +kernel
theorem dL_law_545 : decode cL_law 545 = .ok (.invokevirtual 107, 3) := by decide +kernel
theorem dL_law_548 : decode cL_law 548 = .ok (.istore 6, 2) := by decide +kernel
theorem dL_law_550 : decode cL_law 550 = .ok (.aload_n 2, 1) := by decide +kernel
theorem dL_law_551 : decode cL_law 551 = .ok (.invokevirtual 83, 3) := by decide +kernel
theorem dL_law_554 : decode cL_law 554 = .ok (.iload 5, 2) := by decide +kernel
theorem dL_law_556 : decode cL_law 556 = .ok (.if_icmp .eq 5, 3) := by decide +kernel
theorem dL_law_559 : decode cL_law 559 = .ok (.iconst 0, 1) := by decide +kernel
theorem dL_law_560 : decode cL_law 560 = .ok (.ireturn, 1) := by decide +kernel
theorem dL_law_561 : decode cL_law 561 = .ok (.iload 5, 2) := by decide +kernel
theorem dL_law_563 : decode cL_law 563 = .ok (.ifCond .ne 15, 3) := by decide +kernel
theorem dL_law_566 : decode cL_law 566 = .ok (.aload_n 3, 1) := by decide +kernel
theorem dL_law_567 : decode cL_law 567 = .ok (.iconst 0, 1) := by decide +kernel
theorem dL_law_568 : decode cL_law 568 = .ok (.laload, 1) := by decide +kernel
theorem dL_law_569 : decode cL_law 569 = .ok (.iload 6, 2) := by decide +kernel
theorem dL_law_571 : decode cL_law 571 = .ok (.i2l, 1) := by decide +kernel
theorem dL_law_572 : decode cL_law 572 = .ok (.lcmp, 1) := by decide +kernel
theorem dL_law_573 : decode cL_law 573 = .ok (.ifCond .eq 5, 3) := by decide +kernel
theorem dL_law_576 : decode cL_law 576 = .ok (.iconst 0, 1) := by decide +kernel
theorem dL_law_577 : decode cL_law 577 = .ok (.ireturn, 1) := by decide +kernel
theorem dL_law_578 : decode cL_law 578 = .ok (.goto 934, 3) := by decide +kernel
theorem dL_law_581 : decode cL_law 581 = .ok (.aload_n 1, 1) := by decide +kernel
theorem dL_law_582 : decode cL_law 582 = .ok (.aload_n 0, 1) := by decide +kernel
theorem dL_law_583 : decode cL_law 583 = .ok (.iload 4, 2) := by decide +kernel
theorem dL_law_585 : decode cL_law 585 = .ok (.iconst 1, 1) := by decide +kernel
theorem dL_law_586 : decode cL_law 586 = .ok (.iadd, 1) := by decide +kernel
theorem dL_law_587 : decode cL_law 587 = .ok (.iaload, 1) := by decide +kernel
theorem dL_law_588 : decode cL_law 588 = .ok (.aload_n 0, 1) := by decide +kernel
theorem dL_law_589 : decode cL_law 589 = .ok (.iload 4, 2) := by decide +kernel
theorem dL_law_591 : decode cL_law 591 = .ok (.iconst 2, 1) := by decide +kernel
theorem dL_law_592 : decode cL_law 592 = .ok (.iadd, 1) := by decide +kernel
theorem dL_law_593 : decode cL_law 593 = .ok (.iaload, 1) := by decide +kernel
theorem dL_law_594 : decode cL_law 594 = .ok (.aload_n 3, 1) := by decide +kernel
theorem dL_law_595 : decode cL_law 595 = .ok (.invokestatic 108, 3) := by decide +kernel
theorem dL_law_598 : decode cL_law 598 = .ok (.istore 5, 2) := by decide +kernel
theorem dL_law_600 : decode cL_law 600 = .ok (.aload_n 2, 1) := by decide +kernel
theorem dL_law_601 : decode cL_law 601 = .ok (.aload_n 0, 1) := by decide +kernel
theorem dL_law_602 : decode cL_law 602 = .ok (.iload 4, 2) := by decide +kernel
theorem dL_law_604 : decode cL_law 604 = .ok (.iconst 1, 1) := by decide +kernel
theorem dL_law_605 : decode cL_law 605 = .ok (.iadd, 1) := by decide +kernel
theorem dL_law_606 : decode cL_law 606 = .ok (.iaload, 1) := by decide +kernel
theorem dL_law_607 : decode cL_law 607 = .ok (.aload_n 0, 1) := by decide +kernel
theorem dL_law_608 : decode cL_law 608 = .ok (.iload 4, 2) := by decide +kernel
theorem dL_law_610 : decode cL_law 610 = .ok (.iconst 2, 1) := by decide +kernel
theorem dL_law_611 : decode cL_law 611 = .ok (.iadd, 1) := by decide +kernel
theorem dL_law_612 : decode cL_law 612 = .ok (.iaload, 1) := by decide +kernel
theorem dL_law_613 : decode cL_law 613 = .ok (.invokevirtual 110, 3) := by decide +kernel
theorem dL_law_616 : decode cL_law 616 = .ok (.istore 6, 2) := by decide +kernel
theorem dL_law_618 : decode cL_law 618 = .ok (.aload_n 2, 1) := by decide +kernel
theorem dL_law_619 : decode cL_law 619 = .ok (.invokevirtual 83, 3) := by decide +kernel
theorem dL_law_622 : decode cL_law 622 = .ok (.iload 5, 2) := by decide +kernel
theorem dL_law_624 : decode cL_law 624 = .ok (.if_icmp .eq 5, 3) := by decide +kernel
theorem dL_law_627 : decode cL_law 627 = .ok (.iconst 0, 1) := by decide +kernel
theorem dL_law_628 : decode cL_law 628 = .ok (.ireturn, 1) := by decide +kernel
theorem dL_law_629 : decode cL_law 629 = .ok (.iload 5, 2) := by decide +kernel
theorem dL_law_631 : decode cL_law 631 = .ok (.ifCond .ne 15, 3) := by decide +kernel
theorem dL_law_634 : decode cL_law 634 = .ok (.aload_n 3, 1) := by decide +kernel
theorem dL_law_635 : decode cL_law 635 = .ok (.iconst 0, 1) := by decide +kernel
theorem dL_law_636 : decode cL_law 636 = .ok (.laload, 1) := by decide +kernel
theorem dL_law_637 : decode cL_law 637 = .ok (.iload 6, 2) := by decide +kernel
theorem dL_law_639 : decode cL_law 639 = .ok (.i2l, 1) := by decide +kernel
theorem dL_law_640 : decode cL_law 640 = .ok (.lcmp, 1) := by decide +kernel
theorem dL_law_641 : decode cL_law 641 = .ok (.ifCond .eq 5, 3) := by decide +kernel
theorem dL_law_644 : decode cL_law 644 = .ok (.iconst 0, 1) := by decide +kernel
theorem dL_law_645 : decode cL_law 645 = .ok (.ireturn, 1) := by decide +kernel
theorem dL_law_646 : decode cL_law 646 = .ok (.goto 866, 3) := by decide +kernel
theorem dL_law_649 : decode cL_law 649 = .ok (.aload_n 1, 1) := by decide +kernel
theorem dL_law_650 : decode cL_law 650 = .ok (.invokevirtual 111, 3) := by decide +kernel
theorem dL_law_653 : decode cL_law 653 = .ok (.aload_n 2, 1) := by decide +kernel
theorem dL_law_654 : decode cL_law 654 = .ok (.invokevirtual 114, 3) := by decide +kernel
theorem dL_law_657 : decode cL_law 657 = .ok (.if_icmp .eq 855, 3) := by decide +kernel
theorem dL_law_660 : decode cL_law 660 = .ok (.iconst 0, 1) := by decide +kernel
theorem dL_law_661 : decode cL_law 661 = .ok (.ireturn, 1) := by decide +kernel
theorem dL_law_662 : decode cL_law 662 = .ok (.aload_n 1, 1) := by decide +kernel
theorem dL_law_663 : decode cL_law 663 = .ok (.aload_n 0, 1) := by decide +kernel
theorem dL_law_664 : decode cL_law 664 = .ok (.iload 4, 2) := by decide +kernel
theorem dL_law_666 : decode cL_law 666 = .ok (.iconst 1, 1) := by decide +kernel
theorem dL_law_667 : decode cL_law 667 = .ok (.iadd, 1) := by decide +kernel
theorem dL_law_668 : decode cL_law 668 = .ok (.iaload, 1) := by decide +kernel
theorem dL_law_669 : decode cL_law 669 = .ok (.aload_n 0, 1) := by decide +kernel
theorem dL_law_670 : decode cL_law 670 = .ok (.iload 4, 2) := by decide +kernel
theorem dL_law_672 : decode cL_law 672 = .ok (.iconst 2, 1) := by decide +kernel
theorem dL_law_673 : decode cL_law 673 = .ok (.iadd, 1) := by decide +kernel
theorem dL_law_674 : decode cL_law 674 = .ok (.iaload, 1) := by decide +kernel
theorem dL_law_675 : decode cL_law 675 = .ok (.aload_n 3, 1) := by decide +kernel
theorem dL_law_676 : decode cL_law 676 = .ok (.invokestatic 115, 3) := by decide +kernel
theorem dL_law_679 : decode cL_law 679 = .ok (.istore 5, 2) := by decide +kernel
theorem dL_law_681 : decode cL_law 681 = .ok (.aload_n 2, 1) := by decide +kernel
theorem dL_law_682 : decode cL_law 682 = .ok (.aload_n 0, 1) := by decide +kernel
theorem dL_law_683 : decode cL_law 683 = .ok (.iload 4, 2) := by decide +kernel
theorem dL_law_685 : decode cL_law 685 = .ok (.iconst 1, 1) := by decide +kernel
theorem dL_law_686 : decode cL_law 686 = .ok (.iadd, 1) := by decide +kernel
theorem dL_law_687 : decode cL_law 687 = .ok (.iaload, 1) := by decide +kernel
theorem dL_law_688 : decode cL_law 688 = .ok (.aload_n 0, 1) := by decide +kernel
theorem dL_law_689 : decode cL_law 689 = .ok (.iload 4, 2) := by decide +kernel
theorem dL_law_691 : decode cL_law 691 = .ok (.iconst 2, 1) := by decide +kernel
theorem dL_law_692 : decode cL_law 692 = .ok (.iadd, 1) := by decide +kernel
theorem dL_law_693 : decode cL_law 693 = .ok (.iaload, 1) := by decide +kernel
theorem dL_law_694 : decode cL_law 694 = .ok (.invokevirtual 117, 3) := by decide +kernel
theorem dL_law_697 : decode cL_law 697 = .ok (.istore 6, 2) := by decide +kernel
theorem dL_law_699 : decode cL_law 699 = .ok (.aload_n 2, 1) := by decide +kernel
theorem dL_law_700 : decode cL_law 700 = .ok (.invokevirtual 83, 3) := by decide +kernel
theorem dL_law_703 : decode cL_law 703 = .ok (.iload 5, 2) := by decide +kernel
theorem dL_law_705 : decode cL_law 705 = .ok (.if_icmp .eq 5, 3) := by decide +kernel
theorem dL_law_708 : decode cL_law 708 = .ok (.iconst 0, 1) := by decide +kernel
theorem dL_law_709 : decode cL_law 709 = .ok (.ireturn, 1) := by decide +kernel
theorem dL_law_710 : decode cL_law 710 = .ok (.iload 5, 2) := by decide +kernel
theorem dL_law_712 : decode cL_law 712 = .ok (.ifCond .ne 15, 3) := by decide +kernel
theorem dL_law_715 : decode cL_law 715 = .ok (.aload_n 3, 1) := by decide +kernel
theorem dL_law_716 : decode cL_law 716 = .ok (.iconst 0, 1) := by decide +kernel
theorem dL_law_717 : decode cL_law 717 = .ok (.laload, 1) := by decide +kernel
theorem dL_law_718 : decode cL_law 718 = .ok (.iload 6, 2) := by decide +kernel
theorem dL_law_720 : decode cL_law 720 = .ok (.i2l, 1) := by decide +kernel
theorem dL_law_721 : decode cL_law 721 = .ok (.lcmp, 1) := by decide +kernel
theorem dL_law_722 : decode cL_law 722 = .ok (.ifCond .eq 5, 3) := by decide +kernel
theorem dL_law_725 : decode cL_law 725 = .ok (.iconst 0, 1) := by decide +kernel
theorem dL_law_726 : decode cL_law 726 = .ok (.ireturn, 1) := by decide +kernel
theorem dL_law_727 : decode cL_law 727 = .ok (.goto 785, 3) := by decide +kernel
theorem dL_law_730 : decode cL_law 730 = .ok (.aload_n 1, 1) := by decide +kernel
theorem dL_law_731 : decode cL_law 731 = .ok (.invokevirtual 118, 3) := by decide +kernel
theorem dL_law_734 : decode cL_law 734 = .ok (.aload_n 2, 1) := by decide +kernel
theorem dL_law_735 : decode cL_law 735 = .ok (.invokevirtual 121, 3) := by decide +kernel
theorem dL_law_738 : decode cL_law 738 = .ok (.if_icmp .eq 774, 3) := by decide +kernel
theorem dL_law_741 : decode cL_law 741 = .ok (.iconst 0, 1) := by decide +kernel
theorem dL_law_742 : decode cL_law 742 = .ok (.ireturn, 1) := by decide +kernel
theorem dL_law_743 : decode cL_law 743 = .ok (.aload_n 1, 1) := by decide +kernel
theorem dL_law_744 : decode cL_law 744 = .ok (.aload_n 0, 1) := by decide +kernel
theorem dL_law_745 : decode cL_law 745 = .ok (.iload 4, 2) := by decide +kernel
theorem dL_law_747 : decode cL_law 747 = .ok (.iconst 1, 1) := by decide +kernel
theorem dL_law_748 : decode cL_law 748 = .ok (.iadd, 1) := by decide +kernel
theorem dL_law_749 : decode cL_law 749 = .ok (.iaload, 1) := by decide +kernel
theorem dL_law_750 : decode cL_law 750 = .ok (.aload_n 3, 1) := by decide +kernel
theorem dL_law_751 : decode cL_law 751 = .ok (.invokestatic 122, 3) := by decide +kernel
theorem dL_law_754 : decode cL_law 754 = .ok (.istore 5, 2) := by decide +kernel
theorem dL_law_756 : decode cL_law 756 = .ok (.aload_n 2, 1) := by decide +kernel
theorem dL_law_757 : decode cL_law 757 = .ok (.aload_n 0, 1) := by decide +kernel
theorem dL_law_758 : decode cL_law 758 = .ok (.iload 4, 2) := by decide +kernel
theorem dL_law_760 : decode cL_law 760 = .ok (.iconst 1, 1) := by decide +kernel
theorem dL_law_761 : decode cL_law 761 = .ok (.iadd, 1) := by decide +kernel
theorem dL_law_762 : decode cL_law 762 = .ok (.iaload, 1) := by decide +kernel
theorem dL_law_763 : decode cL_law 763 = .ok (.invokevirtual 124, 3) := by decide +kernel
theorem dL_law_766 : decode cL_law 766 = .ok (.istore 6, 2) := by decide +kernel
theorem dL_law_768 : decode cL_law 768 = .ok (.aload_n 2, 1) := by decide +kernel
theorem dL_law_769 : decode cL_law 769 = .ok (.invokevirtual 83, 3) := by decide +kernel
theorem dL_law_772 : decode cL_law 772 = .ok (.iload 5, 2) := by decide +kernel
theorem dL_law_774 : decode cL_law 774 = .ok (.if_icmp .eq 5, 3) := by decide +kernel
theorem dL_law_777 : decode cL_law 777 = .ok (.iconst 0, 1) := by decide +kernel
theorem dL_law_778 : decode cL_law 778 = .ok (.ireturn, 1) := by decide +kernel
theorem dL_law_779 : decode cL_law 779 = .ok (.iload 5, 2) := by decide +kernel
theorem dL_law_781 : decode cL_law 781 = .ok (.ifCond .ne 15, 3) := by decide +kernel
theorem dL_law_784 : decode cL_law 784 = .ok (.aload_n 3, 1) := by decide +kernel
theorem dL_law_785 : decode cL_law 785 = .ok (.iconst 0, 1) := by decide +kernel
theorem dL_law_786 : decode cL_law 786 = .ok (.laload, 1) := by decide +kernel
theorem dL_law_787 : decode cL_law 787 = .ok (.iload 6, 2) := by decide +kernel
theorem dL_law_789 : decode cL_law 789 = .ok (.i2l, 1) := by decide +kernel
theorem dL_law_790 : decode cL_law 790 = .ok (.lcmp, 1) := by decide +kernel
theorem dL_law_791 : decode cL_law 791 = .ok (.ifCond .eq 5, 3) := by decide +kernel
theorem dL_law_794 : decode cL_law 794 = .ok (.iconst 0, 1) := by decide +kernel
theorem dL_law_795 : decode cL_law 795 = .ok (.ireturn, 1) := by decide +kernel
theorem dL_law_796 : decode cL_law 796 = .ok (.goto 716, 3) := by decide +kernel
theorem dL_law_799 : decode cL_law 799 = .ok (.aload_n 1, 1) := by decide +kernel
theorem dL_law_800 : decode cL_law 800 = .ok (.aload_n 0, 1) := by decide +kernel
theorem dL_law_801 : decode cL_law 801 = .ok (.iload 4, 2) := by decide +kernel
theorem dL_law_803 : decode cL_law 803 = .ok (.iconst 1, 1) := by decide +kernel
theorem dL_law_804 : decode cL_law 804 = .ok (.iadd, 1) := by decide +kernel
theorem dL_law_805 : decode cL_law 805 = .ok (.iaload, 1) := by decide +kernel
theorem dL_law_806 : decode cL_law 806 = .ok (.aload_n 3, 1) := by decide +kernel
theorem dL_law_807 : decode cL_law 807 = .ok (.invokestatic 125, 3) := by decide +kernel
theorem dL_law_810 : decode cL_law 810 = .ok (.istore 5, 2) := by decide +kernel
theorem dL_law_812 : decode cL_law 812 = .ok (.aload_n 2, 1) := by decide +kernel
theorem dL_law_813 : decode cL_law 813 = .ok (.aload_n 0, 1) := by decide +kernel
theorem dL_law_814 : decode cL_law 814 = .ok (.iload 4, 2) := by decide +kernel
theorem dL_law_816 : decode cL_law 816 = .ok (.iconst 1, 1) := by decide +kernel
theorem dL_law_817 : decode cL_law 817 = .ok (.iadd, 1) := by decide +kernel
theorem dL_law_818 : decode cL_law 818 = .ok (.iaload, 1) := by decide +kernel
theorem dL_law_819 : decode cL_law 819 = .ok (.invokevirtual 127, 3) := by decide +kernel
theorem dL_law_822 : decode cL_law 822 = .ok (.istore 6, 2) := by decide +kernel
theorem dL_law_824 : decode cL_law 824 = .ok (.aload_n 2, 1) := by decide +kernel
theorem dL_law_825 : decode cL_law 825 = .ok (.invokevirtual 83, 3) := by decide +kernel
theorem dL_law_828 : decode cL_law 828 = .ok (.iload 5, 2) := by decide +kernel
theorem dL_law_830 : decode cL_law 830 = .ok (.if_icmp .eq 5, 3) := by decide +kernel
theorem dL_law_833 : decode cL_law 833 = .ok (.iconst 0, 1) := by decide +kernel
theorem dL_law_834 : decode cL_law 834 = .ok (.ireturn, 1) := by decide +kernel
theorem dL_law_835 : decode cL_law 835 = .ok (.iload 5, 2) := by decide +kernel
theorem dL_law_837 : decode cL_law 837 = .ok (.ifCond .ne 15, 3) := by decide +kernel
theorem dL_law_840 : decode cL_law 840 = .ok (.aload_n 3, 1) := by decide +kernel
theorem dL_law_841 : decode cL_law 841 = .ok (.iconst 0, 1) := by decide +kernel
theorem dL_law_842 : decode cL_law 842 = .ok (.laload, 1) := by decide +kernel
theorem dL_law_843 : decode cL_law 843 = .ok (.iload 6, 2) := by decide +kernel
theorem dL_law_845 : decode cL_law 845 = .ok (.i2l, 1) := by decide +kernel
theorem dL_law_846 : decode cL_law 846 = .ok (.lcmp, 1) := by decide +kernel
theorem dL_law_847 : decode cL_law 847 = .ok (.ifCond .eq 5, 3) := by decide +kernel
theorem dL_law_850 : decode cL_law 850 = .ok (.iconst 0, 1) := by decide +kernel
theorem dL_law_851 : decode cL_law 851 = .ok (.ireturn, 1) := by decide +kernel
theorem dL_law_852 : decode cL_law 852 = .ok (.goto 660, 3) := by decide +kernel
theorem dL_law_855 : decode cL_law 855 = .ok (.aload_n 1, 1) := by decide +kernel
theorem dL_law_856 : decode cL_law 856 = .ok (.aload_n 0, 1) := by decide +kernel
theorem dL_law_857 : decode cL_law 857 = .ok (.iload 4, 2) := by decide +kernel
theorem dL_law_859 : decode cL_law 859 = .ok (.iconst 1, 1) := by decide +kernel
theorem dL_law_860 : decode cL_law 860 = .ok (.iadd, 1) := by decide +kernel
theorem dL_law_861 : decode cL_law 861 = .ok (.iaload, 1) := by decide +kernel
theorem dL_law_862 : decode cL_law 862 = .ok (.aload_n 3, 1) := by decide +kernel
theorem dL_law_863 : decode cL_law 863 = .ok (.invokestatic 128, 3) := by decide +kernel
theorem dL_law_866 : decode cL_law 866 = .ok (.istore 5, 2) := by decide +kernel
theorem dL_law_868 : decode cL_law 868 = .ok (.aload_n 2, 1) := by decide +kernel
theorem dL_law_869 : decode cL_law 869 = .ok (.aload_n 0, 1) := by decide +kernel
theorem dL_law_870 : decode cL_law 870 = .ok (.iload 4, 2) := by decide +kernel
theorem dL_law_872 : decode cL_law 872 = .ok (.iconst 1, 1) := by decide +kernel
theorem dL_law_873 : decode cL_law 873 = .ok (.iadd, 1) := by decide +kernel
theorem dL_law_874 : decode cL_law 874 = .ok (.iaload, 1) := by decide +kernel
theorem dL_law_875 : decode cL_law 875 = .ok (.invokevirtual 130, 3) := by decide +kernel
theorem dL_law_878 : decode cL_law 878 = .ok (.istore 6, 2) := by decide +kernel
theorem dL_law_880 : decode cL_law 880 = .ok (.aload_n 2, 1) := by decide +kernel
theorem dL_law_881 : decode cL_law 881 = .ok (.invokevirtual 83, 3) := by decide +kernel
theorem dL_law_884 : decode cL_law 884 = .ok (.iload 5, 2) := by decide +kernel
theorem dL_law_886 : decode cL_law 886 = .ok (.if_icmp .eq 5, 3) := by decide +kernel
theorem dL_law_889 : decode cL_law 889 = .ok (.iconst 0, 1) := by decide +kernel
theorem dL_law_890 : decode cL_law 890 = .ok (.ireturn, 1) := by decide +kernel
theorem dL_law_891 : decode cL_law 891 = .ok (.iload 5, 2) := by decide +kernel
theorem dL_law_893 : decode cL_law 893 = .ok (.ifCond .ne 15, 3) := by decide +kernel
theorem dL_law_896 : decode cL_law 896 = .ok (.aload_n 3, 1) := by decide +kernel
theorem dL_law_897 : decode cL_law 897 = .ok (.iconst 0, 1) := by decide +kernel
theorem dL_law_898 : decode cL_law 898 = .ok (.laload, 1) := by decide +kernel
theorem dL_law_899 : decode cL_law 899 = .ok (.iload 6, 2) := by decide +kernel
theorem dL_law_901 : decode cL_law 901 = .ok (.i2l, 1) := by decide +kernel
theorem dL_law_902 : decode cL_law 902 = .ok (.lcmp, 1) := by decide +kernel
theorem dL_law_903 : decode cL_law 903 = .ok (.ifCond .eq 5, 3) := by decide +kernel
theorem dL_law_906 : decode cL_law 906 = .ok (.iconst 0, 1) := by decide +kernel
theorem dL_law_907 : decode cL_law 907 = .ok (.ireturn, 1) := by decide +kernel
theorem dL_law_908 : decode cL_law 908 = .ok (.goto 604, 3) := by decide +kernel
theorem dL_law_911 : decode cL_law 911 = .ok (.aload_n 1, 1) := by decide +kernel
theorem dL_law_912 : decode cL_law 912 = .ok (.aload_n 0, 1) := by decide +kernel
theorem dL_law_913 : decode cL_law 913 = .ok (.iload 4, 2) := by decide +kernel
theorem dL_law_915 : decode cL_law 915 = .ok (.iconst 1, 1) := by decide +kernel
theorem dL_law_916 : decode cL_law 916 = .ok (.iadd, 1) := by decide +kernel
theorem dL_law_917 : decode cL_law 917 = .ok (.iaload, 1) := by decide +kernel
theorem dL_law_918 : decode cL_law 918 = .ok (.aload_n 3, 1) := by decide +kernel
theorem dL_law_919 : decode cL_law 919 = .ok (.invokestatic 131, 3) := by decide +kernel
theorem dL_law_922 : decode cL_law 922 = .ok (.istore 5, 2) := by decide +kernel
theorem dL_law_924 : decode cL_law 924 = .ok (.aload_n 2, 1) := by decide +kernel
theorem dL_law_925 : decode cL_law 925 = .ok (.aload_n 0, 1) := by decide +kernel
theorem dL_law_926 : decode cL_law 926 = .ok (.iload 4, 2) := by decide +kernel
theorem dL_law_928 : decode cL_law 928 = .ok (.iconst 1, 1) := by decide +kernel
theorem dL_law_929 : decode cL_law 929 = .ok (.iadd, 1) := by decide +kernel
theorem dL_law_930 : decode cL_law 930 = .ok (.iaload, 1) := by decide +kernel
theorem dL_law_931 : decode cL_law 931 = .ok (.invokevirtual 133, 3) := by decide +kernel
theorem dL_law_934 : decode cL_law 934 = .ok (.istore 6, 2) := by decide +kernel
theorem dL_law_936 : decode cL_law 936 = .ok (.aload_n 2, 1) := by decide +kernel
theorem dL_law_937 : decode cL_law 937 = .ok (.invokevirtual 83, 3) := by decide +kernel
theorem dL_law_940 : decode cL_law 940 = .ok (.iload 5, 2) := by decide +kernel
theorem dL_law_942 : decode cL_law 942 = .ok (.if_icmp .eq 5, 3) := by decide +kernel
theorem dL_law_945 : decode cL_law 945 = .ok (.iconst 0, 1) := by decide +kernel
theorem dL_law_946 : decode cL_law 946 = .ok (.ireturn, 1) := by decide +kernel
theorem dL_law_947 : decode cL_law 947 = .ok (.iload 5, 2) := by decide +kernel
theorem dL_law_949 : decode cL_law 949 = .ok (.ifCond .ne 15, 3) := by decide +kernel
theorem dL_law_952 : decode cL_law 952 = .ok (.aload_n 3, 1) := by decide +kernel
theorem dL_law_953 : decode cL_law 953 = .ok (.iconst 0, 1) := by decide +kernel
theorem dL_law_954 : decode cL_law 954 = .ok (.laload, 1) := by decide +kernel
theorem dL_law_955 : decode cL_law 955 = .ok (.iload 6, 2) := by decide +kernel
theorem dL_law_957 : decode cL_law 957 = .ok (.i2l, 1) := by decide +kernel
theorem dL_law_958 : decode cL_law 958 = .ok (.lcmp, 1) := by decide +kernel
theorem dL_law_959 : decode cL_law 959 = .ok (.ifCond .eq 5, 3) := by decide +kernel
theorem dL_law_962 : decode cL_law 962 = .ok (.iconst 0, 1) := by decide +kernel
theorem dL_law_963 : decode cL_law 963 = .ok (.ireturn, 1) := by decide +kernel
theorem dL_law_964 : decode cL_law 964 = .ok (.goto 548, 3) := by decide +kernel
theorem dL_law_967 : decode cL_law 967 = .ok (.aload_n 1, 1) := by decide +kernel
theorem dL_law_968 : decode cL_law 968 = .ok (.invokevirtual 134, 3) := by decide +kernel
theorem dL_law_971 : decode cL_law 971 = .ok (.dstore 5, 2) := by decide +kernel
theorem dL_law_973 : decode cL_law 973 = .ok (.aload_n 2, 1) := by decide +kernel
theorem dL_law_974 : decode cL_law 974 = .ok (.invokevirtual 138, 3) := by decide +kernel
theorem dL_law_977 : decode cL_law 977 = .ok (.dstore 7, 2) := by decide +kernel
theorem dL_law_979 : decode cL_law 979 = .ok (.dload 5, 2) := by decide +kernel
theorem dL_law_981 : decode cL_law 981 = .ok (.dload 7, 2) := by decide +kernel
theorem dL_law_983 : decode cL_law 983 = .ok (.dcmp .l, 1) := by decide +kernel
theorem dL_law_984 : decode cL_law 984 = .ok (.ifCond .eq 21, 3) := by decide +kernel
theorem dL_law_987 : decode cL_law 987 = .ok (.dload 5, 2) := by decide +kernel
theorem dL_law_989 : decode cL_law 989 = .ok (.dload 5, 2) := by decide +kernel
theorem dL_law_991 : decode cL_law 991 = .ok (.dcmp .l, 1) := by decide +kernel
theorem dL_law_992 : decode cL_law 992 = .ok (.ifCond .eq 11, 3) := by decide +kernel
theorem dL_law_995 : decode cL_law 995 = .ok (.dload 7, 2) := by decide +kernel
theorem dL_law_997 : decode cL_law 997 = .ok (.dload 7, 2) := by decide +kernel
theorem dL_law_999 : decode cL_law 999 = .ok (.dcmp .l, 1) := by decide +kernel
theorem dL_law_1000 : decode cL_law 1000 = .ok (.ifCond .ne 5, 3) := by decide +kernel
theorem dL_law_1003 : decode cL_law 1003 = .ok (.iconst 0, 1) := by decide +kernel
theorem dL_law_1004 : decode cL_law 1004 = .ok (.ireturn, 1) := by decide +kernel
theorem dL_law_1005 : decode cL_law 1005 = .ok (.goto 507, 3) := by decide +kernel
theorem dL_law_1008 : decode cL_law 1008 = .ok (.aload_n 1, 1) := by decide +kernel
theorem dL_law_1009 : decode cL_law 1009 = .ok (.aload_n 0, 1) := by decide +kernel
theorem dL_law_1010 : decode cL_law 1010 = .ok (.iload 4, 2) := by decide +kernel
theorem dL_law_1012 : decode cL_law 1012 = .ok (.iconst 1, 1) := by decide +kernel
theorem dL_law_1013 : decode cL_law 1013 = .ok (.iadd, 1) := by decide +kernel
theorem dL_law_1014 : decode cL_law 1014 = .ok (.iaload, 1) := by decide +kernel
theorem dL_law_1015 : decode cL_law 1015 = .ok (.aload_n 3, 1) := by decide +kernel
theorem dL_law_1016 : decode cL_law 1016 = .ok (.invokestatic 139, 3) := by decide +kernel
theorem dL_law_1019 : decode cL_law 1019 = .ok (.istore 5, 2) := by decide +kernel
theorem dL_law_1021 : decode cL_law 1021 = .ok (.aload_n 2, 1) := by decide +kernel
theorem dL_law_1022 : decode cL_law 1022 = .ok (.aload_n 0, 1) := by decide +kernel
theorem dL_law_1023 : decode cL_law 1023 = .ok (.iload 4, 2) := by decide +kernel
theorem dL_law_1025 : decode cL_law 1025 = .ok (.iconst 1, 1) := by decide +kernel
theorem dL_law_1026 : decode cL_law 1026 = .ok (.iadd, 1) := by decide +kernel
theorem dL_law_1027 : decode cL_law 1027 = .ok (.iaload, 1) := by decide +kernel
theorem dL_law_1028 : decode cL_law 1028 = .ok (.invokevirtual 141, 3) := by decide +kernel
theorem dL_law_1031 : decode cL_law 1031 = .ok (.istore 6, 2) := by decide +kernel
theorem dL_law_1033 : decode cL_law 1033 = .ok (.aload_n 2, 1) := by decide +kernel
theorem dL_law_1034 : decode cL_law 1034 = .ok (.invokevirtual 83, 3) := by decide +kernel
theorem dL_law_1037 : decode cL_law 1037 = .ok (.iload 5, 2) := by decide +kernel
theorem dL_law_1039 : decode cL_law 1039 = .ok (.if_icmp .eq 5, 3) := by decide +kernel
theorem dL_law_1042 : decode cL_law 1042 = .ok (.iconst 0, 1) := by decide +kernel
theorem dL_law_1043 : decode cL_law 1043 = .ok (.ireturn, 1) := by decide +kernel
theorem dL_law_1044 : decode cL_law 1044 = .ok (.iload 5, 2) := by decide +kernel
theorem dL_law_1046 : decode cL_law 1046 = .ok (.ifCond .ne 15, 3) := by decide +kernel
theorem dL_law_1049 : decode cL_law 1049 = .ok (.aload_n 3, 1) := by decide +kernel
theorem dL_law_1050 : decode cL_law 1050 = .ok (.iconst 0, 1) := by decide +kernel
theorem dL_law_1051 : decode cL_law 1051 = .ok (.laload, 1) := by decide +kernel
theorem dL_law_1052 : decode cL_law 1052 = .ok (.iload 6, 2) := by decide +kernel
theorem dL_law_1054 : decode cL_law 1054 = .ok (.i2l, 1) := by decide +kernel
theorem dL_law_1055 : decode cL_law 1055 = .ok (.lcmp, 1) := by decide +kernel
theorem dL_law_1056 : decode cL_law 1056 = .ok (.ifCond .eq 5, 3) := by decide +kernel
theorem dL_law_1059 : decode cL_law 1059 = .ok (.iconst 0, 1) := by decide +kernel
theorem dL_law_1060 : decode cL_law 1060 = .ok (.ireturn, 1) := by decide +kernel
theorem dL_law_1061 : decode cL_law 1061 = .ok (.goto 451, 3) := by decide +kernel
theorem dL_law_1064 : decode cL_law 1064 = .ok (.aload_n 1, 1) := by decide +kernel
theorem dL_law_1065 : decode cL_law 1065 = .ok (.invokevirtual 142, 3) := by decide +kernel
theorem dL_law_1068 : decode cL_law 1068 = .ok (.aload_n 2, 1) := by decide +kernel
theorem dL_law_1069 : decode cL_law 1069 = .ok (.invokevirtual 145, 3) := by decide +kernel
theorem dL_law_1072 : decode cL_law 1072 = .ok (.if_icmp .eq 440, 3) := by decide +kernel
theorem dL_law_1075 : decode cL_law 1075 = .ok (.iconst 0, 1) := by decide +kernel
theorem dL_law_1076 : decode cL_law 1076 = .ok (.ireturn, 1) := by decide +kernel
theorem dL_law_1077 : decode cL_law 1077 = .ok (.aload_n 1, 1) := by decide +kernel
theorem dL_law_1078 : decode cL_law 1078 = .ok (.invokevirtual 146, 3) := by decide +kernel
theorem dL_law_1081 : decode cL_law 1081 = .ok (.aload_n 2, 1) := by decide +kernel
theorem dL_law_1082 : decode cL_law 1082 = .ok (.invokevirtual 149, 3) := by decide +kernel
theorem dL_law_1085 : decode cL_law 1085 = .ok (.if_icmp .eq 427, 3) := by decide +kernel
theorem dL_law_1088 : decode cL_law 1088 = .ok (.iconst 0, 1) := by decide +kernel
theorem dL_law_1089 : decode cL_law 1089 = .ok (.ireturn, 1) := by decide +kernel
theorem dL_law_1090 : decode cL_law 1090 = .ok (.aload_n 1, 1) := by decide +kernel
theorem dL_law_1091 : decode cL_law 1091 = .ok (.invokevirtual 150, 3) := by decide +kernel
theorem dL_law_1094 : decode cL_law 1094 = .ok (.aload_n 2, 1) := by decide +kernel
theorem dL_law_1095 : decode cL_law 1095 = .ok (.invokevirtual 153, 3) := by decide +kernel
theorem dL_law_1098 : decode cL_law 1098 = .ok (.if_icmp .eq 414, 3) := by decide +kernel
theorem dL_law_1101 : decode cL_law 1101 = .ok (.iconst 0, 1) := by decide +kernel
theorem dL_law_1102 : decode cL_law 1102 = .ok (.ireturn, 1) := by decide +kernel
theorem dL_law_1103 : decode cL_law 1103 = .ok (.aload_n 1, 1) := by decide +kernel
theorem dL_law_1104 : decode cL_law 1104 = .ok (.invokevirtual 154, 3) := by decide +kernel
theorem dL_law_1107 : decode cL_law 1107 = .ok (.aload_n 2, 1) := by decide +kernel
theorem dL_law_1108 : decode cL_law 1108 = .ok (.invokevirtual 157, 3) := by decide +kernel
theorem dL_law_1111 : decode cL_law 1111 = .ok (.if_icmp .eq 401, 3) := by decide +kernel
theorem dL_law_1114 : decode cL_law 1114 = .ok (.iconst 0, 1) := by decide +kernel
theorem dL_law_1115 : decode cL_law 1115 = .ok (.ireturn, 1) := by decide +kernel
theorem dL_law_1116 : decode cL_law 1116 = .ok (.aload_n 1, 1) := by decide +kernel
theorem dL_law_1117 : decode cL_law 1117 = .ok (.aload_n 0, 1) := by decide +kernel
theorem dL_law_1118 : decode cL_law 1118 = .ok (.iload 4, 2) := by decide +kernel
theorem dL_law_1120 : decode cL_law 1120 = .ok (.iconst 1, 1) := by decide +kernel
theorem dL_law_1121 : decode cL_law 1121 = .ok (.iadd, 1) := by decide +kernel
theorem dL_law_1122 : decode cL_law 1122 = .ok (.iaload, 1) := by decide +kernel
theorem dL_law_1123 : decode cL_law 1123 = .ok (.aload_n 0, 1) := by decide +kernel
theorem dL_law_1124 : decode cL_law 1124 = .ok (.iload 4, 2) := by decide +kernel
theorem dL_law_1126 : decode cL_law 1126 = .ok (.iconst 2, 1) := by decide +kernel
theorem dL_law_1127 : decode cL_law 1127 = .ok (.iadd, 1) := by decide +kernel
theorem dL_law_1128 : decode cL_law 1128 = .ok (.iaload, 1) := by decide +kernel
theorem dL_law_1129 : decode cL_law 1129 = .ok (.aload_n 3, 1) := by decide +kernel
theorem dL_law_1130 : decode cL_law 1130 = .ok (.invokestatic 158, 3) := by decide +kernel
theorem dL_law_1133 : decode cL_law 1133 = .ok (.istore 5, 2) := by decide +kernel
theorem dL_law_1135 : decode cL_law 1135 = .ok (.aload_n 2, 1) := by decide +kernel
theorem dL_law_1136 : decode cL_law 1136 = .ok (.aload_n 0, 1) := by decide +kernel
theorem dL_law_1137 : decode cL_law 1137 = .ok (.iload 4, 2) := by decide +kernel
theorem dL_law_1139 : decode cL_law 1139 = .ok (.iconst 1, 1) := by decide +kernel
theorem dL_law_1140 : decode cL_law 1140 = .ok (.iadd, 1) := by decide +kernel
theorem dL_law_1141 : decode cL_law 1141 = .ok (.iaload, 1) := by decide +kernel
theorem dL_law_1142 : decode cL_law 1142 = .ok (.aload_n 0, 1) := by decide +kernel
theorem dL_law_1143 : decode cL_law 1143 = .ok (.iload 4, 2) := by decide +kernel
theorem dL_law_1145 : decode cL_law 1145 = .ok (.iconst 2, 1) := by decide +kernel
theorem dL_law_1146 : decode cL_law 1146 = .ok (.iadd, 1) := by decide +kernel
theorem dL_law_1147 : decode cL_law 1147 = .ok (.iaload, 1) := by decide +kernel
theorem dL_law_1148 : decode cL_law 1148 = .ok (.invokevirtual 160, 3) := by decide +kernel
theorem dL_law_1151 : decode cL_law 1151 = .ok (.istore 6, 2) := by decide +kernel
theorem dL_law_1153 : decode cL_law 1153 = .ok (.aload_n 2, 1) := by decide +kernel
theorem dL_law_1154 : decode cL_law 1154 = .ok (.invokevirtual 83, 3) := by decide +kernel
theorem dL_law_1157 : decode cL_law 1157 = .ok (.iload 5, 2) := by decide +kernel
theorem dL_law_1159 : decode cL_law 1159 = .ok (.if_icmp .eq 5, 3) := by decide +kernel
theorem dL_law_1162 : decode cL_law 1162 = .ok (.iconst 0, 1) := by decide +kernel
theorem dL_law_1163 : decode cL_law 1163 = .ok (.ireturn, 1) := by decide +kernel
theorem dL_law_1164 : decode cL_law 1164 = .ok (.iload 5, 2) := by decide +kernel
theorem dL_law_1166 : decode cL_law 1166 = .ok (.ifCond .ne 15, 3) := by decide +kernel
theorem dL_law_1169 : decode cL_law 1169 = .ok (.aload_n 3, 1) := by decide +kernel
theorem dL_law_1170 : decode cL_law 1170 = .ok (.iconst 0, 1) := by decide +kernel
theorem dL_law_1171 : decode cL_law 1171 = .ok (.laload, 1) := by decide +kernel
theorem dL_law_1172 : decode cL_law 1172 = .ok (.iload 6, 2) := by decide +kernel
theorem dL_law_1174 : decode cL_law 1174 = .ok (.i2l, 1) := by decide +kernel
theorem dL_law_1175 : decode cL_law 1175 = .ok (.lcmp, 1) := by decide +kernel
theorem dL_law_1176 : decode cL_law 1176 = .ok (.ifCond .eq 5, 3) := by decide +kernel
theorem dL_law_1179 : decode cL_law 1179 = .ok (.iconst 0, 1) := by decide +kernel
theorem dL_law_1180 : decode cL_law 1180 = .ok (.ireturn, 1) := by decide +kernel
theorem dL_law_1181 : decode cL_law 1181 = .ok (.goto 331, 3) := by decide +kernel
theorem dL_law_1184 : decode cL_law 1184 = .ok (.aload_n 1, 1) := by decide +kernel
theorem dL_law_1185 : decode cL_law 1185 = .ok (.invokevirtual 161, 3) := by decide +kernel
theorem dL_law_1188 : decode cL_law 1188 = .ok (.aload_n 2, 1) := by decide +kernel
theorem dL_law_1189 : decode cL_law 1189 = .ok (.invokevirtual 164, 3) := by decide +kernel
theorem dL_law_1192 : decode cL_law 1192 = .ok (.if_icmp .eq 320, 3) := by decide +kernel
theorem dL_law_1195 : decode cL_law 1195 = .ok (.iconst 0, 1) := by decide +kernel
theorem dL_law_1196 : decode cL_law 1196 = .ok (.ireturn, 1) := by decide +kernel
theorem dL_law_1197 : decode cL_law 1197 = .ok (.aload_n 1, 1) := by decide +kernel
theorem dL_law_1198 : decode cL_law 1198 = .ok (.invokevirtual 165, 3) := by decide +kernel
theorem dL_law_1201 : decode cL_law 1201 = .ok (.aload_n 2, 1) := by decide +kernel
theorem dL_law_1202 : decode cL_law 1202 = .ok (.invokevirtual 168, 3) := by decide +kernel
theorem dL_law_1205 : decode cL_law 1205 = .ok (.if_icmp .eq 307, 3) := by decide +kernel
theorem dL_law_1208 : decode cL_law 1208 = .ok (.iconst 0, 1) := by decide +kernel
theorem dL_law_1209 : decode cL_law 1209 = .ok (.ireturn, 1) := by decide +kernel
theorem dL_law_1210 : decode cL_law 1210 = .ok (.aload_n 1, 1) := by decide +kernel
theorem dL_law_1211 : decode cL_law 1211 = .ok (.aload_n 0, 1) := by decide +kernel
theorem dL_law_1212 : decode cL_law 1212 = .ok (.iload 4, 2) := by decide +kernel
theorem dL_law_1214 : decode cL_law 1214 = .ok (.iconst 1, 1) := by decide +kernel
theorem dL_law_1215 : decode cL_law 1215 = .ok (.iadd, 1) := by decide +kernel
theorem dL_law_1216 : decode cL_law 1216 = .ok (.iaload, 1) := by decide +kernel
theorem dL_law_1217 : decode cL_law 1217 = .ok (.aload_n 0, 1) := by decide +kernel
theorem dL_law_1218 : decode cL_law 1218 = .ok (.iload 4, 2) := by decide +kernel
theorem dL_law_1220 : decode cL_law 1220 = .ok (.iconst 2, 1) := by decide +kernel
theorem dL_law_1221 : decode cL_law 1221 = .ok (.iadd, 1) := by decide +kernel
theorem dL_law_1222 : decode cL_law 1222 = .ok (.iaload, 1) := by decide +kernel
theorem dL_law_1223 : decode cL_law 1223 = .ok (.aload_n 0, 1) := by decide +kernel
theorem dL_law_1224 : decode cL_law 1224 = .ok (.iload 4, 2) := by decide +kernel
theorem dL_law_1226 : decode cL_law 1226 = .ok (.iconst 3, 1) := by decide +kernel
theorem dL_law_1227 : decode cL_law 1227 = .ok (.iadd, 1) := by decide +kernel
theorem dL_law_1228 : decode cL_law 1228 = .ok (.iaload, 1) := by decide +kernel
theorem dL_law_1229 : decode cL_law 1229 = .ok (.aload_n 3, 1) := by decide +kernel
theorem dL_law_1230 : decode cL_law 1230 = .ok (.invokestatic 169, 3) := by decide +kernel
theorem dL_law_1233 : decode cL_law 1233 = .ok (.istore 5, 2) := by decide +kernel
theorem dL_law_1235 : decode cL_law 1235 = .ok (.aload_n 2, 1) := by decide +kernel
theorem dL_law_1236 : decode cL_law 1236 = .ok (.aload_n 0, 1) := by decide +kernel
theorem dL_law_1237 : decode cL_law 1237 = .ok (.iload 4, 2) := by decide +kernel
theorem dL_law_1239 : decode cL_law 1239 = .ok (.iconst 1, 1) := by decide +kernel
theorem dL_law_1240 : decode cL_law 1240 = .ok (.iadd, 1) := by decide +kernel
theorem dL_law_1241 : decode cL_law 1241 = .ok (.iaload, 1) := by decide +kernel
theorem dL_law_1242 : decode cL_law 1242 = .ok (.aload_n 0, 1) := by decide +kernel
theorem dL_law_1243 : decode cL_law 1243 = .ok (.iload 4, 2) := by decide +kernel
theorem dL_law_1245 : decode cL_law 1245 = .ok (.iconst 2, 1) := by decide +kernel
theorem dL_law_1246 : decode cL_law 1246 = .ok (.iadd, 1) := by decide +kernel
theorem dL_law_1247 : decode cL_law 1247 = .ok (.iaload, 1) := by decide +kernel
theorem dL_law_1248 : decode cL_law 1248 = .ok (.aload_n 0, 1) := by decide +kernel
theorem dL_law_1249 : decode cL_law 1249 = .ok (.iload 4, 2) := by decide +kernel
theorem dL_law_1251 : decode cL_law 1251 = .ok (.iconst 3, 1) := by decide +kernel
theorem dL_law_1252 : decode cL_law 1252 = .ok (.iadd, 1) := by decide +kernel
theorem dL_law_1253 : decode cL_law 1253 = .ok (.iaload, 1) := by decide +kernel
theorem dL_law_1254 : decode cL_law 1254 = .ok (.invokevirtual 171, 3) := by decide +kernel
theorem dL_law_1257 : decode cL_law 1257 = .ok (.istore 6, 2) := by decide +kernel
theorem dL_law_1259 : decode cL_law 1259 = .ok (.aload_n 2, 1) := by decide +kernel
theorem dL_law_1260 : decode cL_law 1260 = .ok (.invokevirtual 83, 3) := by decide +kernel
theorem dL_law_1263 : decode cL_law 1263 = .ok (.iload 5, 2) := by decide +kernel
theorem dL_law_1265 : decode cL_law 1265 = .ok (.if_icmp .eq 5, 3) := by decide +kernel
theorem dL_law_1268 : decode cL_law 1268 = .ok (.iconst 0, 1) := by decide +kernel
theorem dL_law_1269 : decode cL_law 1269 = .ok (.ireturn, 1) := by decide +kernel
theorem dL_law_1270 : decode cL_law 1270 = .ok (.iload 5, 2) := by decide +kernel
theorem dL_law_1272 : decode cL_law 1272 = .ok (.ifCond .ne 15, 3) := by decide +kernel
theorem dL_law_1275 : decode cL_law 1275 = .ok (.aload_n 3, 1) := by decide +kernel
theorem dL_law_1276 : decode cL_law 1276 = .ok (.iconst 0, 1) := by decide +kernel
theorem dL_law_1277 : decode cL_law 1277 = .ok (.laload, 1) := by decide +kernel
theorem dL_law_1278 : decode cL_law 1278 = .ok (.iload 6, 2) := by decide +kernel
theorem dL_law_1280 : decode cL_law 1280 = .ok (.i2l, 1) := by decide +kernel
theorem dL_law_1281 : decode cL_law 1281 = .ok (.lcmp, 1) := by decide +kernel
theorem dL_law_1282 : decode cL_law 1282 = .ok (.ifCond .eq 5, 3) := by decide +kernel
theorem dL_law_1285 : decode cL_law 1285 = .ok (.iconst 0, 1) := by decide +kernel
theorem dL_law_1286 : decode cL_law 1286 = .ok (.ireturn, 1) := by decide +kernel
theorem dL_law_1287 : decode cL_law 1287 = .ok (.goto 225, 3) := by decide +kernel
theorem dL_law_1290 : decode cL_law 1290 = .ok (.aload_n 1, 1) := by decide +kernel
theorem dL_law_1291 : decode cL_law 1291 = .ok (.aload_n 0, 1) := by decide +kernel
theorem dL_law_1292 : decode cL_law 1292 = .ok (.iload 4, 2) := by decide +kernel
theorem dL_law_1294 : decode cL_law 1294 = .ok (.iconst 1, 1) := by decide +kernel
theorem dL_law_1295 : decode cL_law 1295 = .ok (.iadd, 1) := by decide +kernel
theorem dL_law_1296 : decode cL_law 1296 = .ok (.iaload, 1) := by decide +kernel
theorem dL_law_1297 : decode cL_law 1297 = .ok (.aload_n 3, 1) := by decide +kernel
theorem dL_law_1298 : decode cL_law 1298 = .ok (.invokestatic 172, 3) := by decide +kernel
theorem dL_law_1301 : decode cL_law 1301 = .ok (.istore 5, 2) := by decide +kernel
theorem dL_law_1303 : decode cL_law 1303 = .ok (.aload_n 2, 1) := by decide +kernel
theorem dL_law_1304 : decode cL_law 1304 = .ok (.aload_n 0, 1) := by decide +kernel
theorem dL_law_1305 : decode cL_law 1305 = .ok (.iload 4, 2) := by decide +kernel
theorem dL_law_1307 : decode cL_law 1307 = .ok (.iconst 1, 1) := by decide +kernel
theorem dL_law_1308 : decode cL_law 1308 = .ok (.iadd, 1) := by decide +kernel
theorem dL_law_1309 : decode cL_law 1309 = .ok (.iaload, 1) := by decide +kernel
theorem dL_law_1310 : decode cL_law 1310 = .ok (.invokevirtual 174, 3) := by decide +kernel
theorem dL_law_1313 : decode cL_law 1313 = .ok (.istore 6, 2) := by decide +kernel
theorem dL_law_1315 : decode cL_law 1315 = .ok (.aload_n 2, 1) := by decide +kernel
theorem dL_law_1316 : decode cL_law 1316 = .ok (.invokevirtual 83, 3) := by decide +kernel
theorem dL_law_1319 : decode cL_law 1319 = .ok (.iload 5, 2) := by decide +kernel
theorem dL_law_1321 : decode cL_law 1321 = .ok (.if_icmp .eq 5, 3) := by decide +kernel
theorem dL_law_1324 : decode cL_law 1324 = .ok (.iconst 0, 1) := by decide +kernel
theorem dL_law_1325 : decode cL_law 1325 = .ok (.ireturn, 1) := by decide +kernel
theorem dL_law_1326 : decode cL_law 1326 = .ok (.iload 5, 2) := by decide +kernel
theorem dL_law_1328 : decode cL_law 1328 = .ok (.ifCond .ne 15, 3) := by decide +kernel
theorem dL_law_1331 : decode cL_law 1331 = .ok (.aload_n 3, 1) := by decide +kernel
theorem dL_law_1332 : decode cL_law 1332 = .ok (.iconst 0, 1) := by decide +kernel
theorem dL_law_1333 : decode cL_law 1333 = .ok (.laload, 1) := by decide +kernel
theorem dL_law_1334 : decode cL_law 1334 = .ok (.iload 6, 2) := by decide +kernel
theorem dL_law_1336 : decode cL_law 1336 = .ok (.i2l, 1) := by decide +kernel
theorem dL_law_1337 : decode cL_law 1337 = .ok (.lcmp, 1) := by decide +kernel
theorem dL_law_1338 : decode cL_law 1338 = .ok (.ifCond .eq 5, 3) := by decide +kernel
theorem dL_law_1341 : decode cL_law 1341 = .ok (.iconst 0, 1) := by decide +kernel
theorem dL_law_1342 : decode cL_law 1342 = .ok (.ireturn, 1) := by decide +kernel
theorem dL_law_1343 : decode cL_law 1343 = .ok (.goto 169, 3) := by decide +kernel
theorem dL_law_1346 : decode cL_law 1346 = .ok (.aload_n 1, 1) := by decide +kernel
theorem dL_law_1347 : decode cL_law 1347 = .ok (.invokevirtual 175, 3) := by decide +kernel
theorem dL_law_1350 : decode cL_law 1350 = .ok (.aload_n 2, 1) := by decide +kernel
theorem dL_law_1351 : decode cL_law 1351 = .ok (.invokevirtual 178, 3) := by decide +kernel
theorem dL_law_1354 : decode cL_law 1354 = .ok (.if_icmp .eq 158, 3) := by decide +kernel
theorem dL_law_1357 : decode cL_law 1357 = .ok (.iconst 0, 1) := by decide +kernel
theorem dL_law_1358 : decode cL_law 1358 = .ok (.ireturn, 1) := by decide +kernel
theorem dL_law_1359 : decode cL_law 1359 = .ok (.aload_n 1, 1) := by decide +kernel
theorem dL_law_1360 : decode cL_law 1360 = .ok (.aload_n 0, 1) := by decide +kernel
theorem dL_law_1361 : decode cL_law 1361 = .ok (.iload 4, 2) := by decide +kernel
theorem dL_law_1363 : decode cL_law 1363 = .ok (.iconst 1, 1) := by decide +kernel
theorem dL_law_1364 : decode cL_law 1364 = .ok (.iadd, 1) := by decide +kernel
theorem dL_law_1365 : decode cL_law 1365 = .ok (.iaload, 1) := by decide +kernel
theorem dL_law_1366 : decode cL_law 1366 = .ok (.aload_n 3, 1) := by decide +kernel
theorem dL_law_1367 : decode cL_law 1367 = .ok (.invokestatic 179, 3) := by decide +kernel
theorem dL_law_1370 : decode cL_law 1370 = .ok (.istore 5, 2) := by decide +kernel
theorem dL_law_1372 : decode cL_law 1372 = .ok (.aload_n 2, 1) := by decide +kernel
theorem dL_law_1373 : decode cL_law 1373 = .ok (.aload_n 0, 1) := by decide +kernel
theorem dL_law_1374 : decode cL_law 1374 = .ok (.iload 4, 2) := by decide +kernel
theorem dL_law_1376 : decode cL_law 1376 = .ok (.iconst 1, 1) := by decide +kernel
theorem dL_law_1377 : decode cL_law 1377 = .ok (.iadd, 1) := by decide +kernel
theorem dL_law_1378 : decode cL_law 1378 = .ok (.iaload, 1) := by decide +kernel
theorem dL_law_1379 : decode cL_law 1379 = .ok (.invokevirtual 181, 3) := by decide +kernel
theorem dL_law_1382 : decode cL_law 1382 = .ok (.istore 6, 2) := by decide +kernel
theorem dL_law_1384 : decode cL_law 1384 = .ok (.aload_n 2, 1) := by decide +kernel
theorem dL_law_1385 : decode cL_law 1385 = .ok (.invokevirtual 83, 3) := by decide +kernel
theorem dL_law_1388 : decode cL_law 1388 = .ok (.iload 5, 2) := by decide +kernel
theorem dL_law_1390 : decode cL_law 1390 = .ok (.if_icmp .eq 5, 3) := by decide +kernel
theorem dL_law_1393 : decode cL_law 1393 = .ok (.iconst 0, 1) := by decide +kernel
theorem dL_law_1394 : decode cL_law 1394 = .ok (.ireturn, 1) := by decide +kernel
theorem dL_law_1395 : decode cL_law 1395 = .ok (.iload 5, 2) := by decide +kernel
theorem dL_law_1397 : decode cL_law 1397 = .ok (.ifCond .ne 15, 3) := by decide +kernel
theorem dL_law_1400 : decode cL_law 1400 = .ok (.aload_n 3, 1) := by decide +kernel
theorem dL_law_1401 : decode cL_law 1401 = .ok (.iconst 0, 1) := by decide +kernel
theorem dL_law_1402 : decode cL_law 1402 = .ok (.laload, 1) := by decide +kernel
theorem dL_law_1403 : decode cL_law 1403 = .ok (.iload 6, 2) := by decide +kernel
theorem dL_law_1405 : decode cL_law 1405 = .ok (.i2l, 1) := by decide +kernel
theorem dL_law_1406 : decode cL_law 1406 = .ok (.lcmp, 1) := by decide +kernel
theorem dL_law_1407 : decode cL_law 1407 = .ok (.ifCond .eq 5, 3) := by decide +kernel
theorem dL_law_1410 : decode cL_law 1410 = .ok (.iconst 0, 1) := by decide +kernel
theorem dL_law_1411 : decode cL_law 1411 = .ok (.ireturn, 1) := by decide +kernel
theorem dL_law_1412 : decode cL_law 1412 = .ok (.goto 100, 3) := by decide +kernel
theorem dL_law_1415 : decode cL_law 1415 = .ok (.aload_n 1, 1) := by decide +kernel
theorem dL_law_1416 : decode cL_law 1416 = .ok (.invokevirtual 182, 3) := by decide +kernel
theorem dL_law_1419 : decode cL_law 1419 = .ok (.aload_n 2, 1) := by decide +kernel
theorem dL_law_1420 : decode cL_law 1420 = .ok (.invokevirtual 185, 3) := by decide +kernel
theorem dL_law_1423 : decode cL_law 1423 = .ok (.if_icmp .eq 89, 3) := by decide +kernel
theorem dL_law_1426 : decode cL_law 1426 = .ok (.iconst 0, 1) := by decide +kernel
theorem dL_law_1427 : decode cL_law 1427 = .ok (.ireturn, 1) := by decide +kernel
theorem dL_law_1428 : decode cL_law 1428 = .ok (.aload_n 1, 1) := by decide +kernel
theorem dL_law_1429 : decode cL_law 1429 = .ok (.invokevirtual 186, 3) := by decide +kernel
theorem dL_law_1432 : decode cL_law 1432 = .ok (.aload_n 2, 1) := by decide +kernel
theorem dL_law_1433 : decode cL_law 1433 = .ok (.invokevirtual 189, 3) := by decide +kernel
theorem dL_law_1436 : decode cL_law 1436 = .ok (.if_icmp .eq 76, 3) := by decide +kernel
theorem dL_law_1439 : decode cL_law 1439 = .ok (.iconst 0, 1) := by decide +kernel
theorem dL_law_1440 : decode cL_law 1440 = .ok (.ireturn, 1) := by decide +kernel
theorem dL_law_1441 : decode cL_law 1441 = .ok (.aload_n 1, 1) := by decide +kernel
theorem dL_law_1442 : decode cL_law 1442 = .ok (.aload_n 3, 1) := by decide +kernel
theorem dL_law_1443 : decode cL_law 1443 = .ok (.invokestatic 190, 3) := by decide +kernel
theorem dL_law_1446 : decode cL_law 1446 = .ok (.istore 5, 2) := by decide +kernel
theorem dL_law_1448 : decode cL_law 1448 = .ok (.aload_n 2, 1) := by decide +kernel
theorem dL_law_1449 : decode cL_law 1449 = .ok (.invokevirtual 192, 3) := by decide +kernel
theorem dL_law_1452 : decode cL_law 1452 = .ok (.istore 6, 2) := by decide +kernel
theorem dL_law_1454 : decode cL_law 1454 = .ok (.aload_n 2, 1) := by decide +kernel
theorem dL_law_1455 : decode cL_law 1455 = .ok (.invokevirtual 83, 3) := by decide +kernel
theorem dL_law_1458 : decode cL_law 1458 = .ok (.iload 5, 2) := by decide +kernel
theorem dL_law_1460 : decode cL_law 1460 = .ok (.if_icmp .eq 5, 3) := by decide +kernel
theorem dL_law_1463 : decode cL_law 1463 = .ok (.iconst 0, 1) := by decide +kernel
theorem dL_law_1464 : decode cL_law 1464 = .ok (.ireturn, 1) := by decide +kernel
theorem dL_law_1465 : decode cL_law 1465 = .ok (.iload 5, 2) := by decide +kernel
theorem dL_law_1467 : decode cL_law 1467 = .ok (.ifCond .ne 15, 3) := by decide +kernel
theorem dL_law_1470 : decode cL_law 1470 = .ok (.aload_n 3, 1) := by decide +kernel
theorem dL_law_1471 : decode cL_law 1471 = .ok (.iconst 0, 1) := by decide +kernel
theorem dL_law_1472 : decode cL_law 1472 = .ok (.laload, 1) := by decide +kernel
theorem dL_law_1473 : decode cL_law 1473 = .ok (.iload 6, 2) := by decide +kernel
theorem dL_law_1475 : decode cL_law 1475 = .ok (.i2l, 1) := by decide +kernel
theorem dL_law_1476 : decode cL_law 1476 = .ok (.lcmp, 1) := by decide +kernel
theorem dL_law_1477 : decode cL_law 1477 = .ok (.ifCond .eq 5, 3) := by decide +kernel
theorem dL_law_1480 : decode cL_law 1480 = .ok (.iconst 0, 1) := by decide +kernel
theorem dL_law_1481 : decode cL_law 1481 = .ok (.ireturn, 1) := by decide +kernel
theorem dL_law_1482 : decode cL_law 1482 = .ok (.goto 30, 3) := by decide +kernel
theorem dL_law_1485 : decode cL_law 1485 = .ok (.aload_n 1, 1) := by decide +kernel
theorem dL_law_1486 : decode cL_law 1486 = .ok (.invokevirtual 193, 3) := by decide +kernel
theorem dL_law_1489 : decode cL_law 1489 = .ok (.aload_n 2, 1) := by decide +kernel
theorem dL_law_1490 : decode cL_law 1490 = .ok (.invokevirtual 196, 3) := by decide +kernel
theorem dL_law_1493 : decode cL_law 1493 = .ok (.if_icmp .eq 19, 3) := by decide +kernel
theorem dL_law_1496 : decode cL_law 1496 = .ok (.iconst 0, 1) := by decide +kernel
theorem dL_law_1497 : decode cL_law 1497 = .ok (.ireturn, 1) := by decide +kernel
theorem dL_law_1498 : decode cL_law 1498 = .ok (.aload_n 1, 1) := by decide +kernel
theorem dL_law_1499 : decode cL_law 1499 = .ok (.invokevirtual 197, 3) := by decide +kernel
theorem dL_law_1502 : decode cL_law 1502 = .ok (.aload_n 2, 1) := by decide +kernel
theorem dL_law_1503 : decode cL_law 1503 = .ok (.invokevirtual 201, 3) := by decide +kernel
theorem dL_law_1506 : decode cL_law 1506 = .ok (.lcmp, 1) := by decide +kernel
theorem dL_law_1507 : decode cL_law 1507 = .ok (.ifCond .eq 5, 3) := by decide +kernel
theorem dL_law_1510 : decode cL_law 1510 = .ok (.iconst 0, 1) := by decide +kernel
theorem dL_law_1511 : decode cL_law 1511 = .ok (.ireturn, 1) := by decide +kernel
theorem dL_law_1512 : decode cL_law 1512 = .ok (.iinc 4 4, 3) := by decide +kernel
theorem dL_law_1515 : decode cL_law 1515 = .ok (.goto (-1492), 3) := by decide +kernel
theorem dL_law_1518 : decode cL_law 1518 = .ok (.iconst 1, 1) := by decide +kernel
theorem dL_law_1519 : decode cL_law 1519 = .ok (.ireturn, 1) := by decide +kernel
