theorem dX8_missesToCome_11 : decode cX8_missesToCome 11 = .ok (.aload_n 0, 1) := by decide +kernel
theorem dX8_missesToCome_12 : decode cX8_missesToCome 12 = .ok (.getfield 54, 3) := by decide +kernel
theorem dX8_missesToCome_15 : decode cX8_missesToCome 15 = .ok (.aload_n 0, 1) := by decide +kernel
theorem dX8_missesToCome_16 : decode cX8_missesToCome 16 = .ok (.invokevirtual 146, 3) := by decide +kernel
theorem dX8_missesToCome_19 : decode cX8_missesToCome 19 = .ok (.aload_n 0, 1) := by decide +kernel
theorem dX8_missesToCome_20 : decode cX8_missesToCome 20 = .ok (.getfield 12, 3) := by decide +kernel
theorem dX8_missesToCome_23 : decode cX8_missesToCome 23 = .ok (.iconst 0, 1) := by decide +kernel
theorem dX8_missesToCome_24 : decode cX8_missesToCome 24 = .ok (.invokevirtual 87, 3) := by decide +kernel
theorem dX8_missesToCome_27 : decode cX8_missesToCome 27 = .ok (.aload_n 0, 1) := by decide +kernel
theorem dX8_missesToCome_28 : decode cX8_missesToCome 28 = .ok (.getfield 12, 3) := by decide +kernel
theorem dX8_missesToCome_31 : decode cX8_missesToCome 31 = .ok (.iconst 1, 1) := by decide +kernel
theorem dX8_missesToCome_32 : decode cX8_missesToCome 32 = .ok (.invokevirtual 87, 3) := by decide +kernel
theorem dX8_missesToCome_35 : decode cX8_missesToCome 35 = .ok (.invokevirtual 192, 3) := by decide +kernel
theorem dX8_missesToCome_38 : decode cX8_missesToCome 38 = .ok (.aload_n 0, 1) := by decide +kernel
theorem dX8_missesToCome_39 : decode cX8_missesToCome 39 = .ok (.getfield 54, 3) := by decide +kernel
theorem dX8_missesToCome_42 : decode cX8_missesToCome 42 = .ok (.invokevirtual 199, 3) := by decide +kernel
theorem dX8_missesToCome_45 : decode cX8_missesToCome 45 = .ok (.aload_n 0, 1) := by decide +kernel
theorem dX8_missesToCome_46 : decode cX8_missesToCome 46 = .ok (.getfield 50, 3) := by decide +kernel
theorem dX8_missesToCome_49 : decode cX8_missesToCome 49 = .ok (.invokevirtual 199, 3) := by decide +kernel
theorem dX8_missesToCome_52 : decode cX8_missesToCome 52 = .ok (.isub, 1) := by decide +kernel
theorem dX8_missesToCome_53 : decode cX8_missesToCome 53 = .ok (.ireturn, 1) := by decide +kernel
theorem dX8_append_0 : decode cX8_append 0 = .ok (.iload_n 1, 1) := by decide +kernel
theorem dX8_append_1 : decode cX8_append 1 = .ok (.bipush 33, 2) := by decide +kernel
theorem dX8_append_3 : decode cX8_append 3 = .ok (.if_icmp .lt 9, 3) := by decide +kernel
theorem dX8_append_6 : decode cX8_append 6 = .ok (.iload_n 1, 1) := by decide +kernel
theorem dX8_append_7 : decode cX8_append 7 = .ok (.bipush 126, 2) := by decide +kernel
theorem dX8_append_9 : decode cX8_append 9 = .ok (.if_icmp .le 13, 3) := by decide +kernel
theorem dX8_append_12 : decode cX8_append 12 = .ok (.new 76, 3) := by decide +kernel
theorem dX8_append_15 : decode cX8_append 15 = .ok (.dup, 1) := by decide +kernel
theorem dX8_append_16 : decode cX8_append 16 = .ok (.ldc 225, 2) := by decide +kernel
theorem dX8_append_18 : decode cX8_append 18 = .ok (.invokespecial 80, 3) := by decide +kernel
theorem dX8_append_21 : decode cX8_append 21 = .ok (.athrow, 1) := by decide +kernel
theorem dX8_append_22 : decode cX8_append 22 = .ok (.aload_n 0, 1) := by decide +kernel
theorem dX8_append_23 : decode cX8_append 23 = .ok (.getfield 26, 3) := by decide +kernel
theorem dX8_append_26 : decode cX8_append 26 = .ok (.invokevirtual 227, 3) := by decide +kernel
theorem dX8_append_29 : decode cX8_append 29 = .ok (.bipush 60, 2) := by decide +kernel
theorem dX8_append_31 : decode cX8_append 31 = .ok (.if_icmp .lt 13, 3) := by decide +kernel
theorem dX8_append_34 : decode cX8_append 34 = .ok (.new 112, 3) := by decide +kernel
theorem dX8_append_37 : decode cX8_append 37 = .ok (.dup, 1) := by decide +kernel
theorem dX8_append_38 : decode cX8_append 38 = .ok (.ldc 228, 2) := by decide +kernel
theorem dX8_append_40 : decode cX8_append 40 = .ok (.invokespecial 116, 3) := by decide +kernel
theorem dX8_append_43 : decode cX8_append 43 = .ok (.athrow, 1) := by decide +kernel
theorem dX8_append_44 : decode cX8_append 44 = .ok (.aload_n 0, 1) := by decide +kernel
theorem dX8_append_45 : decode cX8_append 45 = .ok (.getfield 26, 3) := by decide +kernel
theorem dX8_append_48 : decode cX8_append 48 = .ok (.iload_n 1, 1) := by decide +kernel
theorem dX8_append_49 : decode cX8_append 49 = .ok (.invokevirtual 230, 3) := by decide +kernel
theorem dX8_append_52 : decode cX8_append 52 = .ok (.aload_n 0, 1) := by decide +kernel
theorem dX8_append_53 : decode cX8_append 53 = .ok (.getfield 26, 3) := by decide +kernel
theorem dX8_append_56 : decode cX8_append 56 = .ok (.invokevirtual 227, 3) := by decide +kernel
theorem dX8_append_59 : decode cX8_append 59 = .ok (.ireturn, 1) := by decide +kernel
theorem dX8_clearBuffer_0 : decode cX8_clearBuffer 0 = .ok (.aload_n 0, 1) := by decide +kernel
theorem dX8_clearBuffer_1 : decode cX8_clearBuffer 1 = .ok (.getfield 26, 3) := by decide +kernel
theorem dX8_clearBuffer_4 : decode cX8_clearBuffer 4 = .ok (.invokevirtual 227, 3) := by decide +kernel
theorem dX8_clearBuffer_7 : decode cX8_clearBuffer 7 = .ok (.istore_n 1, 1) := by decide +kernel
theorem dX8_clearBuffer_8 : decode cX8_clearBuffer 8 = .ok (.aload_n 0, 1) := by decide +kernel
theorem dX8_clearBuffer_9 : decode cX8_clearBuffer 9 = .ok (.getfield 26, 3) := by decide +kernel
theorem dX8_clearBuffer_12 : decode cX8_clearBuffer 12 = .ok (.invokevirtual 233, 3) := by decide +kernel
theorem dX8_clearBuffer_15 : decode cX8_clearBuffer 15 = .ok (.iload_n 1, 1) := by decide +kernel
theorem dX8_clearBuffer_16 : decode cX8_clearBuffer 16 = .ok (.ireturn, 1) := by decide +kernel
theorem dX8_firstError_0 : decode cX8_firstError 0 = .ok (.aload_n 0, 1) := by decide +kernel
theorem dX8_firstError_1 : decode cX8_firstError 1 = .ok (.getfield 26, 3) := by decide +kernel
theorem dX8_firstError_4 : decode cX8_firstError 4 = .ok (.invokevirtual 236, 3) := by decide +kernel
theorem dX8_firstError_7 : decode cX8_firstError 7 = .ok (.ireturn, 1) := by decide +kernel
theorem dX8_undo_0 : decode cX8_undo 0 = .ok (.aload_n 0, 1) := by decide +kernel
theorem dX8_undo_1 : decode cX8_undo 1 = .ok (.getfield 19, 3) := by decide +kernel
theorem dX8_undo_4 : decode cX8_undo 4 = .ok (.invokevirtual 239, 3) := by decide +kernel
theorem dX8_undo_7 : decode cX8_undo 7 = .ok (.ifCond .ne 13, 3) := by decide +kernel
theorem dX8_undo_10 : decode cX8_undo 10 = .ok (.new 112, 3) := by decide +kernel
theorem dX8_undo_13 : decode cX8_undo 13 = .ok (.dup, 1) := by decide +kernel
theorem dX8_undo_14 : decode cX8_undo 14 = .ok (.ldc 240, 2) := by decide +kernel
theorem dX8_undo_16 : decode cX8_undo 16 = .ok (.invokespecial 116, 3) := by decide +kernel
theorem dX8_undo_19 : decode cX8_undo 19 = .ok (.athrow, 1) := by decide +kernel
theorem dX8_undo_20 : decode cX8_undo 20 = .ok (.aload_n 0, 1) := by decide +kernel
theorem dX8_undo_21 : decode cX8_undo 21 = .ok (.getfield 19, 3) := by decide +kernel
theorem dX8_undo_24 : decode cX8_undo 24 = .ok (.aload_n 0, 1) := by decide +kernel
theorem dX8_undo_25 : decode cX8_undo 25 = .ok (.getfield 12, 3) := by decide +kernel
theorem dX8_undo_28 : decode cX8_undo 28 = .ok (.invokevirtual 242, 3) := by decide +kernel
theorem dX8_undo_31 : decode cX8_undo 31 = .ok (.aload_n 0, 1) := by decide +kernel
theorem dX8_undo_32 : decode cX8_undo 32 = .ok (.getfield 19, 3) := by decide +kernel
theorem dX8_undo_35 : decode cX8_undo 35 = .ok (.invokevirtual 239, 3) := by decide +kernel
theorem dX8_undo_38 : decode cX8_undo 38 = .ok (.ireturn, 1) := by decide +kernel
theorem dX8_savedStates_0 : decode cX8_savedStates 0 = .ok (.aload_n 0, 1) := by decide +kernel
theorem dX8_savedStates_1 : decode cX8_savedStates 1 = .ok (.getfield 19, 3) := by decide +kernel
theorem dX8_savedStates_4 : decode cX8_savedStates 4 = .ok (.invokevirtual 239, 3) := by decide +kernel
theorem dX8_savedStates_7 : decode cX8_savedStates 7 = .ok (.ireturn, 1) := by decide +kernel
theorem dX8_digest_0 : decode cX8_digest 0 = .ok (.ldc2_w 245, 3) := by decide +kernel
theorem dX8_digest_3 : decode cX8_digest 3 = .ok (.aload_n 0, 1) := by decide +kernel
theorem dX8_digest_4 : decode cX8_digest 4 = .ok (.getfield 12, 3) := by decide +kernel
theorem dX8_digest_7 : decode cX8_digest 7 = .ok (.invokevirtual 68, 3) := by decide +kernel
theorem dX8_digest_10 : decode cX8_digest 10 = .ok (.i2l, 1) := by decide +kernel
theorem dX8_digest_11 : decode cX8_digest 11 = .ok (.invokestatic 247, 3) := by decide +kernel
theorem dX8_digest_14 : decode cX8_digest 14 = .ok (.lstore_n 1, 1) := by decide +kernel
theorem dX8_digest_15 : decode cX8_digest 15 = .ok (.lload_n 1, 1) := by decide +kernel
theorem dX8_digest_16 : decode cX8_digest 16 = .ok (.aload_n 0, 1) := by decide +kernel
theorem dX8_digest_17 : decode cX8_digest 17 = .ok (.getfield 12, 3) := by decide +kernel
theorem dX8_digest_20 : decode cX8_digest 20 = .ok (.iconst 0, 1) := by decide +kernel
theorem dX8_digest_21 : decode cX8_digest 21 = .ok (.invokevirtual 87, 3) := by decide +kernel
theorem dX8_digest_24 : decode cX8_digest 24 = .ok (.invokestatic 251, 3) := by decide +kernel
theorem dX8_digest_27 : decode cX8_digest 27 = .ok (.lstore_n 1, 1) := by decide +kernel
theorem dX8_digest_28 : decode cX8_digest 28 = .ok (.lload_n 1, 1) := by decide +kernel
theorem dX8_digest_29 : decode cX8_digest 29 = .ok (.aload_n 0, 1) := by decide +kernel
theorem dX8_digest_30 : decode cX8_digest 30 = .ok (.getfield 12, 3) := by decide +kernel
theorem dX8_digest_33 : decode cX8_digest 33 = .ok (.iconst 1, 1) := by decide +kernel
theorem dX8_digest_34 : decode cX8_digest 34 = .ok (.invokevirtual 87, 3) := by decide +kernel
theorem dX8_digest_37 : decode cX8_digest 37 = .ok (.invokestatic 251, 3) := by decide +kernel
theorem dX8_digest_40 : decode cX8_digest 40 = .ok (.lstore_n 1, 1) := by decide +kernel
theorem dX8_digest_41 : decode cX8_digest 41 = .ok (.lload_n 1, 1) := by decide +kernel
theorem dX8_digest_42 : decode cX8_digest 42 = .ok (.aload_n 0, 1) := by decide +kernel
theorem dX8_digest_43 : decode cX8_digest 43 = .ok (.invokevirtual 173, 3) := by decide +kernel
theorem dX8_digest_46 : decode cX8_digest 46 = .ok (.i2l, 1) := by decide +kernel
theorem dX8_digest_47 : decode cX8_digest 47 = .ok (.invokestatic 247, 3) := by decide +kernel
theorem dX8_digest_50 : decode cX8_digest 50 = .ok (.lstore_n 1, 1) := by decide +kernel
theorem dX8_digest_51 : decode cX8_digest 51 = .ok (.lload_n 1, 1) := by decide +kernel
theorem dX8_digest_52 : decode cX8_digest 52 = .ok (.aload_n 0, 1) := by decide +kernel
theorem dX8_digest_53 : decode cX8_digest 53 = .ok (.invokevirtual 255, 3) := by decide +kernel
theorem dX8_digest_56 : decode cX8_digest 56 = .ok (.i2l, 1) := by decide +kernel
theorem dX8_digest_57 : decode cX8_digest 57 = .ok (.invokestatic 247, 3) := by decide +kernel
theorem dX8_digest_60 : decode cX8_digest 60 = .ok (.lstore_n 1, 1) := by decide +kernel
theorem dX8_digest_61 : decode cX8_digest 61 = .ok (.lload_n 1, 1) := by decide +kernel
theorem dX8_digest_62 : decode cX8_digest 62 = .ok (.aload_n 0, 1) := by decide +kernel
theorem dX8_digest_63 : decode cX8_digest 63 = .ok (.invokevirtual 258, 3) := by decide +kernel
theorem dX8_digest_66 : decode cX8_digest 66 = .ok (.i2l, 1) := by decide +kernel
theorem dX8_digest_67 : decode cX8_digest 67 = .ok (.invokestatic 247, 3) := by decide +kernel
theorem dX8_digest_70 : decode cX8_digest 70 = .ok (.lstore_n 1, 1) := by decide +kernel
theorem dX8_digest_71 : decode cX8_digest 71 = .ok (.lload_n 1, 1) := by decide +kernel
theorem dX8_digest_72 : decode cX8_digest 72 = .ok (.aload_n 0, 1) := by decide +kernel
theorem dX8_digest_73 : decode cX8_digest 73 = .ok (.invokevirtual 208, 3) := by decide +kernel
theorem dX8_digest_76 : decode cX8_digest 76 = .ok (.i2l, 1) := by decide +kernel
theorem dX8_digest_77 : decode cX8_digest 77 = .ok (.invokestatic 247, 3) := by decide +kernel
theorem dX8_digest_80 : decode cX8_digest 80 = .ok (.lstore_n 1, 1) := by decide +kernel
theorem dX8_digest_81 : decode cX8_digest 81 = .ok (.lload_n 1, 1) := by decide +kernel
theorem dX8_digest_82 : decode cX8_digest 82 = .ok (.aload_n 0, 1) := by decide +kernel
theorem dX8_digest_83 : decode cX8_digest 83 = .ok (.invokevirtual 261, 3) := by decide +kernel
theorem dX8_digest_86 : decode cX8_digest 86 = .ok (.i2l, 1) := by decide +kernel
theorem dX8_digest_87 : decode cX8_digest 87 = .ok (.invokestatic 247, 3) := by decide +kernel
theorem dX8_digest_90 : decode cX8_digest 90 = .ok (.lstore_n 1, 1) := by decide +kernel
theorem dX8_digest_91 : decode cX8_digest 91 = .ok (.lload_n 1, 1) := by decide +kernel
theorem dX8_digest_92 : decode cX8_digest 92 = .ok (.aload_n 0, 1) := by decide +kernel
theorem dX8_digest_93 : decode cX8_digest 93 = .ok (.invokevirtual 264, 3) := by decide +kernel
theorem dX8_digest_96 : decode cX8_digest 96 = .ok (.i2l, 1) := by decide +kernel
theorem dX8_digest_97 : decode cX8_digest 97 = .ok (.invokestatic 247, 3) := by decide +kernel
theorem dX8_digest_100 : decode cX8_digest 100 = .ok (.lstore_n 1, 1) := by decide +kernel
theorem dX8_digest_101 : decode cX8_digest 101 = .ok (.lload_n 1, 1) := by decide +kernel
theorem dX8_digest_102 : decode cX8_digest 102 = .ok (.aload_n 0, 1) := by decide +kernel
theorem dX8_digest_103 : decode cX8_digest 103 = .ok (.invokevirtual 267, 3) := by decide +kernel
theorem dX8_digest_106 : decode cX8_digest 106 = .ok (.i2l, 1) := by decide +kernel
theorem dX8_digest_107 : decode cX8_digest 107 = .ok (.invokestatic 247, 3) := by decide +kernel
theorem dX8_digest_110 : decode cX8_digest 110 = .ok (.lstore_n 1, 1) := by decide +kernel
theorem dX8_digest_111 : decode cX8_digest 111 = .ok (.lload_n 1, 1) := by decide +kernel
theorem dX8_digest_112 : decode cX8_digest 112 = .ok (.aload_n 0, 1) := by decide +kernel
theorem dX8_digest_113 : decode cX8_digest 113 = .ok (.invokevirtual 270, 3) := by decide +kernel
theorem dX8_digest_116 : decode cX8_digest 116 = .ok (.i2l, 1) := by decide +kernel
theorem dX8_digest_117 : decode cX8_digest 117 = .ok (.invokestatic 247, 3) := by decide +kernel
theorem dX8_digest_120 : decode cX8_digest 120 = .ok (.lstore_n 1, 1) := by decide +kernel
theorem dX8_digest_121 : decode cX8_digest 121 = .ok (.lload_n 1, 1) := by decide +kernel
theorem dX8_digest_122 : decode cX8_digest 122 = .ok (.aload_n 0, 1) := by decide +kernel
theorem dX8_digest_123 : decode cX8_digest 123 = .ok (.invokevirtual 157, 3) := by decide +kernel
theorem dX8_digest_126 : decode cX8_digest 126 = .ok (.invokestatic 273, 3) := by decide +kernel
theorem dX8_digest_129 : decode cX8_digest 129 = .ok (.lstore_n 1, 1) := by decide +kernel
theorem dX8_digest_130 : decode cX8_digest 130 = .ok (.lload_n 1, 1) := by decide +kernel
theorem dX8_digest_131 : decode cX8_digest 131 = .ok (.aload_n 0, 1) := by decide +kernel
theorem dX8_digest_132 : decode cX8_digest 132 = .ok (.iconst 0, 1) := by decide +kernel
theorem dX8_digest_133 : decode cX8_digest 133 = .ok (.invokevirtual 277, 3) := by decide +kernel
theorem dX8_digest_136 : decode cX8_digest 136 = .ok (.i2l, 1) := by decide +kernel
theorem dX8_digest_137 : decode cX8_digest 137 = .ok (.invokestatic 247, 3) := by decide +kernel
theorem dX8_digest_140 : decode cX8_digest 140 = .ok (.lstore_n 1, 1) := by decide +kernel
theorem dX8_digest_141 : decode cX8_digest 141 = .ok (.lload_n 1, 1) := by decide +kernel
theorem dX8_digest_142 : decode cX8_digest 142 = .ok (.aload_n 0, 1) := by decide +kernel
theorem dX8_digest_143 : decode cX8_digest 143 = .ok (.iconst 1, 1) := by decide +kernel
theorem dX8_digest_144 : decode cX8_digest 144 = .ok (.invokevirtual 277, 3) := by decide +kernel
theorem dX8_digest_147 : decode cX8_digest 147 = .ok (.i2l, 1) := by decide +kernel
theorem dX8_digest_148 : decode cX8_digest 148 = .ok (.invokestatic 247, 3) := by decide +kernel
theorem dX8_digest_151 : decode cX8_digest 151 = .ok (.lstore_n 1, 1) := by decide +kernel
theorem dX8_digest_152 : decode cX8_digest 152 = .ok (.aload_n 0, 1) := by decide +kernel
theorem dX8_digest_153 : decode cX8_digest 153 = .ok (.lload_n 1, 1) := by decide +kernel
theorem dX8_digest_154 : decode cX8_digest 154 = .ok (.aload_n 0, 1) := by decide +kernel
theorem dX8_digest_155 : decode cX8_digest 155 = .ok (.invokevirtual 146, 3) := by decide +kernel
theorem dX8_digest_158 : decode cX8_digest 158 = .ok (.invokevirtual 280, 3) := by decide +kernel
theorem dX8_digest_161 : decode cX8_digest 161 = .ok (.lreturn, 1) := by decide +kernel
theorem dX8_mix_0 : decode cX8_mix 0 = .ok (.ldc2_w 284, 3) := by decide +kernel
theorem dX8_mix_3 : decode cX8_mix 3 = .ok (.lload_n 0, 1) := by decide +kernel
theorem dX8_mix_4 : decode cX8_mix 4 = .ok (.lmul, 1) := by decide +kernel
theorem dX8_mix_5 : decode cX8_mix 5 = .ok (.lload_n 2, 1) := by decide +kernel
theorem dX8_mix_6 : decode cX8_mix 6 = .ok (.ladd, 1) := by decide +kernel
theorem dX8_mix_7 : decode cX8_mix 7 = .ok (.lreturn, 1) := by decide +kernel
theorem dX8_mixText_0 : decode cX8_mixText 0 = .ok (.lload_n 0, 1) := by decide +kernel
theorem dX8_mixText_1 : decode cX8_mixText 1 = .ok (.aload_n 2, 1) := by decide +kernel
theorem dX8_mixText_2 : decode cX8_mixText 2 = .ok (.invokevirtual 95, 3) := by decide +kernel
theorem dX8_mixText_5 : decode cX8_mixText 5 = .ok (.i2l, 1) := by decide +kernel
theorem dX8_mixText_6 : decode cX8_mixText 6 = .ok (.invokestatic 247, 3) := by decide +kernel
theorem dX8_mixText_9 : decode cX8_mixText 9 = .ok (.lstore_n 3, 1) := by decide +kernel
theorem dX8_mixText_10 : decode cX8_mixText 10 = .ok (.iconst 0, 1) := by decide +kernel
theorem dX8_mixText_11 : decode cX8_mixText 11 = .ok (.istore 5, 2) := by decide +kernel
theorem dX8_mixText_13 : decode cX8_mixText 13 = .ok (.iload 5, 2) := by decide +kernel
theorem dX8_mixText_15 : decode cX8_mixText 15 = .ok (.aload_n 2, 1) := by decide +kernel
theorem dX8_mixText_16 : decode cX8_mixText 16 = .ok (.invokevirtual 95, 3) := by decide +kernel
theorem dX8_mixText_19 : decode cX8_mixText 19 = .ok (.if_icmp .ge 21, 3) := by decide +kernel
theorem dX8_mixText_22 : decode cX8_mixText 22 = .ok (.lload_n 3, 1) := by decide +kernel
theorem dX8_mixText_23 : decode cX8_mixText 23 = .ok (.aload_n 2, 1) := by decide +kernel
theorem dX8_mixText_24 : decode cX8_mixText 24 = .ok (.iload 5, 2) := by decide +kernel
theorem dX8_mixText_26 : decode cX8_mixText 26 = .ok (.invokevirtual 125, 3) := by decide +kernel
theorem dX8_mixText_29 : decode cX8_mixText 29 = .ok (.i2l, 1) := by decide +kernel
theorem dX8_mixText_30 : decode cX8_mixText 30 = .ok (.invokestatic 247, 3) := by decide +kernel
theorem dX8_mixText_33 : decode cX8_mixText 33 = .ok (.lstore_n 3, 1) := by decide +kernel
theorem dX8_mixText_34 : decode cX8_mixText 34 = .ok (.iinc 5 1, 3) := by decide +kernel
theorem dX8_mixText_37 : decode cX8_mixText 37 = .ok (.goto (-24), 3) := by decide +kernel
theorem dX8_mixText_40 : decode cX8_mixText 40 = .ok (.lload_n 3, 1) := by decide +kernel
theorem dX8_mixText_41 : decode cX8_mixText 41 = .ok (.lreturn, 1) := by decide +kernel
theorem dX8_mixWay_0 : decode cX8_mixWay 0 = .ok (.lload_n 0, 1) := by decide +kernel
theorem dX8_mixWay_1 : decode cX8_mixWay 1 = .ok (.lstore_n 3, 1) := by decide +kernel
theorem dX8_mixWay_2 : decode cX8_mixWay 2 = .ok (.iconst 0, 1) := by decide +kernel
theorem dX8_mixWay_3 : decode cX8_mixWay 3 = .ok (.istore 5, 2) := by decide +kernel
theorem dX8_mixWay_5 : decode cX8_mixWay 5 = .ok (.iload 5, 2) := by decide +kernel
theorem dX8_mixWay_7 : decode cX8_mixWay 7 = .ok (.aload_n 2, 1) := by decide +kernel
theorem dX8_mixWay_8 : decode cX8_mixWay 8 = .ok (.invokevirtual 161, 3) := by decide +kernel
theorem dX8_mixWay_11 : decode cX8_mixWay 11 = .ok (.if_icmp .ge 21, 3) := by decide +kernel
theorem dX8_mixWay_14 : decode cX8_mixWay 14 = .ok (.lload_n 3, 1) := by decide +kernel
theorem dX8_mixWay_15 : decode cX8_mixWay 15 = .ok (.aload_n 2, 1) := by decide +kernel
theorem dX8_mixWay_16 : decode cX8_mixWay 16 = .ok (.iload 5, 2) := by decide +kernel
theorem dX8_mixWay_18 : decode cX8_mixWay 18 = .ok (.invokevirtual 164, 3) := by decide +kernel
theorem dX8_mixWay_21 : decode cX8_mixWay 21 = .ok (.i2l, 1) := by decide +kernel
theorem dX8_mixWay_22 : decode cX8_mixWay 22 = .ok (.invokestatic 247, 3) := by decide +kernel
theorem dX8_mixWay_25 : decode cX8_mixWay 25 = .ok (.lstore_n 3, 1) := by decide +kernel
theorem dX8_mixWay_26 : decode cX8_mixWay 26 = .ok (.iinc 5 1, 3) := by decide +kernel
theorem dX8_mixWay_29 : decode cX8_mixWay 29 = .ok (.goto (-24), 3) := by decide +kernel
theorem dX8_mixWay_32 : decode cX8_mixWay 32 = .ok (.lload_n 3, 1) := by decide +kernel
theorem dX8_mixWay_33 : decode cX8_mixWay 33 = .ok (.lreturn, 1) := by decide +kernel
theorem dX8_mixGrid_0 : decode cX8_mixGrid 0 = .ok (.aload_n 0, 1) := by decide +kernel
theorem dX8_mixGrid_1 : decode cX8_mixGrid 1 = .ok (.getfield 12, 3) := by decide +kernel
theorem dX8_mixGrid_4 : decode cX8_mixGrid 4 = .ok (.iconst 0, 1) := by decide +kernel
theorem dX8_mixGrid_5 : decode cX8_mixGrid 5 = .ok (.invokevirtual 87, 3) := by decide +kernel
theorem dX8_mixGrid_8 : decode cX8_mixGrid 8 = .ok (.invokevirtual 95, 3) := by decide +kernel
theorem dX8_mixGrid_11 : decode cX8_mixGrid 11 = .ok (.istore 4, 2) := by decide +kernel
theorem dX8_mixGrid_13 : decode cX8_mixGrid 13 = .ok (.aload_n 0, 1) := by decide +kernel
theorem dX8_mixGrid_14 : decode cX8_mixGrid 14 = .ok (.getfield 12, 3) := by decide +kernel
theorem dX8_mixGrid_17 : decode cX8_mixGrid 17 = .ok (.iconst 1, 1) := by decide +kernel
theorem dX8_mixGrid_18 : decode cX8_mixGrid 18 = .ok (.invokevirtual 87, 3) := by decide +kernel
theorem dX8_mixGrid_21 : decode cX8_mixGrid 21 = .ok (.invokevirtual 95, 3) := by decide +kernel
theorem dX8_mixGrid_24 : decode cX8_mixGrid 24 = .ok (.istore 5, 2) := by decide +kernel
theorem dX8_mixGrid_26 : decode cX8_mixGrid 26 = .ok (.lload_n 1, 1) := by decide +kernel
theorem dX8_mixGrid_27 : decode cX8_mixGrid 27 = .ok (.lstore 6, 2) := by decide +kernel
theorem dX8_mixGrid_29 : decode cX8_mixGrid 29 = .ok (.iconst 0, 1) := by decide +kernel
theorem dX8_mixGrid_30 : decode cX8_mixGrid 30 = .ok (.istore 8, 2) := by decide +kernel
theorem dX8_mixGrid_32 : decode cX8_mixGrid 32 = .ok (.iload 8, 2) := by decide +kernel
theorem dX8_mixGrid_34 : decode cX8_mixGrid 34 = .ok (.iload 4, 2) := by decide +kernel
theorem dX8_mixGrid_36 : decode cX8_mixGrid 36 = .ok (.if_icmp .gt 41, 3) := by decide +kernel
theorem dX8_mixGrid_39 : decode cX8_mixGrid 39 = .ok (.iconst 0, 1) := by decide +kernel
theorem dX8_mixGrid_40 : decode cX8_mixGrid 40 = .ok (.istore 9, 2) := by decide +kernel
theorem dX8_mixGrid_42 : decode cX8_mixGrid 42 = .ok (.iload 9, 2) := by decide +kernel
theorem dX8_mixGrid_44 : decode cX8_mixGrid 44 = .ok (.iload 5, 2) := by decide +kernel
theorem dX8_mixGrid_46 : decode cX8_mixGrid 46 = .ok (.if_icmp .gt 25, 3) := by decide +kernel
theorem dX8_mixGrid_49 : decode cX8_mixGrid 49 = .ok (.lload 6, 2) := by decide +kernel
theorem dX8_mixGrid_51 : decode cX8_mixGrid 51 = .ok (.aload_n 3, 1) := by decide +kernel
theorem dX8_mixGrid_52 : decode cX8_mixGrid 52 = .ok (.iload 8, 2) := by decide +kernel
theorem dX8_mixGrid_54 : decode cX8_mixGrid 54 = .ok (.iload 9, 2) := by decide +kernel
theorem dX8_mixGrid_56 : decode cX8_mixGrid 56 = .ok (.invokevirtual 150, 3) := by decide +kernel
theorem dX8_mixGrid_59 : decode cX8_mixGrid 59 = .ok (.i2l, 1) := by decide +kernel
theorem dX8_mixGrid_60 : decode cX8_mixGrid 60 = .ok (.invokestatic 247, 3) := by decide +kernel
theorem dX8_mixGrid_63 : decode cX8_mixGrid 63 = .ok (.lstore 6, 2) := by decide +kernel
theorem dX8_mixGrid_65 : decode cX8_mixGrid 65 = .ok (.iinc 9 1, 3) := by decide +kernel
theorem dX8_mixGrid_68 : decode cX8_mixGrid 68 = .ok (.goto (-26), 3) := by decide +kernel
theorem dX8_mixGrid_71 : decode cX8_mixGrid 71 = .ok (.iinc 8 1, 3) := by decide +kernel
theorem dX8_mixGrid_74 : decode cX8_mixGrid 74 = .ok (.goto (-42), 3) := by decide +kernel
theorem dX8_mixGrid_77 : decode cX8_mixGrid 77 = .ok (.lload 6, 2) := by decide +kernel
theorem dX8_mixGrid_79 : decode cX8_mixGrid 79 = .ok (.lreturn, 1) := by decide +kernel
theorem dX8_currentDistances_0 : decode cX8_currentDistances 0 = .ok (.aload_n 0, 1) := by decide +kernel
theorem dX8_currentDistances_1 : decode cX8_currentDistances 1 = .ok (.getfield 33, 3) := by decide +kernel
theorem dX8_currentDistances_4 : decode cX8_currentDistances 4 = .ok (.aload_n 0, 1) := by decide +kernel
theorem dX8_currentDistances_5 : decode cX8_currentDistances 5 = .ok (.getfield 12, 3) := by decide +kernel
theorem dX8_currentDistances_8 : decode cX8_currentDistances 8 = .ok (.iconst 0, 1) := by decide +kernel
theorem dX8_currentDistances_9 : decode cX8_currentDistances 9 = .ok (.invokevirtual 87, 3) := by decide +kernel
theorem dX8_currentDistances_12 : decode cX8_currentDistances 12 = .ok (.aload_n 0, 1) := by decide +kernel
theorem dX8_currentDistances_13 : decode cX8_currentDistances 13 = .ok (.getfield 12, 3) := by decide +kernel
theorem dX8_currentDistances_16 : decode cX8_currentDistances 16 = .ok (.iconst 1, 1) := by decide +kernel
theorem dX8_currentDistances_17 : decode cX8_currentDistances 17 = .ok (.invokevirtual 87, 3) := by decide +kernel
theorem dX8_currentDistances_20 : decode cX8_currentDistances 20 = .ok (.iconst 1, 1) := by decide +kernel
theorem dX8_currentDistances_21 : decode cX8_currentDistances 21 = .ok (.invokevirtual 286, 3) := by decide +kernel
theorem dX8_currentDistances_24 : decode cX8_currentDistances 24 = .ok (.aload_n 0, 1) := by decide +kernel
theorem dX8_currentDistances_25 : decode cX8_currentDistances 25 = .ok (.getfield 33, 3) := by decide +kernel
theorem dX8_currentDistances_28 : decode cX8_currentDistances 28 = .ok (.areturn, 1) := by decide +kernel
theorem dX8_currentSearch_0 : decode cX8_currentSearch 0 = .ok (.aload_n 0, 1) := by decide +kernel
theorem dX8_currentSearch_1 : decode cX8_currentSearch 1 = .ok (.getfield 37, 3) := by decide +kernel
theorem dX8_currentSearch_4 : decode cX8_currentSearch 4 = .ok (.aload_n 0, 1) := by decide +kernel
theorem dX8_currentSearch_5 : decode cX8_currentSearch 5 = .ok (.getfield 12, 3) := by decide +kernel
theorem dX8_currentSearch_8 : decode cX8_currentSearch 8 = .ok (.iconst 0, 1) := by decide +kernel
theorem dX8_currentSearch_9 : decode cX8_currentSearch 9 = .ok (.invokevirtual 87, 3) := by decide +kernel
theorem dX8_currentSearch_12 : decode cX8_currentSearch 12 = .ok (.aload_n 0, 1) := by decide +kernel
theorem dX8_currentSearch_13 : decode cX8_currentSearch 13 = .ok (.getfield 12, 3) := by decide +kernel
theorem dX8_currentSearch_16 : decode cX8_currentSearch 16 = .ok (.iconst 1, 1) := by decide +kernel
theorem dX8_currentSearch_17 : decode cX8_currentSearch 17 = .ok (.invokevirtual 87, 3) := by decide +kernel
theorem dX8_currentSearch_20 : decode cX8_currentSearch 20 = .ok (.iconst 0, 1) := by decide +kernel
theorem dX8_currentSearch_21 : decode cX8_currentSearch 21 = .ok (.invokevirtual 286, 3) := by decide +kernel
theorem dX8_currentSearch_24 : decode cX8_currentSearch 24 = .ok (.aload_n 0, 1) := by decide +kernel
theorem dX8_currentSearch_25 : decode cX8_currentSearch 25 = .ok (.getfield 37, 3) := by decide +kernel
theorem dX8_currentSearch_28 : decode cX8_currentSearch 28 = .ok (.areturn, 1) := by decide +kernel
theorem dX8_currentWay_0 : decode cX8_currentWay 0 = .ok (.aload_n 0, 1) := by decide +kernel
theorem dX8_currentWay_1 : decode cX8_currentWay 1 = .ok (.getfield 43, 3) := by decide +kernel
theorem dX8_currentWay_4 : decode cX8_currentWay 4 = .ok (.aload_n 0, 1) := by decide +kernel
theorem dX8_currentWay_5 : decode cX8_currentWay 5 = .ok (.invokevirtual 146, 3) := by decide +kernel
theorem dX8_currentWay_8 : decode cX8_currentWay 8 = .ok (.aload_n 0, 1) := by decide +kernel
theorem dX8_currentWay_9 : decode cX8_currentWay 9 = .ok (.getfield 12, 3) := by decide +kernel
theorem dX8_currentWay_12 : decode cX8_currentWay 12 = .ok (.iconst 0, 1) := by decide +kernel
theorem dX8_currentWay_13 : decode cX8_currentWay 13 = .ok (.invokevirtual 87, 3) := by decide +kernel
theorem dX8_currentWay_16 : decode cX8_currentWay 16 = .ok (.aload_n 0, 1) := by decide +kernel
theorem dX8_currentWay_17 : decode cX8_currentWay 17 = .ok (.getfield 12, 3) := by decide +kernel
theorem dX8_currentWay_20 : decode cX8_currentWay 20 = .ok (.iconst 1, 1) := by decide +kernel
theorem dX8_currentWay_21 : decode cX8_currentWay 21 = .ok (.invokevirtual 87, 3) := by decide +kernel
theorem dX8_currentWay_24 : decode cX8_currentWay 24 = .ok (.invokevirtual 290, 3) := by decide +kernel
theorem dX8_currentWay_27 : decode cX8_currentWay 27 = .ok (.aload_n 0, 1) := by decide +kernel
theorem dX8_currentWay_28 : decode cX8_currentWay 28 = .ok (.getfield 43, 3) := by decide +kernel
theorem dX8_currentWay_31 : decode cX8_currentWay 31 = .ok (.areturn, 1) := by decide +kernel
theorem dX8_textOf_0 : decode cX8_textOf 0 = .ok (.iload_n 1, 1) := by decide +kernel
theorem dX8_textOf_1 : decode cX8_textOf 1 = .ok (.ifCond .eq 19, 3) := by decide +kernel
theorem dX8_textOf_4 : decode cX8_textOf 4 = .ok (.iload_n 1, 1) := by decide +kernel
theorem dX8_textOf_5 : decode cX8_textOf 5 = .ok (.iconst 1, 1) := by decide +kernel
theorem dX8_textOf_6 : decode cX8_textOf 6 = .ok (.if_icmp .eq 14, 3) := by decide +kernel
theorem dX8_textOf_9 : decode cX8_textOf 9 = .ok (.new 103, 3) := by decide +kernel
theorem dX8_textOf_12 : decode cX8_textOf 12 = .ok (.dup, 1) := by decide +kernel
theorem dX8_textOf_13 : decode cX8_textOf 13 = .ok (.ldc_w 293, 3) := by decide +kernel
theorem dX8_textOf_16 : decode cX8_textOf 16 = .ok (.invokespecial 107, 3) := by decide +kernel
theorem dX8_textOf_19 : decode cX8_textOf 19 = .ok (.athrow, 1) := by decide +kernel
theorem dX8_textOf_20 : decode cX8_textOf 20 = .ok (.aload_n 0, 1) := by decide +kernel
theorem dX8_textOf_21 : decode cX8_textOf 21 = .ok (.getfield 12, 3) := by decide +kernel
theorem dX8_textOf_24 : decode cX8_textOf 24 = .ok (.iload_n 1, 1) := by decide +kernel
theorem dX8_textOf_25 : decode cX8_textOf 25 = .ok (.invokevirtual 87, 3) := by decide +kernel
theorem dX8_textOf_28 : decode cX8_textOf 28 = .ok (.areturn, 1) := by decide +kernel
theorem dX8_checkPlace_0 : decode cX8_checkPlace 0 = .ok (.iload_n 1, 1) := by decide +kernel
theorem dX8_checkPlace_1 : decode cX8_checkPlace 1 = .ok (.ifCond .lt 11, 3) := by decide +kernel
theorem dX8_checkPlace_4 : decode cX8_checkPlace 4 = .ok (.iload_n 1, 1) := by decide +kernel
theorem dX8_checkPlace_5 : decode cX8_checkPlace 5 = .ok (.aload_n 0, 1) := by decide +kernel
theorem dX8_checkPlace_6 : decode cX8_checkPlace 6 = .ok (.invokevirtual 95, 3) := by decide +kernel
theorem dX8_checkPlace_9 : decode cX8_checkPlace 9 = .ok (.if_icmp .lt 14, 3) := by decide +kernel
theorem dX8_checkPlace_12 : decode cX8_checkPlace 12 = .ok (.new 103, 3) := by decide +kernel
theorem dX8_checkPlace_15 : decode cX8_checkPlace 15 = .ok (.dup, 1) := by decide +kernel
theorem dX8_checkPlace_16 : decode cX8_checkPlace 16 = .ok (.ldc_w 295, 3) := by decide +kernel
theorem dX8_checkPlace_19 : decode cX8_checkPlace 19 = .ok (.invokespecial 107, 3) := by decide +kernel
theorem dX8_checkPlace_22 : decode cX8_checkPlace 22 = .ok (.athrow, 1) := by decide +kernel
theorem dX8_checkPlace_23 : decode cX8_checkPlace 23 = .ok (.return_, 1) := by decide +kernel
theorem dX8_checkLetter_0 : decode cX8_checkLetter 0 = .ok (.iload_n 1, 1) := by decide +kernel
theorem dX8_checkLetter_1 : decode cX8_checkLetter 1 = .ok (.ifCond .lt 14, 3) := by decide +kernel
theorem dX8_checkLetter_4 : decode cX8_checkLetter 4 = .ok (.iload_n 1, 1) := by decide +kernel
theorem dX8_checkLetter_5 : decode cX8_checkLetter 5 = .ok (.aload_n 0, 1) := by decide +kernel
theorem dX8_checkLetter_6 : decode cX8_checkLetter 6 = .ok (.getfield 12, 3) := by decide +kernel
theorem dX8_checkLetter_9 : decode cX8_checkLetter 9 = .ok (.invokevirtual 68, 3) := by decide +kernel
theorem dX8_checkLetter_12 : decode cX8_checkLetter 12 = .ok (.if_icmp .lt 14, 3) := by decide +kernel
theorem dX8_checkLetter_15 : decode cX8_checkLetter 15 = .ok (.new 76, 3) := by decide +kernel
theorem dX8_checkLetter_18 : decode cX8_checkLetter 18 = .ok (.dup, 1) := by decide +kernel
theorem dX8_checkLetter_19 : decode cX8_checkLetter 19 = .ok (.ldc_w 297, 3) := by decide +kernel
theorem dX8_checkLetter_22 : decode cX8_checkLetter 22 = .ok (.invokespecial 80, 3) := by decide +kernel
theorem dX8_checkLetter_25 : decode cX8_checkLetter 25 = .ok (.athrow, 1) := by decide +kernel
theorem dX8_checkLetter_26 : decode cX8_checkLetter 26 = .ok (.return_, 1) := by decide +kernel
theorem dX8_checkPrefixes_0 : decode cX8_checkPrefixes 0 = .ok (.iload_n 1, 1) := by decide +kernel
theorem dX8_checkPrefixes_1 : decode cX8_checkPrefixes 1 = .ok (.ifCond .lt 38, 3) := by decide +kernel
theorem dX8_checkPrefixes_4 : decode cX8_checkPrefixes 4 = .ok (.iload_n 1, 1) := by decide +kernel
theorem dX8_checkPrefixes_5 : decode cX8_checkPrefixes 5 = .ok (.aload_n 0, 1) := by decide +kernel
theorem dX8_checkPrefixes_6 : decode cX8_checkPrefixes 6 = .ok (.getfield 12, 3) := by decide +kernel
theorem dX8_checkPrefixes_9 : decode cX8_checkPrefixes 9 = .ok (.iconst 0, 1) := by decide +kernel
theorem dX8_checkPrefixes_10 : decode cX8_checkPrefixes 10 = .ok (.invokevirtual 87, 3) := by decide +kernel
theorem dX8_checkPrefixes_13 : decode cX8_checkPrefixes 13 = .ok (.invokevirtual 95, 3) := by decide +kernel
theorem dX8_checkPrefixes_16 : decode cX8_checkPrefixes 16 = .ok (.if_icmp .gt 23, 3) := by decide +kernel
theorem dX8_checkPrefixes_19 : decode cX8_checkPrefixes 19 = .ok (.iload_n 2, 1) := by decide +kernel
theorem dX8_checkPrefixes_20 : decode cX8_checkPrefixes 20 = .ok (.iload_n 3, 1) := by decide +kernel
theorem dX8_checkPrefixes_21 : decode cX8_checkPrefixes 21 = .ok (.if_icmp .lt 18, 3) := by decide +kernel
theorem dX8_checkPrefixes_24 : decode cX8_checkPrefixes 24 = .ok (.iload_n 2, 1) := by decide +kernel
theorem dX8_checkPrefixes_25 : decode cX8_checkPrefixes 25 = .ok (.aload_n 0, 1) := by decide +kernel
theorem dX8_checkPrefixes_26 : decode cX8_checkPrefixes 26 = .ok (.getfield 12, 3) := by decide +kernel
theorem dX8_checkPrefixes_29 : decode cX8_checkPrefixes 29 = .ok (.iconst 1, 1) := by decide +kernel
theorem dX8_checkPrefixes_30 : decode cX8_checkPrefixes 30 = .ok (.invokevirtual 87, 3) := by decide +kernel
theorem dX8_checkPrefixes_33 : decode cX8_checkPrefixes 33 = .ok (.invokevirtual 95, 3) := by decide +kernel
theorem dX8_checkPrefixes_36 : decode cX8_checkPrefixes 36 = .ok (.if_icmp .le 14, 3) := by decide +kernel
theorem dX8_checkPrefixes_39 : decode cX8_checkPrefixes 39 = .ok (.new 103, 3) := by decide +kernel
theorem dX8_checkPrefixes_42 : decode cX8_checkPrefixes 42 = .ok (.dup, 1) := by decide +kernel
theorem dX8_checkPrefixes_43 : decode cX8_checkPrefixes 43 = .ok (.ldc_w 299, 3) := by decide +kernel
theorem dX8_checkPrefixes_46 : decode cX8_checkPrefixes 46 = .ok (.invokespecial 107, 3) := by decide +kernel
theorem dX8_checkPrefixes_49 : decode cX8_checkPrefixes 49 = .ok (.athrow, 1) := by decide +kernel
theorem dX8_checkPrefixes_50 : decode cX8_checkPrefixes 50 = .ok (.return_, 1) := by decide +kernel
theorem dX8_checkBound_0 : decode cX8_checkBound 0 = .ok (.iload_n 0, 1) := by decide +kernel
theorem dX8_checkBound_1 : decode cX8_checkBound 1 = .ok (.ifCond .lt 9, 3) := by decide +kernel
theorem dX8_checkBound_4 : decode cX8_checkBound 4 = .ok (.iload_n 0, 1) := by decide +kernel
theorem dX8_checkBound_5 : decode cX8_checkBound 5 = .ok (.bipush 20, 2) := by decide +kernel
theorem dX8_checkBound_7 : decode cX8_checkBound 7 = .ok (.if_icmp .le 14, 3) := by decide +kernel
theorem dX8_checkBound_10 : decode cX8_checkBound 10 = .ok (.new 76, 3) := by decide +kernel
theorem dX8_checkBound_13 : decode cX8_checkBound 13 = .ok (.dup, 1) := by decide +kernel
theorem dX8_checkBound_14 : decode cX8_checkBound 14 = .ok (.ldc_w 301, 3) := by decide +kernel
theorem dX8_checkBound_17 : decode cX8_checkBound 17 = .ok (.invokespecial 80, 3) := by decide +kernel
theorem dX8_checkBound_20 : decode cX8_checkBound 20 = .ok (.athrow, 1) := by decide +kernel
theorem dX8_checkBound_21 : decode cX8_checkBound 21 = .ok (.return_, 1) := by decide +kernel
theorem dX8_replaceCost_0 : decode cX8_replaceCost 0 = .ok (.iload_n 0, 1) := by decide +kernel
theorem dX8_replaceCost_1 : decode cX8_replaceCost 1 = .ok (.iload_n 1, 1) := by decide +kernel
theorem dX8_replaceCost_2 : decode cX8_replaceCost 2 = .ok (.if_icmp .ne 7, 3) := by decide +kernel
theorem dX8_replaceCost_5 : decode cX8_replaceCost 5 = .ok (.iconst 0, 1) := by decide +kernel
theorem dX8_replaceCost_6 : decode cX8_replaceCost 6 = .ok (.goto 4, 3) := by decide +kernel
theorem dX8_replaceCost_9 : decode cX8_replaceCost 9 = .ok (.iconst 1, 1) := by decide +kernel
theorem dX8_replaceCost_10 : decode cX8_replaceCost 10 = .ok (.ireturn, 1) := by decide +kernel
theorem dX8_leastCost_0 : decode cX8_leastCost 0 = .ok (.iload_n 0, 1) := by decide +kernel
theorem dX8_leastCost_1 : decode cX8_leastCost 1 = .ok (.iload_n 1, 1) := by decide +kernel
theorem dX8_leastCost_2 : decode cX8_leastCost 2 = .ok (.invokestatic 181, 3) := by decide +kernel
theorem dX8_leastCost_5 : decode cX8_leastCost 5 = .ok (.iconst 1, 1) := by decide +kernel
theorem dX8_leastCost_6 : decode cX8_leastCost 6 = .ok (.iadd, 1) := by decide +kernel
theorem dX8_leastCost_7 : decode cX8_leastCost 7 = .ok (.iload_n 2, 1) := by decide +kernel
theorem dX8_leastCost_8 : decode cX8_leastCost 8 = .ok (.iload_n 3, 1) := by decide +kernel
theorem dX8_leastCost_9 : decode cX8_leastCost 9 = .ok (.iadd, 1) := by decide +kernel
theorem dX8_leastCost_10 : decode cX8_leastCost 10 = .ok (.invokestatic 181, 3) := by decide +kernel
theorem dX8_leastCost_13 : decode cX8_leastCost 13 = .ok (.ireturn, 1) := by decide +kernel
theorem dX9_init_0 : decode cX9_init 0 = .ok (.aload_n 0, 1) := by decide +kernel
theorem dX9_init_1 : decode cX9_init 1 = .ok (.invokespecial 1, 3) := by decide +kernel
theorem dX9_init_4 : decode cX9_init 4 = .ok (.aload_n 0, 1) := by decide +kernel
theorem dX9_init_5 : decode cX9_init 5 = .ok (.bipush 43, 2) := by decide +kernel
theorem dX9_init_7 : decode cX9_init 7 = .ok (.newarray .int, 2) := by decide +kernel
theorem dX9_init_9 : decode cX9_init 9 = .ok (.putfield 7, 3) := by decide +kernel
theorem dX9_init_12 : decode cX9_init 12 = .ok (.aload_n 0, 1) := by decide +kernel
theorem dX9_init_13 : decode cX9_init 13 = .ok (.sipush 258, 3) := by decide +kernel
theorem dX9_init_16 : decode cX9_init 16 = .ok (.newarray .int, 2) := by decide +kernel
theorem dX9_init_18 : decode cX9_init 18 = .ok (.putfield 13, 3) := by decide +kernel
theorem dX9_init_21 : decode cX9_init 21 = .ok (.aload_n 0, 1) := by decide +kernel
theorem dX9_init_22 : decode cX9_init 22 = .ok (.iconst 2, 1) := by decide +kernel
theorem dX9_init_23 : decode cX9_init 23 = .ok (.putfield 16, 3) := by decide +kernel
theorem dX9_init_26 : decode cX9_init 26 = .ok (.aload_n 0, 1) := by decide +kernel
theorem dX9_init_27 : decode cX9_init 27 = .ok (.sipush 20736, 3) := by decide +kernel
theorem dX9_init_30 : decode cX9_init 30 = .ok (.newarray .boolean, 2) := by decide +kernel
theorem dX9_init_32 : decode cX9_init 32 = .ok (.putfield 20, 3) := by decide +kernel
theorem dX9_init_35 : decode cX9_init 35 = .ok (.aload_n 0, 1) := by decide +kernel
theorem dX9_init_36 : decode cX9_init 36 = .ok (.sipush 20736, 3) := by decide +kernel
theorem dX9_init_39 : decode cX9_init 39 = .ok (.newarray .int, 2) := by decide +kernel
theorem dX9_init_41 : decode cX9_init 41 = .ok (.putfield 24, 3) := by decide +kernel
theorem dX9_init_44 : decode cX9_init 44 = .ok (.aload_n 0, 1) := by decide +kernel
theorem dX9_init_45 : decode cX9_init 45 = .ok (.bipush 60, 2) := by decide +kernel
theorem dX9_init_47 : decode cX9_init 47 = .ok (.newarray .int, 2) := by decide +kernel
theorem dX9_init_49 : decode cX9_init 49 = .ok (.putfield 27, 3) := by decide +kernel
theorem dX9_init_52 : decode cX9_init 52 = .ok (.aload_n 0, 1) := by decide +kernel
theorem dX9_init_53 : decode cX9_init 53 = .ok (.sipush 441, 3) := by decide +kernel
theorem dX9_init_56 : decode cX9_init 56 = .ok (.newarray .int, 2) := by decide +kernel
theorem dX9_init_58 : decode cX9_init 58 = .ok (.putfield 30, 3) := by decide +kernel
theorem dX9_init_61 : decode cX9_init 61 = .ok (.aload_n 0, 1) := by decide +kernel
theorem dX9_init_62 : decode cX9_init 62 = .ok (.bipush 40, 2) := by decide +kernel
theorem dX9_init_64 : decode cX9_init 64 = .ok (.newarray .int, 2) := by decide +kernel
theorem dX9_init_66 : decode cX9_init 66 = .ok (.putfield 33, 3) := by decide +kernel
theorem dX9_init_69 : decode cX9_init 69 = .ok (.aload_n 0, 1) := by decide +kernel
theorem dX9_init_70 : decode cX9_init 70 = .ok (.getfield 7, 3) := by decide +kernel
theorem dX9_init_73 : decode cX9_init 73 = .ok (.iconst 2, 1) := by decide +kernel
theorem dX9_init_74 : decode cX9_init 74 = .ok (.iconst 4, 1) := by decide +kernel
theorem dX9_init_75 : decode cX9_init 75 = .ok (.iastore, 1) := by decide +kernel
theorem dX9_init_76 : decode cX9_init 76 = .ok (.return_, 1) := by decide +kernel
theorem dX9_thrown_0 : decode cX9_thrown 0 = .ok (.aload_n 0, 1) := by decide +kernel
theorem dX9_thrown_1 : decode cX9_thrown 1 = .ok (.getfield 36, 3) := by decide +kernel
theorem dX9_thrown_4 : decode cX9_thrown 4 = .ok (.ireturn, 1) := by decide +kernel
theorem dX9_throwing_0 : decode cX9_throwing 0 = .ok (.aload_n 0, 1) := by decide +kernel
theorem dX9_throwing_1 : decode cX9_throwing 1 = .ok (.iload_n 1, 1) := by decide +kernel
theorem dX9_throwing_2 : decode cX9_throwing 2 = .ok (.putfield 36, 3) := by decide +kernel
theorem dX9_throwing_5 : decode cX9_throwing 5 = .ok (.iconst 0, 1) := by decide +kernel
theorem dX9_throwing_6 : decode cX9_throwing 6 = .ok (.ireturn, 1) := by decide +kernel
theorem dX9_in_0 : decode cX9_in 0 = .ok (.iload_n 0, 1) := by decide +kernel
theorem dX9_in_1 : decode cX9_in 1 = .ok (.iload_n 1, 1) := by decide +kernel
theorem dX9_in_2 : decode cX9_in 2 = .ok (.if_icmp .lt 12, 3) := by decide +kernel
theorem dX9_in_5 : decode cX9_in 5 = .ok (.iload_n 0, 1) := by decide +kernel
theorem dX9_in_6 : decode cX9_in 6 = .ok (.iload_n 2, 1) := by decide +kernel
theorem dX9_in_7 : decode cX9_in 7 = .ok (.if_icmp .gt 7, 3) := by decide +kernel
theorem dX9_in_10 : decode cX9_in 10 = .ok (.iconst 1, 1) := by decide +kernel
theorem dX9_in_11 : decode cX9_in 11 = .ok (.goto 4, 3) := by decide +kernel
theorem dX9_in_14 : decode cX9_in 14 = .ok (.iconst 0, 1) := by decide +kernel
theorem dX9_in_15 : decode cX9_in 15 = .ok (.ireturn, 1) := by decide +kernel
theorem dX9_save_0 : decode cX9_save 0 = .ok (.aload_n 0, 1) := by decide +kernel
theorem dX9_save_1 : decode cX9_save 1 = .ok (.getfield 39, 3) := by decide +kernel
theorem dX9_save_4 : decode cX9_save 4 = .ok (.bipush 6, 2) := by decide +kernel
theorem dX9_save_6 : decode cX9_save 6 = .ok (.if_icmp .ne 43, 3) := by decide +kernel
theorem dX9_save_9 : decode cX9_save 9 = .ok (.iconst 0, 1) := by decide +kernel
theorem dX9_save_10 : decode cX9_save 10 = .ok (.istore_n 1, 1) := by decide +kernel
theorem dX9_save_11 : decode cX9_save 11 = .ok (.iload_n 1, 1) := by decide +kernel
theorem dX9_save_12 : decode cX9_save 12 = .ok (.sipush 215, 3) := by decide +kernel
theorem dX9_save_15 : decode cX9_save 15 = .ok (.if_icmp .ge 24, 3) := by decide +kernel
theorem dX9_save_18 : decode cX9_save 18 = .ok (.aload_n 0, 1) := by decide +kernel
theorem dX9_save_19 : decode cX9_save 19 = .ok (.getfield 13, 3) := by decide +kernel
theorem dX9_save_22 : decode cX9_save 22 = .ok (.iload_n 1, 1) := by decide +kernel
theorem dX9_save_23 : decode cX9_save 23 = .ok (.aload_n 0, 1) := by decide +kernel
theorem dX9_save_24 : decode cX9_save 24 = .ok (.getfield 13, 3) := by decide +kernel
theorem dX9_save_27 : decode cX9_save 27 = .ok (.bipush 43, 2) := by decide +kernel
theorem dX9_save_29 : decode cX9_save 29 = .ok (.iload_n 1, 1) := by decide +kernel
theorem dX9_save_30 : decode cX9_save 30 = .ok (.iadd, 1) := by decide +kernel
theorem dX9_save_31 : decode cX9_save 31 = .ok (.iaload, 1) := by decide +kernel
theorem dX9_save_32 : decode cX9_save 32 = .ok (.iastore, 1) := by decide +kernel
theorem dX9_save_33 : decode cX9_save 33 = .ok (.iinc 1 1, 3) := by decide +kernel
theorem dX9_save_36 : decode cX9_save 36 = .ok (.goto (-25), 3) := by decide +kernel
theorem dX9_save_39 : decode cX9_save 39 = .ok (.aload_n 0, 1) := by decide +kernel
theorem dX9_save_40 : decode cX9_save 40 = .ok (.dup, 1) := by decide +kernel
theorem dX9_save_41 : decode cX9_save 41 = .ok (.getfield 39, 3) := by decide +kernel
theorem dX9_save_44 : decode cX9_save 44 = .ok (.iconst 1, 1) := by decide +kernel
theorem dX9_save_45 : decode cX9_save 45 = .ok (.isub, 1) := by decide +kernel
theorem dX9_save_46 : decode cX9_save 46 = .ok (.putfield 39, 3) := by decide +kernel
theorem dX9_save_49 : decode cX9_save 49 = .ok (.iconst 0, 1) := by decide +kernel
theorem dX9_save_50 : decode cX9_save 50 = .ok (.istore_n 1, 1) := by decide +kernel
theorem dX9_save_51 : decode cX9_save 51 = .ok (.iload_n 1, 1) := by decide +kernel
theorem dX9_save_52 : decode cX9_save 52 = .ok (.bipush 43, 2) := by decide +kernel
theorem dX9_save_54 : decode cX9_save 54 = .ok (.if_icmp .ge 29, 3) := by decide +kernel
theorem dX9_save_57 : decode cX9_save 57 = .ok (.aload_n 0, 1) := by decide +kernel
theorem dX9_save_58 : decode cX9_save 58 = .ok (.getfield 13, 3) := by decide +kernel
theorem dX9_save_61 : decode cX9_save 61 = .ok (.bipush 43, 2) := by decide +kernel
theorem dX9_save_63 : decode cX9_save 63 = .ok (.aload_n 0, 1) := by decide +kernel
theorem dX9_save_64 : decode cX9_save 64 = .ok (.getfield 39, 3) := by decide +kernel
theorem dX9_save_67 : decode cX9_save 67 = .ok (.imul, 1) := by decide +kernel
theorem dX9_save_68 : decode cX9_save 68 = .ok (.iload_n 1, 1) := by decide +kernel
theorem dX9_save_69 : decode cX9_save 69 = .ok (.iadd, 1) := by decide +kernel
theorem dX9_save_70 : decode cX9_save 70 = .ok (.aload_n 0, 1) := by decide +kernel
theorem dX9_save_71 : decode cX9_save 71 = .ok (.getfield 7, 3) := by decide +kernel
theorem dX9_save_74 : decode cX9_save 74 = .ok (.iload_n 1, 1) := by decide +kernel
theorem dX9_save_75 : decode cX9_save 75 = .ok (.iaload, 1) := by decide +kernel
theorem dX9_save_76 : decode cX9_save 76 = .ok (.iastore, 1) := by decide +kernel
theorem dX9_save_77 : decode cX9_save 77 = .ok (.iinc 1 1, 3) := by decide +kernel
theorem dX9_save_80 : decode cX9_save 80 = .ok (.goto (-29), 3) := by decide +kernel
theorem dX9_save_83 : decode cX9_save 83 = .ok (.aload_n 0, 1) := by decide +kernel
theorem dX9_save_84 : decode cX9_save 84 = .ok (.dup, 1) := by decide +kernel
theorem dX9_save_85 : decode cX9_save 85 = .ok (.getfield 39, 3) := by decide +kernel
theorem dX9_save_88 : decode cX9_save 88 = .ok (.iconst 1, 1) := by decide +kernel
theorem dX9_save_89 : decode cX9_save 89 = .ok (.iadd, 1) := by decide +kernel
theorem dX9_save_90 : decode cX9_save 90 = .ok (.putfield 39, 3) := by decide +kernel
theorem dX9_save_93 : decode cX9_save 93 = .ok (.return_, 1) := by decide +kernel
theorem dX9_isText_0 : decode cX9_isText 0 = .ok (.iload_n 0, 1) := by decide +kernel
theorem dX9_isText_1 : decode cX9_isText 1 = .ok (.iconst 0, 1) := by decide +kernel
theorem dX9_isText_2 : decode cX9_isText 2 = .ok (.iconst 1, 1) := by decide +kernel
theorem dX9_isText_3 : decode cX9_isText 3 = .ok (.invokestatic 42, 3) := by decide +kernel
theorem dX9_isText_6 : decode cX9_isText 6 = .ok (.ireturn, 1) := by decide +kernel
theorem dX9_of_0 : decode cX9_of 0 = .ok (.aload_n 0, 1) := by decide +kernel
theorem dX9_of_1 : decode cX9_of 1 = .ok (.getfield 7, 3) := by decide +kernel
theorem dX9_of_4 : decode cX9_of 4 = .ok (.iconst 3, 1) := by decide +kernel
theorem dX9_of_5 : decode cX9_of 5 = .ok (.bipush 20, 2) := by decide +kernel
theorem dX9_of_7 : decode cX9_of 7 = .ok (.iload_n 1, 1) := by decide +kernel
theorem dX9_of_8 : decode cX9_of 8 = .ok (.imul, 1) := by decide +kernel
theorem dX9_of_9 : decode cX9_of 9 = .ok (.iadd, 1) := by decide +kernel
theorem dX9_of_10 : decode cX9_of 10 = .ok (.iload_n 2, 1) := by decide +kernel
theorem dX9_of_11 : decode cX9_of 11 = .ok (.iadd, 1) := by decide +kernel
theorem dX9_of_12 : decode cX9_of 12 = .ok (.iaload, 1) := by decide +kernel
theorem dX9_of_13 : decode cX9_of 13 = .ok (.ireturn, 1) := by decide +kernel
theorem dX9_isLetter_0 : decode cX9_isLetter 0 = .ok (.iload_n 1, 1) := by decide +kernel
theorem dX9_isLetter_1 : decode cX9_isLetter 1 = .ok (.iconst 0, 1) := by decide +kernel
theorem dX9_isLetter_2 : decode cX9_isLetter 2 = .ok (.aload_n 0, 1) := by decide +kernel
theorem dX9_isLetter_3 : decode cX9_isLetter 3 = .ok (.getfield 7, 3) := by decide +kernel
theorem dX9_isLetter_6 : decode cX9_isLetter 6 = .ok (.iconst 2, 1) := by decide +kernel
theorem dX9_isLetter_7 : decode cX9_isLetter 7 = .ok (.iaload, 1) := by decide +kernel
theorem dX9_isLetter_8 : decode cX9_isLetter 8 = .ok (.iconst 1, 1) := by decide +kernel
theorem dX9_isLetter_9 : decode cX9_isLetter 9 = .ok (.isub, 1) := by decide +kernel
theorem dX9_isLetter_10 : decode cX9_isLetter 10 = .ok (.invokestatic 42, 3) := by decide +kernel
theorem dX9_isLetter_13 : decode cX9_isLetter 13 = .ok (.ireturn, 1) := by decide +kernel
theorem dX9_least_0 : decode cX9_least 0 = .ok (.iload_n 0, 1) := by decide +kernel
theorem dX9_least_1 : decode cX9_least 1 = .ok (.iload_n 1, 1) := by decide +kernel
theorem dX9_least_2 : decode cX9_least 2 = .ok (.if_icmp .ge 7, 3) := by decide +kernel
theorem dX9_least_5 : decode cX9_least 5 = .ok (.iload_n 0, 1) := by decide +kernel
theorem dX9_least_6 : decode cX9_least 6 = .ok (.goto 4, 3) := by decide +kernel
theorem dX9_least_9 : decode cX9_least 9 = .ok (.iload_n 1, 1) := by decide +kernel
theorem dX9_least_10 : decode cX9_least 10 = .ok (.istore_n 3, 1) := by decide +kernel
theorem dX9_least_11 : decode cX9_least 11 = .ok (.iload_n 3, 1) := by decide +kernel
theorem dX9_least_12 : decode cX9_least 12 = .ok (.iload_n 2, 1) := by decide +kernel
theorem dX9_least_13 : decode cX9_least 13 = .ok (.if_icmp .ge 7, 3) := by decide +kernel
theorem dX9_least_16 : decode cX9_least 16 = .ok (.iload_n 3, 1) := by decide +kernel
theorem dX9_least_17 : decode cX9_least 17 = .ok (.goto 4, 3) := by decide +kernel
theorem dX9_least_20 : decode cX9_least 20 = .ok (.iload_n 2, 1) := by decide +kernel
theorem dX9_least_21 : decode cX9_least 21 = .ok (.ireturn, 1) := by decide +kernel
theorem dX9_d_0 : decode cX9_d 0 = .ok (.aload_n 0, 1) := by decide +kernel
theorem dX9_d_1 : decode cX9_d 1 = .ok (.getfield 30, 3) := by decide +kernel
theorem dX9_d_4 : decode cX9_d 4 = .ok (.bipush 21, 2) := by decide +kernel
theorem dX9_d_6 : decode cX9_d 6 = .ok (.iload_n 1, 1) := by decide +kernel
theorem dX9_d_7 : decode cX9_d 7 = .ok (.imul, 1) := by decide +kernel
theorem dX9_d_8 : decode cX9_d 8 = .ok (.iload_n 2, 1) := by decide +kernel
theorem dX9_d_9 : decode cX9_d 9 = .ok (.iadd, 1) := by decide +kernel
theorem dX9_d_10 : decode cX9_d 10 = .ok (.iaload, 1) := by decide +kernel
theorem dX9_d_11 : decode cX9_d 11 = .ok (.ireturn, 1) := by decide +kernel
theorem dX9_cost_0 : decode cX9_cost 0 = .ok (.aload_n 0, 1) := by decide +kernel
theorem dX9_cost_1 : decode cX9_cost 1 = .ok (.iconst 0, 1) := by decide +kernel
theorem dX9_cost_2 : decode cX9_cost 2 = .ok (.iload_n 1, 1) := by decide +kernel
theorem dX9_cost_3 : decode cX9_cost 3 = .ok (.iconst 1, 1) := by decide +kernel
theorem dX9_cost_4 : decode cX9_cost 4 = .ok (.isub, 1) := by decide +kernel
theorem dX9_cost_5 : decode cX9_cost 5 = .ok (.invokevirtual 46, 3) := by decide +kernel
theorem dX9_cost_8 : decode cX9_cost 8 = .ok (.aload_n 0, 1) := by decide +kernel
theorem dX9_cost_9 : decode cX9_cost 9 = .ok (.iconst 1, 1) := by decide +kernel
theorem dX9_cost_10 : decode cX9_cost 10 = .ok (.iload_n 2, 1) := by decide +kernel
theorem dX9_cost_11 : decode cX9_cost 11 = .ok (.iconst 1, 1) := by decide +kernel
theorem dX9_cost_12 : decode cX9_cost 12 = .ok (.isub, 1) := by decide +kernel
theorem dX9_cost_13 : decode cX9_cost 13 = .ok (.invokevirtual 46, 3) := by decide +kernel
theorem dX9_cost_16 : decode cX9_cost 16 = .ok (.if_icmp .ne 7, 3) := by decide +kernel
theorem dX9_cost_19 : decode cX9_cost 19 = .ok (.iconst 0, 1) := by decide +kernel
theorem dX9_cost_20 : decode cX9_cost 20 = .ok (.goto 4, 3) := by decide +kernel
theorem dX9_cost_23 : decode cX9_cost 23 = .ok (.iconst 1, 1) := by decide +kernel
theorem dX9_cost_24 : decode cX9_cost 24 = .ok (.ireturn, 1) := by decide +kernel
theorem dX9_lay_0 : decode cX9_lay 0 = .ok (.iconst 0, 1) := by decide +kernel
theorem dX9_lay_1 : decode cX9_lay 1 = .ok (.istore_n 2, 1) := by decide +kernel
theorem dX9_lay_2 : decode cX9_lay 2 = .ok (.iload_n 2, 1) := by decide +kernel
theorem dX9_lay_3 : decode cX9_lay 3 = .ok (.aload_n 0, 1) := by decide +kernel
theorem dX9_lay_4 : decode cX9_lay 4 = .ok (.getfield 7, 3) := by decide +kernel
theorem dX9_lay_7 : decode cX9_lay 7 = .ok (.iconst 0, 1) := by decide +kernel
theorem dX9_lay_8 : decode cX9_lay 8 = .ok (.iaload, 1) := by decide +kernel
theorem dX9_lay_9 : decode cX9_lay 9 = .ok (.if_icmp .gt 102, 3) := by decide +kernel
theorem dX9_lay_12 : decode cX9_lay 12 = .ok (.iconst 0, 1) := by decide +kernel
theorem dX9_lay_13 : decode cX9_lay 13 = .ok (.istore_n 3, 1) := by decide +kernel
theorem dX9_lay_14 : decode cX9_lay 14 = .ok (.iload_n 3, 1) := by decide +kernel
theorem dX9_lay_15 : decode cX9_lay 15 = .ok (.aload_n 0, 1) := by decide +kernel
theorem dX9_lay_16 : decode cX9_lay 16 = .ok (.getfield 7, 3) := by decide +kernel
theorem dX9_lay_19 : decode cX9_lay 19 = .ok (.iconst 1, 1) := by decide +kernel
theorem dX9_lay_20 : decode cX9_lay 20 = .ok (.iaload, 1) := by decide +kernel
theorem dX9_lay_21 : decode cX9_lay 21 = .ok (.if_icmp .gt 84, 3) := by decide +kernel
theorem dX9_lay_24 : decode cX9_lay 24 = .ok (.aload_n 0, 1) := by decide +kernel
theorem dX9_lay_25 : decode cX9_lay 25 = .ok (.getfield 30, 3) := by decide +kernel
theorem dX9_lay_28 : decode cX9_lay 28 = .ok (.bipush 21, 2) := by decide +kernel
theorem dX9_lay_30 : decode cX9_lay 30 = .ok (.iload_n 2, 1) := by decide +kernel
theorem dX9_lay_31 : decode cX9_lay 31 = .ok (.imul, 1) := by decide +kernel
theorem dX9_lay_32 : decode cX9_lay 32 = .ok (.iload_n 3, 1) := by decide +kernel
theorem dX9_lay_33 : decode cX9_lay 33 = .ok (.iadd, 1) := by decide +kernel
theorem dX9_lay_34 : decode cX9_lay 34 = .ok (.iload_n 3, 1) := by decide +kernel
theorem dX9_lay_35 : decode cX9_lay 35 = .ok (.ifCond .ne 15, 3) := by decide +kernel
theorem dX9_lay_38 : decode cX9_lay 38 = .ok (.iload_n 1, 1) := by decide +kernel
theorem dX9_lay_39 : decode cX9_lay 39 = .ok (.ifCond .eq 7, 3) := by decide +kernel
theorem dX9_lay_42 : decode cX9_lay 42 = .ok (.iconst 0, 1) := by decide +kernel
theorem dX9_lay_43 : decode cX9_lay 43 = .ok (.goto 55, 3) := by decide +kernel
theorem dX9_lay_46 : decode cX9_lay 46 = .ok (.iload_n 2, 1) := by decide +kernel
theorem dX9_lay_47 : decode cX9_lay 47 = .ok (.goto 51, 3) := by decide +kernel
theorem dX9_lay_50 : decode cX9_lay 50 = .ok (.iload_n 2, 1) := by decide +kernel
theorem dX9_lay_51 : decode cX9_lay 51 = .ok (.ifCond .ne 7, 3) := by decide +kernel
theorem dX9_lay_54 : decode cX9_lay 54 = .ok (.iload_n 3, 1) := by decide +kernel
theorem dX9_lay_55 : decode cX9_lay 55 = .ok (.goto 43, 3) := by decide +kernel
theorem dX9_lay_58 : decode cX9_lay 58 = .ok (.aload_n 0, 1) := by decide +kernel
theorem dX9_lay_59 : decode cX9_lay 59 = .ok (.iload_n 2, 1) := by decide +kernel
theorem dX9_lay_60 : decode cX9_lay 60 = .ok (.iconst 1, 1) := by decide +kernel
theorem dX9_lay_61 : decode cX9_lay 61 = .ok (.isub, 1) := by decide +kernel
theorem dX9_lay_62 : decode cX9_lay 62 = .ok (.iload_n 3, 1) := by decide +kernel
theorem dX9_lay_63 : decode cX9_lay 63 = .ok (.invokevirtual 50, 3) := by decide +kernel
theorem dX9_lay_66 : decode cX9_lay 66 = .ok (.iconst 1, 1) := by decide +kernel
theorem dX9_lay_67 : decode cX9_lay 67 = .ok (.iadd, 1) := by decide +kernel
theorem dX9_lay_68 : decode cX9_lay 68 = .ok (.aload_n 0, 1) := by decide +kernel
theorem dX9_lay_69 : decode cX9_lay 69 = .ok (.iload_n 2, 1) := by decide +kernel
theorem dX9_lay_70 : decode cX9_lay 70 = .ok (.iload_n 3, 1) := by decide +kernel
theorem dX9_lay_71 : decode cX9_lay 71 = .ok (.iconst 1, 1) := by decide +kernel
theorem dX9_lay_72 : decode cX9_lay 72 = .ok (.isub, 1) := by decide +kernel
theorem dX9_lay_73 : decode cX9_lay 73 = .ok (.invokevirtual 50, 3) := by decide +kernel
theorem dX9_lay_76 : decode cX9_lay 76 = .ok (.iconst 1, 1) := by decide +kernel
theorem dX9_lay_77 : decode cX9_lay 77 = .ok (.iadd, 1) := by decide +kernel
theorem dX9_lay_78 : decode cX9_lay 78 = .ok (.aload_n 0, 1) := by decide +kernel
theorem dX9_lay_79 : decode cX9_lay 79 = .ok (.iload_n 2, 1) := by decide +kernel
theorem dX9_lay_80 : decode cX9_lay 80 = .ok (.iconst 1, 1) := by decide +kernel
theorem dX9_lay_81 : decode cX9_lay 81 = .ok (.isub, 1) := by decide +kernel
theorem dX9_lay_82 : decode cX9_lay 82 = .ok (.iload_n 3, 1) := by decide +kernel
theorem dX9_lay_83 : decode cX9_lay 83 = .ok (.iconst 1, 1) := by decide +kernel
theorem dX9_lay_84 : decode cX9_lay 84 = .ok (.isub, 1) := by decide +kernel
theorem dX9_lay_85 : decode cX9_lay 85 = .ok (.invokevirtual 50, 3) := by decide +kernel
theorem dX9_lay_88 : decode cX9_lay 88 = .ok (.aload_n 0, 1) := by decide +kernel
theorem dX9_lay_89 : decode cX9_lay 89 = .ok (.iload_n 2, 1) := by decide +kernel
theorem dX9_lay_90 : decode cX9_lay 90 = .ok (.iload_n 3, 1) := by decide +kernel
theorem dX9_lay_91 : decode cX9_lay 91 = .ok (.invokevirtual 53, 3) := by decide +kernel
theorem dX9_lay_94 : decode cX9_lay 94 = .ok (.iadd, 1) := by decide +kernel
theorem dX9_lay_95 : decode cX9_lay 95 = .ok (.invokestatic 56, 3) := by decide +kernel
theorem dX9_lay_98 : decode cX9_lay 98 = .ok (.iastore, 1) := by decide +kernel
theorem dX9_lay_99 : decode cX9_lay 99 = .ok (.iinc 3 1, 3) := by decide +kernel
theorem dX9_lay_102 : decode cX9_lay 102 = .ok (.goto (-88), 3) := by decide +kernel
theorem dX9_lay_105 : decode cX9_lay 105 = .ok (.iinc 2 1, 3) := by decide +kernel
theorem dX9_lay_108 : decode cX9_lay 108 = .ok (.goto (-106), 3) := by decide +kernel
theorem dX9_lay_111 : decode cX9_lay 111 = .ok (.return_, 1) := by decide +kernel
theorem dX9_whole_0 : decode cX9_whole 0 = .ok (.aload_n 0, 1) := by decide +kernel
theorem dX9_whole_1 : decode cX9_whole 1 = .ok (.iconst 0, 1) := by decide +kernel
theorem dX9_whole_2 : decode cX9_whole 2 = .ok (.invokevirtual 60, 3) := by decide +kernel
theorem dX9_whole_5 : decode cX9_whole 5 = .ok (.aload_n 0, 1) := by decide +kernel
theorem dX9_whole_6 : decode cX9_whole 6 = .ok (.aload_n 0, 1) := by decide +kernel
theorem dX9_whole_7 : decode cX9_whole 7 = .ok (.getfield 7, 3) := by decide +kernel
theorem dX9_whole_10 : decode cX9_whole 10 = .ok (.iconst 0, 1) := by decide +kernel
theorem dX9_whole_11 : decode cX9_whole 11 = .ok (.iaload, 1) := by decide +kernel
theorem dX9_whole_12 : decode cX9_whole 12 = .ok (.aload_n 0, 1) := by decide +kernel
theorem dX9_whole_13 : decode cX9_whole 13 = .ok (.getfield 7, 3) := by decide +kernel
theorem dX9_whole_16 : decode cX9_whole 16 = .ok (.iconst 1, 1) := by decide +kernel
theorem dX9_whole_17 : decode cX9_whole 17 = .ok (.iaload, 1) := by decide +kernel
theorem dX9_whole_18 : decode cX9_whole 18 = .ok (.invokevirtual 50, 3) := by decide +kernel
theorem dX9_whole_21 : decode cX9_whole 21 = .ok (.ireturn, 1) := by decide +kernel
theorem dX9_layWay_0 : decode cX9_layWay 0 = .ok (.aload_n 0, 1) := by decide +kernel
theorem dX9_layWay_1 : decode cX9_layWay 1 = .ok (.iconst 0, 1) := by decide +kernel
theorem dX9_layWay_2 : decode cX9_layWay 2 = .ok (.invokevirtual 60, 3) := by decide +kernel
theorem dX9_layWay_5 : decode cX9_layWay 5 = .ok (.aload_n 0, 1) := by decide +kernel
theorem dX9_layWay_6 : decode cX9_layWay 6 = .ok (.getfield 7, 3) := by decide +kernel
theorem dX9_layWay_9 : decode cX9_layWay 9 = .ok (.iconst 0, 1) := by decide +kernel
theorem dX9_layWay_10 : decode cX9_layWay 10 = .ok (.iaload, 1) := by decide +kernel
theorem dX9_layWay_11 : decode cX9_layWay 11 = .ok (.istore_n 1, 1) := by decide +kernel
theorem dX9_layWay_12 : decode cX9_layWay 12 = .ok (.aload_n 0, 1) := by decide +kernel
theorem dX9_layWay_13 : decode cX9_layWay 13 = .ok (.getfield 7, 3) := by decide +kernel
theorem dX9_layWay_16 : decode cX9_layWay 16 = .ok (.iconst 1, 1) := by decide +kernel
theorem dX9_layWay_17 : decode cX9_layWay 17 = .ok (.iaload, 1) := by decide +kernel
theorem dX9_layWay_18 : decode cX9_layWay 18 = .ok (.istore_n 2, 1) := by decide +kernel
theorem dX9_layWay_19 : decode cX9_layWay 19 = .ok (.aload_n 0, 1) := by decide +kernel
theorem dX9_layWay_20 : decode cX9_layWay 20 = .ok (.iconst 0, 1) := by decide +kernel
theorem dX9_layWay_21 : decode cX9_layWay 21 = .ok (.putfield 64, 3) := by decide +kernel
theorem dX9_layWay_24 : decode cX9_layWay 24 = .ok (.iload_n 1, 1) := by decide +kernel
theorem dX9_layWay_25 : decode cX9_layWay 25 = .ok (.ifCond .gt 7, 3) := by decide +kernel
theorem dX9_layWay_28 : decode cX9_layWay 28 = .ok (.iload_n 2, 1) := by decide +kernel
theorem dX9_layWay_29 : decode cX9_layWay 29 = .ok (.ifCond .le 123, 3) := by decide +kernel
theorem dX9_layWay_32 : decode cX9_layWay 32 = .ok (.iconst 3, 1) := by decide +kernel
theorem dX9_layWay_33 : decode cX9_layWay 33 = .ok (.istore_n 3, 1) := by decide +kernel
theorem dX9_layWay_34 : decode cX9_layWay 34 = .ok (.iload_n 1, 1) := by decide +kernel
theorem dX9_layWay_35 : decode cX9_layWay 35 = .ok (.ifCond .le 43, 3) := by decide +kernel
theorem dX9_layWay_38 : decode cX9_layWay 38 = .ok (.iload_n 2, 1) := by decide +kernel
theorem dX9_layWay_39 : decode cX9_layWay 39 = .ok (.ifCond .le 39, 3) := by decide +kernel
theorem dX9_layWay_42 : decode cX9_layWay 42 = .ok (.aload_n 0, 1) := by decide +kernel
theorem dX9_layWay_43 : decode cX9_layWay 43 = .ok (.iload_n 1, 1) := by decide +kernel
theorem dX9_layWay_44 : decode cX9_layWay 44 = .ok (.iload_n 2, 1) := by decide +kernel
theorem dX9_layWay_45 : decode cX9_layWay 45 = .ok (.invokevirtual 50, 3) := by decide +kernel
theorem dX9_layWay_48 : decode cX9_layWay 48 = .ok (.aload_n 0, 1) := by decide +kernel
theorem dX9_layWay_49 : decode cX9_layWay 49 = .ok (.iload_n 1, 1) := by decide +kernel
theorem dX9_layWay_50 : decode cX9_layWay 50 = .ok (.iconst 1, 1) := by decide +kernel
theorem dX9_layWay_51 : decode cX9_layWay 51 = .ok (.isub, 1) := by decide +kernel
theorem dX9_layWay_52 : decode cX9_layWay 52 = .ok (.iload_n 2, 1) := by decide +kernel
theorem dX9_layWay_53 : decode cX9_layWay 53 = .ok (.iconst 1, 1) := by decide +kernel
theorem dX9_layWay_54 : decode cX9_layWay 54 = .ok (.isub, 1) := by decide +kernel
theorem dX9_layWay_55 : decode cX9_layWay 55 = .ok (.invokevirtual 50, 3) := by decide +kernel
theorem dX9_layWay_58 : decode cX9_layWay 58 = .ok (.aload_n 0, 1) := by decide +kernel
theorem dX9_layWay_59 : decode cX9_layWay 59 = .ok (.iload_n 1, 1) := by decide +kernel
theorem dX9_layWay_60 : decode cX9_layWay 60 = .ok (.iload_n 2, 1) := by decide +kernel
theorem dX9_layWay_61 : decode cX9_layWay 61 = .ok (.invokevirtual 53, 3) := by decide +kernel
theorem dX9_layWay_64 : decode cX9_layWay 64 = .ok (.iadd, 1) := by decide +kernel
theorem dX9_layWay_65 : decode cX9_layWay 65 = .ok (.if_icmp .ne 13, 3) := by decide +kernel
theorem dX9_layWay_68 : decode cX9_layWay 68 = .ok (.aload_n 0, 1) := by decide +kernel
theorem dX9_layWay_69 : decode cX9_layWay 69 = .ok (.iload_n 1, 1) := by decide +kernel
theorem dX9_layWay_70 : decode cX9_layWay 70 = .ok (.iload_n 2, 1) := by decide +kernel
theorem dX9_layWay_71 : decode cX9_layWay 71 = .ok (.invokevirtual 53, 3) := by decide +kernel
theorem dX9_layWay_74 : decode cX9_layWay 74 = .ok (.istore_n 3, 1) := by decide +kernel
theorem dX9_layWay_75 : decode cX9_layWay 75 = .ok (.goto 28, 3) := by decide +kernel
theorem dX9_layWay_78 : decode cX9_layWay 78 = .ok (.iload_n 1, 1) := by decide +kernel
theorem dX9_layWay_79 : decode cX9_layWay 79 = .ok (.ifCond .le 24, 3) := by decide +kernel
theorem dX9_layWay_82 : decode cX9_layWay 82 = .ok (.aload_n 0, 1) := by decide +kernel
theorem dX9_layWay_83 : decode cX9_layWay 83 = .ok (.iload_n 1, 1) := by decide +kernel
theorem dX9_layWay_84 : decode cX9_layWay 84 = .ok (.iload_n 2, 1) := by decide +kernel
theorem dX9_layWay_85 : decode cX9_layWay 85 = .ok (.invokevirtual 50, 3) := by decide +kernel
theorem dX9_layWay_88 : decode cX9_layWay 88 = .ok (.aload_n 0, 1) := by decide +kernel
theorem dX9_layWay_89 : decode cX9_layWay 89 = .ok (.iload_n 1, 1) := by decide +kernel
theorem dX9_layWay_90 : decode cX9_layWay 90 = .ok (.iconst 1, 1) := by decide +kernel
theorem dX9_layWay_91 : decode cX9_layWay 91 = .ok (.isub, 1) := by decide +kernel
theorem dX9_layWay_92 : decode cX9_layWay 92 = .ok (.iload_n 2, 1) := by decide +kernel
theorem dX9_layWay_93 : decode cX9_layWay 93 = .ok (.invokevirtual 50, 3) := by decide +kernel
theorem dX9_layWay_96 : decode cX9_layWay 96 = .ok (.iconst 1, 1) := by decide +kernel
theorem dX9_layWay_97 : decode cX9_layWay 97 = .ok (.iadd, 1) := by decide +kernel
theorem dX9_layWay_98 : decode cX9_layWay 98 = .ok (.if_icmp .ne 5, 3) := by decide +kernel
theorem dX9_layWay_101 : decode cX9_layWay 101 = .ok (.iconst 2, 1) := by decide +kernel
theorem dX9_layWay_102 : decode cX9_layWay 102 = .ok (.istore_n 3, 1) := by decide +kernel
theorem dX9_layWay_103 : decode cX9_layWay 103 = .ok (.aload_n 0, 1) := by decide +kernel
theorem dX9_layWay_104 : decode cX9_layWay 104 = .ok (.getfield 33, 3) := by decide +kernel
theorem dX9_layWay_107 : decode cX9_layWay 107 = .ok (.aload_n 0, 1) := by decide +kernel
theorem dX9_layWay_108 : decode cX9_layWay 108 = .ok (.getfield 64, 3) := by decide +kernel
theorem dX9_layWay_111 : decode cX9_layWay 111 = .ok (.iload_n 3, 1) := by decide +kernel
theorem dX9_layWay_112 : decode cX9_layWay 112 = .ok (.iastore, 1) := by decide +kernel
theorem dX9_layWay_113 : decode cX9_layWay 113 = .ok (.aload_n 0, 1) := by decide +kernel
theorem dX9_layWay_114 : decode cX9_layWay 114 = .ok (.dup, 1) := by decide +kernel
theorem dX9_layWay_115 : decode cX9_layWay 115 = .ok (.getfield 64, 3) := by decide +kernel
theorem dX9_layWay_118 : decode cX9_layWay 118 = .ok (.iconst 1, 1) := by decide +kernel
theorem dX9_layWay_119 : decode cX9_layWay 119 = .ok (.iadd, 1) := by decide +kernel
theorem dX9_layWay_120 : decode cX9_layWay 120 = .ok (.putfield 64, 3) := by decide +kernel
theorem dX9_layWay_123 : decode cX9_layWay 123 = .ok (.iload_n 1, 1) := by decide +kernel
theorem dX9_layWay_124 : decode cX9_layWay 124 = .ok (.iload_n 3, 1) := by decide +kernel
theorem dX9_layWay_125 : decode cX9_layWay 125 = .ok (.iconst 3, 1) := by decide +kernel
theorem dX9_layWay_126 : decode cX9_layWay 126 = .ok (.if_icmp .ne 7, 3) := by decide +kernel
theorem dX9_layWay_129 : decode cX9_layWay 129 = .ok (.iconst 0, 1) := by decide +kernel
theorem dX9_layWay_130 : decode cX9_layWay 130 = .ok (.goto 4, 3) := by decide +kernel
theorem dX9_layWay_133 : decode cX9_layWay 133 = .ok (.iconst 1, 1) := by decide +kernel
theorem dX9_layWay_134 : decode cX9_layWay 134 = .ok (.isub, 1) := by decide +kernel
theorem dX9_layWay_135 : decode cX9_layWay 135 = .ok (.istore_n 1, 1) := by decide +kernel
theorem dX9_layWay_136 : decode cX9_layWay 136 = .ok (.iload_n 2, 1) := by decide +kernel
theorem dX9_layWay_137 : decode cX9_layWay 137 = .ok (.iload_n 3, 1) := by decide +kernel
theorem dX9_layWay_138 : decode cX9_layWay 138 = .ok (.iconst 2, 1) := by decide +kernel
theorem dX9_layWay_139 : decode cX9_layWay 139 = .ok (.if_icmp .ne 7, 3) := by decide +kernel
theorem dX9_layWay_142 : decode cX9_layWay 142 = .ok (.iconst 0, 1) := by decide +kernel
theorem dX9_layWay_143 : decode cX9_layWay 143 = .ok (.goto 4, 3) := by decide +kernel
theorem dX9_layWay_146 : decode cX9_layWay 146 = .ok (.iconst 1, 1) := by decide +kernel
theorem dX9_layWay_147 : decode cX9_layWay 147 = .ok (.isub, 1) := by decide +kernel
theorem dX9_layWay_148 : decode cX9_layWay 148 = .ok (.istore_n 2, 1) := by decide +kernel
theorem dX9_layWay_149 : decode cX9_layWay 149 = .ok (.goto (-125), 3) := by decide +kernel
theorem dX9_layWay_152 : decode cX9_layWay 152 = .ok (.return_, 1) := by decide +kernel
theorem dX9_keyOf_0 : decode cX9_keyOf 0 = .ok (.iconst 0, 1) := by decide +kernel
theorem dX9_keyOf_1 : decode cX9_keyOf 1 = .ok (.istore_n 3, 1) := by decide +kernel
theorem dX9_keyOf_2 : decode cX9_keyOf 2 = .ok (.iconst 0, 1) := by decide +kernel
theorem dX9_keyOf_3 : decode cX9_keyOf 3 = .ok (.istore 4, 2) := by decide +kernel
theorem dX9_keyOf_5 : decode cX9_keyOf 5 = .ok (.iload 4, 2) := by decide +kernel
theorem dX9_keyOf_7 : decode cX9_keyOf 7 = .ok (.aload_n 0, 1) := by decide +kernel
theorem dX9_keyOf_8 : decode cX9_keyOf 8 = .ok (.getfield 16, 3) := by decide +kernel
theorem dX9_keyOf_11 : decode cX9_keyOf 11 = .ok (.if_icmp .ge 25, 3) := by decide +kernel
theorem dX9_keyOf_14 : decode cX9_keyOf 14 = .ok (.iconst 4, 1) := by decide +kernel
theorem dX9_keyOf_15 : decode cX9_keyOf 15 = .ok (.iload_n 3, 1) := by decide +kernel
theorem dX9_keyOf_16 : decode cX9_keyOf 16 = .ok (.imul, 1) := by decide +kernel
theorem dX9_keyOf_17 : decode cX9_keyOf 17 = .ok (.aload_n 0, 1) := by decide +kernel
theorem dX9_keyOf_18 : decode cX9_keyOf 18 = .ok (.iconst 0, 1) := by decide +kernel
theorem dX9_keyOf_19 : decode cX9_keyOf 19 = .ok (.iload_n 1, 1) := by decide +kernel
theorem dX9_keyOf_20 : decode cX9_keyOf 20 = .ok (.iload 4, 2) := by decide +kernel
theorem dX9_keyOf_22 : decode cX9_keyOf 22 = .ok (.iadd, 1) := by decide +kernel
theorem dX9_keyOf_23 : decode cX9_keyOf 23 = .ok (.iconst 1, 1) := by decide +kernel
theorem dX9_keyOf_24 : decode cX9_keyOf 24 = .ok (.isub, 1) := by decide +kernel
theorem dX9_keyOf_25 : decode cX9_keyOf 25 = .ok (.invokevirtual 46, 3) := by decide +kernel
theorem dX9_keyOf_28 : decode cX9_keyOf 28 = .ok (.iadd, 1) := by decide +kernel
theorem dX9_keyOf_29 : decode cX9_keyOf 29 = .ok (.istore_n 3, 1) := by decide +kernel
theorem dX9_keyOf_30 : decode cX9_keyOf 30 = .ok (.iinc 4 1, 3) := by decide +kernel
theorem dX9_keyOf_33 : decode cX9_keyOf 33 = .ok (.goto (-28), 3) := by decide +kernel
theorem dX9_keyOf_36 : decode cX9_keyOf 36 = .ok (.iconst 0, 1) := by decide +kernel
theorem dX9_keyOf_37 : decode cX9_keyOf 37 = .ok (.istore 4, 2) := by decide +kernel
theorem dX9_keyOf_39 : decode cX9_keyOf 39 = .ok (.iload 4, 2) := by decide +kernel
theorem dX9_keyOf_41 : decode cX9_keyOf 41 = .ok (.aload_n 0, 1) := by decide +kernel
theorem dX9_keyOf_42 : decode cX9_keyOf 42 = .ok (.getfield 16, 3) := by decide +kernel
theorem dX9_keyOf_45 : decode cX9_keyOf 45 = .ok (.if_icmp .ge 25, 3) := by decide +kernel
theorem dX9_keyOf_48 : decode cX9_keyOf 48 = .ok (.iconst 4, 1) := by decide +kernel
theorem dX9_keyOf_49 : decode cX9_keyOf 49 = .ok (.iload_n 3, 1) := by decide +kernel
theorem dX9_keyOf_50 : decode cX9_keyOf 50 = .ok (.imul, 1) := by decide +kernel
theorem dX9_keyOf_51 : decode cX9_keyOf 51 = .ok (.aload_n 0, 1) := by decide +kernel
theorem dX9_keyOf_52 : decode cX9_keyOf 52 = .ok (.iconst 1, 1) := by decide +kernel
theorem dX9_keyOf_53 : decode cX9_keyOf 53 = .ok (.iload_n 2, 1) := by decide +kernel
theorem dX9_keyOf_54 : decode cX9_keyOf 54 = .ok (.iload 4, 2) := by decide +kernel
theorem dX9_keyOf_56 : decode cX9_keyOf 56 = .ok (.iadd, 1) := by decide +kernel
theorem dX9_keyOf_57 : decode cX9_keyOf 57 = .ok (.iconst 1, 1) := by decide +kernel
theorem dX9_keyOf_58 : decode cX9_keyOf 58 = .ok (.isub, 1) := by decide +kernel
theorem dX9_keyOf_59 : decode cX9_keyOf 59 = .ok (.invokevirtual 46, 3) := by decide +kernel
theorem dX9_keyOf_62 : decode cX9_keyOf 62 = .ok (.iadd, 1) := by decide +kernel
theorem dX9_keyOf_63 : decode cX9_keyOf 63 = .ok (.istore_n 3, 1) := by decide +kernel
theorem dX9_keyOf_64 : decode cX9_keyOf 64 = .ok (.iinc 4 1, 3) := by decide +kernel
theorem dX9_keyOf_67 : decode cX9_keyOf 67 = .ok (.goto (-28), 3) := by decide +kernel
theorem dX9_keyOf_70 : decode cX9_keyOf 70 = .ok (.iconst 0, 1) := by decide +kernel
theorem dX9_keyOf_71 : decode cX9_keyOf 71 = .ok (.istore 4, 2) := by decide +kernel
theorem dX9_keyOf_73 : decode cX9_keyOf 73 = .ok (.iload 4, 2) := by decide +kernel
theorem dX9_keyOf_75 : decode cX9_keyOf 75 = .ok (.aload_n 0, 1) := by decide +kernel
theorem dX9_keyOf_76 : decode cX9_keyOf 76 = .ok (.getfield 16, 3) := by decide +kernel
theorem dX9_keyOf_79 : decode cX9_keyOf 79 = .ok (.if_icmp .ge 41, 3) := by decide +kernel
theorem dX9_keyOf_82 : decode cX9_keyOf 82 = .ok (.iconst 3, 1) := by decide +kernel
theorem dX9_keyOf_83 : decode cX9_keyOf 83 = .ok (.iload_n 3, 1) := by decide +kernel
theorem dX9_keyOf_84 : decode cX9_keyOf 84 = .ok (.imul, 1) := by decide +kernel
theorem dX9_keyOf_85 : decode cX9_keyOf 85 = .ok (.iconst 1, 1) := by decide +kernel
theorem dX9_keyOf_86 : decode cX9_keyOf 86 = .ok (.iadd, 1) := by decide +kernel
theorem dX9_keyOf_87 : decode cX9_keyOf 87 = .ok (.aload_n 0, 1) := by decide +kernel
theorem dX9_keyOf_88 : decode cX9_keyOf 88 = .ok (.iload_n 1, 1) := by decide +kernel
theorem dX9_keyOf_89 : decode cX9_keyOf 89 = .ok (.iconst 1, 1) := by decide +kernel
theorem dX9_keyOf_90 : decode cX9_keyOf 90 = .ok (.isub, 1) := by decide +kernel
theorem dX9_keyOf_91 : decode cX9_keyOf 91 = .ok (.iload_n 2, 1) := by decide +kernel
theorem dX9_keyOf_92 : decode cX9_keyOf 92 = .ok (.iload 4, 2) := by decide +kernel
theorem dX9_keyOf_94 : decode cX9_keyOf 94 = .ok (.iadd, 1) := by decide +kernel
theorem dX9_keyOf_95 : decode cX9_keyOf 95 = .ok (.invokevirtual 50, 3) := by decide +kernel
theorem dX9_keyOf_98 : decode cX9_keyOf 98 = .ok (.iadd, 1) := by decide +kernel
theorem dX9_keyOf_99 : decode cX9_keyOf 99 = .ok (.aload_n 0, 1) := by decide +kernel
theorem dX9_keyOf_100 : decode cX9_keyOf 100 = .ok (.iload_n 1, 1) := by decide +kernel
theorem dX9_keyOf_101 : decode cX9_keyOf 101 = .ok (.iconst 1, 1) := by decide +kernel
theorem dX9_keyOf_102 : decode cX9_keyOf 102 = .ok (.isub, 1) := by decide +kernel
theorem dX9_keyOf_103 : decode cX9_keyOf 103 = .ok (.iload_n 2, 1) := by decide +kernel
theorem dX9_keyOf_104 : decode cX9_keyOf 104 = .ok (.iload 4, 2) := by decide +kernel
theorem dX9_keyOf_106 : decode cX9_keyOf 106 = .ok (.iadd, 1) := by decide +kernel
theorem dX9_keyOf_107 : decode cX9_keyOf 107 = .ok (.iconst 1, 1) := by decide +kernel
theorem dX9_keyOf_108 : decode cX9_keyOf 108 = .ok (.isub, 1) := by decide +kernel
theorem dX9_keyOf_109 : decode cX9_keyOf 109 = .ok (.invokevirtual 50, 3) := by decide +kernel
theorem dX9_keyOf_112 : decode cX9_keyOf 112 = .ok (.isub, 1) := by decide +kernel
theorem dX9_keyOf_113 : decode cX9_keyOf 113 = .ok (.istore_n 3, 1) := by decide +kernel
theorem dX9_keyOf_114 : decode cX9_keyOf 114 = .ok (.iinc 4 1, 3) := by decide +kernel
theorem dX9_keyOf_117 : decode cX9_keyOf 117 = .ok (.goto (-44), 3) := by decide +kernel
theorem dX9_keyOf_120 : decode cX9_keyOf 120 = .ok (.iconst 0, 1) := by decide +kernel
theorem dX9_keyOf_121 : decode cX9_keyOf 121 = .ok (.istore 4, 2) := by decide +kernel
theorem dX9_keyOf_123 : decode cX9_keyOf 123 = .ok (.iload 4, 2) := by decide +kernel
theorem dX9_keyOf_125 : decode cX9_keyOf 125 = .ok (.aload_n 0, 1) := by decide +kernel
theorem dX9_keyOf_126 : decode cX9_keyOf 126 = .ok (.getfield 16, 3) := by decide +kernel
theorem dX9_keyOf_129 : decode cX9_keyOf 129 = .ok (.if_icmp .ge 41, 3) := by decide +kernel
theorem dX9_keyOf_132 : decode cX9_keyOf 132 = .ok (.iconst 3, 1) := by decide +kernel
theorem dX9_keyOf_133 : decode cX9_keyOf 133 = .ok (.iload_n 3, 1) := by decide +kernel
theorem dX9_keyOf_134 : decode cX9_keyOf 134 = .ok (.imul, 1) := by decide +kernel
theorem dX9_keyOf_135 : decode cX9_keyOf 135 = .ok (.iconst 1, 1) := by decide +kernel
theorem dX9_keyOf_136 : decode cX9_keyOf 136 = .ok (.iadd, 1) := by decide +kernel
theorem dX9_keyOf_137 : decode cX9_keyOf 137 = .ok (.aload_n 0, 1) := by decide +kernel
theorem dX9_keyOf_138 : decode cX9_keyOf 138 = .ok (.iload_n 1, 1) := by decide +kernel
theorem dX9_keyOf_139 : decode cX9_keyOf 139 = .ok (.iload 4, 2) := by decide +kernel
theorem dX9_keyOf_141 : decode cX9_keyOf 141 = .ok (.iadd, 1) := by decide +kernel
theorem dX9_keyOf_142 : decode cX9_keyOf 142 = .ok (.iload_n 2, 1) := by decide +kernel
theorem dX9_keyOf_143 : decode cX9_keyOf 143 = .ok (.iconst 1, 1) := by decide +kernel
theorem dX9_keyOf_144 : decode cX9_keyOf 144 = .ok (.isub, 1) := by decide +kernel
theorem dX9_keyOf_145 : decode cX9_keyOf 145 = .ok (.invokevirtual 50, 3) := by decide +kernel
theorem dX9_keyOf_148 : decode cX9_keyOf 148 = .ok (.iadd, 1) := by decide +kernel
theorem dX9_keyOf_149 : decode cX9_keyOf 149 = .ok (.aload_n 0, 1) := by decide +kernel
theorem dX9_keyOf_150 : decode cX9_keyOf 150 = .ok (.iload_n 1, 1) := by decide +kernel
theorem dX9_keyOf_151 : decode cX9_keyOf 151 = .ok (.iload 4, 2) := by decide +kernel
theorem dX9_keyOf_153 : decode cX9_keyOf 153 = .ok (.iadd, 1) := by decide +kernel
theorem dX9_keyOf_154 : decode cX9_keyOf 154 = .ok (.iconst 1, 1) := by decide +kernel
theorem dX9_keyOf_155 : decode cX9_keyOf 155 = .ok (.isub, 1) := by decide +kernel
theorem dX9_keyOf_156 : decode cX9_keyOf 156 = .ok (.iload_n 2, 1) := by decide +kernel
theorem dX9_keyOf_157 : decode cX9_keyOf 157 = .ok (.iconst 1, 1) := by decide +kernel
theorem dX9_keyOf_158 : decode cX9_keyOf 158 = .ok (.isub, 1) := by decide +kernel
theorem dX9_keyOf_159 : decode cX9_keyOf 159 = .ok (.invokevirtual 50, 3) := by decide +kernel
theorem dX9_keyOf_162 : decode cX9_keyOf 162 = .ok (.isub, 1) := by decide +kernel
theorem dX9_keyOf_163 : decode cX9_keyOf 163 = .ok (.istore_n 3, 1) := by decide +kernel
theorem dX9_keyOf_164 : decode cX9_keyOf 164 = .ok (.iinc 4 1, 3) := by decide +kernel
theorem dX9_keyOf_167 : decode cX9_keyOf 167 = .ok (.goto (-44), 3) := by decide +kernel
theorem dX9_keyOf_170 : decode cX9_keyOf 170 = .ok (.iload_n 3, 1) := by decide +kernel
theorem dX9_keyOf_171 : decode cX9_keyOf 171 = .ok (.ireturn, 1) := by decide +kernel
theorem dX9_goBlocks_0 : decode cX9_goBlocks 0 = .ok (.aload_n 0, 1) := by decide +kernel
theorem dX9_goBlocks_1 : decode cX9_goBlocks 1 = .ok (.iconst 0, 1) := by decide +kernel
theorem dX9_goBlocks_2 : decode cX9_goBlocks 2 = .ok (.invokevirtual 60, 3) := by decide +kernel
theorem dX9_goBlocks_5 : decode cX9_goBlocks 5 = .ok (.aload_n 0, 1) := by decide +kernel
theorem dX9_goBlocks_6 : decode cX9_goBlocks 6 = .ok (.dup, 1) := by decide +kernel
theorem dX9_goBlocks_7 : decode cX9_goBlocks 7 = .ok (.getfield 67, 3) := by decide +kernel
theorem dX9_goBlocks_10 : decode cX9_goBlocks 10 = .ok (.iconst 1, 1) := by decide +kernel
theorem dX9_goBlocks_11 : decode cX9_goBlocks 11 = .ok (.iadd, 1) := by decide +kernel
theorem dX9_goBlocks_12 : decode cX9_goBlocks 12 = .ok (.putfield 67, 3) := by decide +kernel
theorem dX9_goBlocks_15 : decode cX9_goBlocks 15 = .ok (.iconst 0, 1) := by decide +kernel
theorem dX9_goBlocks_16 : decode cX9_goBlocks 16 = .ok (.istore_n 2, 1) := by decide +kernel
theorem dX9_goBlocks_17 : decode cX9_goBlocks 17 = .ok (.iconst 1, 1) := by decide +kernel
theorem dX9_goBlocks_18 : decode cX9_goBlocks 18 = .ok (.istore_n 3, 1) := by decide +kernel
theorem dX9_goBlocks_19 : decode cX9_goBlocks 19 = .ok (.iload_n 3, 1) := by decide +kernel
theorem dX9_goBlocks_20 : decode cX9_goBlocks 20 = .ok (.aload_n 0, 1) := by decide +kernel
theorem dX9_goBlocks_21 : decode cX9_goBlocks 21 = .ok (.getfield 7, 3) := by decide +kernel
theorem dX9_goBlocks_24 : decode cX9_goBlocks 24 = .ok (.iconst 0, 1) := by decide +kernel
theorem dX9_goBlocks_25 : decode cX9_goBlocks 25 = .ok (.iaload, 1) := by decide +kernel
theorem dX9_goBlocks_26 : decode cX9_goBlocks 26 = .ok (.if_icmp .gt 251, 3) := by decide +kernel
theorem dX9_goBlocks_29 : decode cX9_goBlocks 29 = .ok (.iconst 1, 1) := by decide +kernel
theorem dX9_goBlocks_30 : decode cX9_goBlocks 30 = .ok (.istore 4, 2) := by decide +kernel
theorem dX9_goBlocks_32 : decode cX9_goBlocks 32 = .ok (.iload 4, 2) := by decide +kernel
theorem dX9_goBlocks_34 : decode cX9_goBlocks 34 = .ok (.aload_n 0, 1) := by decide +kernel
theorem dX9_goBlocks_35 : decode cX9_goBlocks 35 = .ok (.getfield 7, 3) := by decide +kernel
theorem dX9_goBlocks_38 : decode cX9_goBlocks 38 = .ok (.iconst 1, 1) := by decide +kernel
theorem dX9_goBlocks_39 : decode cX9_goBlocks 39 = .ok (.iaload, 1) := by decide +kernel
theorem dX9_goBlocks_40 : decode cX9_goBlocks 40 = .ok (.if_icmp .gt 227, 3) := by decide +kernel
theorem dX9_goBlocks_43 : decode cX9_goBlocks 43 = .ok (.iload_n 3, 1) := by decide +kernel
theorem dX9_goBlocks_44 : decode cX9_goBlocks 44 = .ok (.aload_n 0, 1) := by decide +kernel
theorem dX9_goBlocks_45 : decode cX9_goBlocks 45 = .ok (.getfield 16, 3) := by decide +kernel
theorem dX9_goBlocks_48 : decode cX9_goBlocks 48 = .ok (.iadd, 1) := by decide +kernel
theorem dX9_goBlocks_49 : decode cX9_goBlocks 49 = .ok (.iconst 1, 1) := by decide +kernel
theorem dX9_goBlocks_50 : decode cX9_goBlocks 50 = .ok (.isub, 1) := by decide +kernel
theorem dX9_goBlocks_51 : decode cX9_goBlocks 51 = .ok (.aload_n 0, 1) := by decide +kernel
theorem dX9_goBlocks_52 : decode cX9_goBlocks 52 = .ok (.getfield 7, 3) := by decide +kernel
theorem dX9_goBlocks_55 : decode cX9_goBlocks 55 = .ok (.iconst 0, 1) := by decide +kernel
theorem dX9_goBlocks_56 : decode cX9_goBlocks 56 = .ok (.iaload, 1) := by decide +kernel
theorem dX9_goBlocks_57 : decode cX9_goBlocks 57 = .ok (.if_icmp .gt 10, 3) := by decide +kernel
theorem dX9_goBlocks_60 : decode cX9_goBlocks 60 = .ok (.aload_n 0, 1) := by decide +kernel
theorem dX9_goBlocks_61 : decode cX9_goBlocks 61 = .ok (.getfield 16, 3) := by decide +kernel
theorem dX9_goBlocks_64 : decode cX9_goBlocks 64 = .ok (.goto 4, 3) := by decide +kernel
theorem dX9_goBlocks_67 : decode cX9_goBlocks 67 = .ok (.iconst 1, 1) := by decide +kernel
theorem dX9_goBlocks_68 : decode cX9_goBlocks 68 = .ok (.istore 5, 2) := by decide +kernel
theorem dX9_goBlocks_70 : decode cX9_goBlocks 70 = .ok (.iload 4, 2) := by decide +kernel
theorem dX9_goBlocks_72 : decode cX9_goBlocks 72 = .ok (.aload_n 0, 1) := by decide +kernel
theorem dX9_goBlocks_73 : decode cX9_goBlocks 73 = .ok (.getfield 16, 3) := by decide +kernel
theorem dX9_goBlocks_76 : decode cX9_goBlocks 76 = .ok (.iadd, 1) := by decide +kernel
theorem dX9_goBlocks_77 : decode cX9_goBlocks 77 = .ok (.iconst 1, 1) := by decide +kernel
theorem dX9_goBlocks_78 : decode cX9_goBlocks 78 = .ok (.isub, 1) := by decide +kernel
theorem dX9_goBlocks_79 : decode cX9_goBlocks 79 = .ok (.aload_n 0, 1) := by decide +kernel
theorem dX9_goBlocks_80 : decode cX9_goBlocks 80 = .ok (.getfield 7, 3) := by decide +kernel
theorem dX9_goBlocks_83 : decode cX9_goBlocks 83 = .ok (.iconst 1, 1) := by decide +kernel
theorem dX9_goBlocks_84 : decode cX9_goBlocks 84 = .ok (.iaload, 1) := by decide +kernel
theorem dX9_goBlocks_85 : decode cX9_goBlocks 85 = .ok (.if_icmp .gt 10, 3) := by decide +kernel
theorem dX9_goBlocks_88 : decode cX9_goBlocks 88 = .ok (.aload_n 0, 1) := by decide +kernel
theorem dX9_goBlocks_89 : decode cX9_goBlocks 89 = .ok (.getfield 16, 3) := by decide +kernel
theorem dX9_goBlocks_92 : decode cX9_goBlocks 92 = .ok (.goto 4, 3) := by decide +kernel
theorem dX9_goBlocks_95 : decode cX9_goBlocks 95 = .ok (.iconst 1, 1) := by decide +kernel
theorem dX9_goBlocks_96 : decode cX9_goBlocks 96 = .ok (.istore 6, 2) := by decide +kernel
theorem dX9_goBlocks_98 : decode cX9_goBlocks 98 = .ok (.iload 5, 2) := by decide +kernel
theorem dX9_goBlocks_100 : decode cX9_goBlocks 100 = .ok (.aload_n 0, 1) := by decide +kernel
theorem dX9_goBlocks_101 : decode cX9_goBlocks 101 = .ok (.getfield 16, 3) := by decide +kernel
theorem dX9_goBlocks_104 : decode cX9_goBlocks 104 = .ok (.if_icmp .ne 129, 3) := by decide +kernel
theorem dX9_goBlocks_107 : decode cX9_goBlocks 107 = .ok (.iload 6, 2) := by decide +kernel
theorem dX9_goBlocks_109 : decode cX9_goBlocks 109 = .ok (.aload_n 0, 1) := by decide +kernel
theorem dX9_goBlocks_110 : decode cX9_goBlocks 110 = .ok (.getfield 16, 3) := by decide +kernel
theorem dX9_goBlocks_113 : decode cX9_goBlocks 113 = .ok (.if_icmp .ne 120, 3) := by decide +kernel
theorem dX9_goBlocks_116 : decode cX9_goBlocks 116 = .ok (.aload_n 0, 1) := by decide +kernel
theorem dX9_goBlocks_117 : decode cX9_goBlocks 117 = .ok (.iload_n 3, 1) := by decide +kernel
theorem dX9_goBlocks_118 : decode cX9_goBlocks 118 = .ok (.iload 4, 2) := by decide +kernel
theorem dX9_goBlocks_120 : decode cX9_goBlocks 120 = .ok (.invokevirtual 70, 3) := by decide +kernel
theorem dX9_goBlocks_123 : decode cX9_goBlocks 123 = .ok (.istore 7, 2) := by decide +kernel
theorem dX9_goBlocks_125 : decode cX9_goBlocks 125 = .ok (.aload_n 0, 1) := by decide +kernel
theorem dX9_goBlocks_126 : decode cX9_goBlocks 126 = .ok (.getfield 20, 3) := by decide +kernel
theorem dX9_goBlocks_129 : decode cX9_goBlocks 129 = .ok (.iload 7, 2) := by decide +kernel
theorem dX9_goBlocks_131 : decode cX9_goBlocks 131 = .ok (.baload, 1) := by decide +kernel
theorem dX9_goBlocks_132 : decode cX9_goBlocks 132 = .ok (.ifCond .ne 17, 3) := by decide +kernel
theorem dX9_goBlocks_135 : decode cX9_goBlocks 135 = .ok (.aload_n 0, 1) := by decide +kernel
theorem dX9_goBlocks_136 : decode cX9_goBlocks 136 = .ok (.getfield 24, 3) := by decide +kernel
theorem dX9_goBlocks_139 : decode cX9_goBlocks 139 = .ok (.iload 7, 2) := by decide +kernel
theorem dX9_goBlocks_141 : decode cX9_goBlocks 141 = .ok (.iaload, 1) := by decide +kernel
theorem dX9_goBlocks_142 : decode cX9_goBlocks 142 = .ok (.aload_n 0, 1) := by decide +kernel
theorem dX9_goBlocks_143 : decode cX9_goBlocks 143 = .ok (.getfield 67, 3) := by decide +kernel
theorem dX9_goBlocks_146 : decode cX9_goBlocks 146 = .ok (.if_icmp .ne 7, 3) := by decide +kernel
theorem dX9_goBlocks_149 : decode cX9_goBlocks 149 = .ok (.iconst 1, 1) := by decide +kernel
theorem dX9_goBlocks_150 : decode cX9_goBlocks 150 = .ok (.goto 4, 3) := by decide +kernel
theorem dX9_goBlocks_153 : decode cX9_goBlocks 153 = .ok (.iconst 0, 1) := by decide +kernel
theorem dX9_goBlocks_154 : decode cX9_goBlocks 154 = .ok (.istore 8, 2) := by decide +kernel
theorem dX9_goBlocks_156 : decode cX9_goBlocks 156 = .ok (.aload_n 0, 1) := by decide +kernel
theorem dX9_goBlocks_157 : decode cX9_goBlocks 157 = .ok (.getfield 24, 3) := by decide +kernel
theorem dX9_goBlocks_160 : decode cX9_goBlocks 160 = .ok (.iload 7, 2) := by decide +kernel
theorem dX9_goBlocks_162 : decode cX9_goBlocks 162 = .ok (.aload_n 0, 1) := by decide +kernel
theorem dX9_goBlocks_163 : decode cX9_goBlocks 163 = .ok (.getfield 67, 3) := by decide +kernel
theorem dX9_goBlocks_166 : decode cX9_goBlocks 166 = .ok (.iastore, 1) := by decide +kernel
theorem dX9_goBlocks_167 : decode cX9_goBlocks 167 = .ok (.iload_n 2, 1) := by decide +kernel
theorem dX9_goBlocks_168 : decode cX9_goBlocks 168 = .ok (.iload 8, 2) := by decide +kernel
theorem dX9_goBlocks_170 : decode cX9_goBlocks 170 = .ok (.ifCond .eq 7, 3) := by decide +kernel
theorem dX9_goBlocks_173 : decode cX9_goBlocks 173 = .ok (.iconst 0, 1) := by decide +kernel
theorem dX9_goBlocks_174 : decode cX9_goBlocks 174 = .ok (.goto 4, 3) := by decide +kernel
theorem dX9_goBlocks_177 : decode cX9_goBlocks 177 = .ok (.iconst 1, 1) := by decide +kernel
theorem dX9_goBlocks_178 : decode cX9_goBlocks 178 = .ok (.iadd, 1) := by decide +kernel
theorem dX9_goBlocks_179 : decode cX9_goBlocks 179 = .ok (.istore_n 2, 1) := by decide +kernel
theorem dX9_goBlocks_180 : decode cX9_goBlocks 180 = .ok (.iload_n 1, 1) := by decide +kernel
theorem dX9_goBlocks_181 : decode cX9_goBlocks 181 = .ok (.ifCond .eq 49, 3) := by decide +kernel
theorem dX9_goBlocks_184 : decode cX9_goBlocks 184 = .ok (.aload_n 0, 1) := by decide +kernel
theorem dX9_goBlocks_185 : decode cX9_goBlocks 185 = .ok (.getfield 20, 3) := by decide +kernel
theorem dX9_goBlocks_188 : decode cX9_goBlocks 188 = .ok (.iload 7, 2) := by decide +kernel
theorem dX9_goBlocks_190 : decode cX9_goBlocks 190 = .ok (.iconst 1, 1) := by decide +kernel
theorem dX9_goBlocks_191 : decode cX9_goBlocks 191 = .ok (.bastore, 1) := by decide +kernel
theorem dX9_goBlocks_192 : decode cX9_goBlocks 192 = .ok (.aload_n 0, 1) := by decide +kernel
theorem dX9_goBlocks_193 : decode cX9_goBlocks 193 = .ok (.dup, 1) := by decide +kernel
theorem dX9_goBlocks_194 : decode cX9_goBlocks 194 = .ok (.getfield 73, 3) := by decide +kernel
theorem dX9_goBlocks_197 : decode cX9_goBlocks 197 = .ok (.iload 8, 2) := by decide +kernel
theorem dX9_goBlocks_199 : decode cX9_goBlocks 199 = .ok (.ifCond .eq 7, 3) := by decide +kernel
theorem dX9_goBlocks_202 : decode cX9_goBlocks 202 = .ok (.iconst 1, 1) := by decide +kernel
theorem dX9_goBlocks_203 : decode cX9_goBlocks 203 = .ok (.goto 4, 3) := by decide +kernel
theorem dX9_goBlocks_206 : decode cX9_goBlocks 206 = .ok (.iconst 0, 1) := by decide +kernel
theorem dX9_goBlocks_207 : decode cX9_goBlocks 207 = .ok (.iadd, 1) := by decide +kernel
theorem dX9_goBlocks_208 : decode cX9_goBlocks 208 = .ok (.putfield 73, 3) := by decide +kernel
theorem dX9_goBlocks_211 : decode cX9_goBlocks 211 = .ok (.aload_n 0, 1) := by decide +kernel
theorem dX9_goBlocks_212 : decode cX9_goBlocks 212 = .ok (.dup, 1) := by decide +kernel
theorem dX9_goBlocks_213 : decode cX9_goBlocks 213 = .ok (.getfield 76, 3) := by decide +kernel
theorem dX9_goBlocks_216 : decode cX9_goBlocks 216 = .ok (.iload 8, 2) := by decide +kernel
theorem dX9_goBlocks_218 : decode cX9_goBlocks 218 = .ok (.ifCond .eq 7, 3) := by decide +kernel
theorem dX9_goBlocks_221 : decode cX9_goBlocks 221 = .ok (.iconst 0, 1) := by decide +kernel
theorem dX9_goBlocks_222 : decode cX9_goBlocks 222 = .ok (.goto 4, 3) := by decide +kernel
theorem dX9_goBlocks_225 : decode cX9_goBlocks 225 = .ok (.iconst 1, 1) := by decide +kernel
theorem dX9_goBlocks_226 : decode cX9_goBlocks 226 = .ok (.iadd, 1) := by decide +kernel
theorem dX9_goBlocks_227 : decode cX9_goBlocks 227 = .ok (.putfield 76, 3) := by decide +kernel
theorem dX9_goBlocks_230 : decode cX9_goBlocks 230 = .ok (.goto 25, 3) := by decide +kernel
theorem dX9_goBlocks_233 : decode cX9_goBlocks 233 = .ok (.aload_n 0, 1) := by decide +kernel
theorem dX9_goBlocks_234 : decode cX9_goBlocks 234 = .ok (.dup, 1) := by decide +kernel
theorem dX9_goBlocks_235 : decode cX9_goBlocks 235 = .ok (.getfield 79, 3) := by decide +kernel
theorem dX9_goBlocks_238 : decode cX9_goBlocks 238 = .ok (.iload_n 1, 1) := by decide +kernel
theorem dX9_goBlocks_239 : decode cX9_goBlocks 239 = .ok (.ifCond .eq 11, 3) := by decide +kernel
theorem dX9_goBlocks_242 : decode cX9_goBlocks 242 = .ok (.iload 5, 2) := by decide +kernel
theorem dX9_goBlocks_244 : decode cX9_goBlocks 244 = .ok (.iload 6, 2) := by decide +kernel
theorem dX9_goBlocks_246 : decode cX9_goBlocks 246 = .ok (.imul, 1) := by decide +kernel
theorem dX9_goBlocks_247 : decode cX9_goBlocks 247 = .ok (.goto 4, 3) := by decide +kernel
theorem dX9_goBlocks_250 : decode cX9_goBlocks 250 = .ok (.iconst 0, 1) := by decide +kernel
theorem dX9_goBlocks_251 : decode cX9_goBlocks 251 = .ok (.iadd, 1) := by decide +kernel
theorem dX9_goBlocks_252 : decode cX9_goBlocks 252 = .ok (.putfield 79, 3) := by decide +kernel
theorem dX9_goBlocks_255 : decode cX9_goBlocks 255 = .ok (.iload 4, 2) := by decide +kernel
theorem dX9_goBlocks_257 : decode cX9_goBlocks 257 = .ok (.aload_n 0, 1) := by decide +kernel
theorem dX9_goBlocks_258 : decode cX9_goBlocks 258 = .ok (.getfield 16, 3) := by decide +kernel
theorem dX9_goBlocks_261 : decode cX9_goBlocks 261 = .ok (.iadd, 1) := by decide +kernel
theorem dX9_goBlocks_262 : decode cX9_goBlocks 262 = .ok (.istore 4, 2) := by decide +kernel
theorem dX9_goBlocks_264 : decode cX9_goBlocks 264 = .ok (.goto (-232), 3) := by decide +kernel
theorem dX9_goBlocks_267 : decode cX9_goBlocks 267 = .ok (.iload_n 3, 1) := by decide +kernel
theorem dX9_goBlocks_268 : decode cX9_goBlocks 268 = .ok (.aload_n 0, 1) := by decide +kernel
theorem dX9_goBlocks_269 : decode cX9_goBlocks 269 = .ok (.getfield 16, 3) := by decide +kernel
theorem dX9_goBlocks_272 : decode cX9_goBlocks 272 = .ok (.iadd, 1) := by decide +kernel
theorem dX9_goBlocks_273 : decode cX9_goBlocks 273 = .ok (.istore_n 3, 1) := by decide +kernel
theorem dX9_goBlocks_274 : decode cX9_goBlocks 274 = .ok (.goto (-255), 3) := by decide +kernel
theorem dX9_goBlocks_277 : decode cX9_goBlocks 277 = .ok (.iload_n 2, 1) := by decide +kernel
theorem dX9_goBlocks_278 : decode cX9_goBlocks 278 = .ok (.ireturn, 1) := by decide +kernel
theorem dX9_go_0 : decode cX9_go 0 = .ok (.aload_n 0, 1) := by decide +kernel
theorem dX9_go_1 : decode cX9_go 1 = .ok (.iconst 0, 1) := by decide +kernel
theorem dX9_go_2 : decode cX9_go 2 = .ok (.putfield 82, 3) := by decide +kernel
theorem dX9_go_5 : decode cX9_go 5 = .ok (.aload_n 0, 1) := by decide +kernel
theorem dX9_go_6 : decode cX9_go 6 = .ok (.iconst 0, 1) := by decide +kernel
theorem dX9_go_7 : decode cX9_go 7 = .ok (.putfield 85, 3) := by decide +kernel
theorem dX9_go_10 : decode cX9_go 10 = .ok (.aload_n 0, 1) := by decide +kernel
theorem dX9_go_11 : decode cX9_go 11 = .ok (.iconst (-1), 1) := by decide +kernel
theorem dX9_go_12 : decode cX9_go 12 = .ok (.putfield 89, 3) := by decide +kernel
theorem dX9_go_15 : decode cX9_go 15 = .ok (.aload_n 0, 1) := by decide +kernel
theorem dX9_go_16 : decode cX9_go 16 = .ok (.getfield 82, 3) := by decide +kernel
theorem dX9_go_19 : decode cX9_go 19 = .ok (.aload_n 0, 1) := by decide +kernel
theorem dX9_go_20 : decode cX9_go 20 = .ok (.getfield 92, 3) := by decide +kernel
theorem dX9_go_23 : decode cX9_go 23 = .ok (.if_icmp .ge 135, 3) := by decide +kernel
theorem dX9_go_26 : decode cX9_go 26 = .ok (.aload_n 0, 1) := by decide +kernel
theorem dX9_go_27 : decode cX9_go 27 = .ok (.getfield 85, 3) := by decide +kernel
theorem dX9_go_30 : decode cX9_go 30 = .ok (.ifCond .ne 128, 3) := by decide +kernel
theorem dX9_go_33 : decode cX9_go 33 = .ok (.aload_n 0, 1) := by decide +kernel
theorem dX9_go_34 : decode cX9_go 34 = .ok (.getfield 27, 3) := by decide +kernel
theorem dX9_go_37 : decode cX9_go 37 = .ok (.aload_n 0, 1) := by decide +kernel
theorem dX9_go_38 : decode cX9_go 38 = .ok (.getfield 82, 3) := by decide +kernel
theorem dX9_go_41 : decode cX9_go 41 = .ok (.iaload, 1) := by decide +kernel
theorem dX9_go_42 : decode cX9_go 42 = .ok (.istore_n 1, 1) := by decide +kernel
theorem dX9_go_43 : decode cX9_go 43 = .ok (.aload_n 0, 1) := by decide +kernel
theorem dX9_go_44 : decode cX9_go 44 = .ok (.getfield 89, 3) := by decide +kernel
theorem dX9_go_47 : decode cX9_go 47 = .ok (.iconst 1, 1) := by decide +kernel
theorem dX9_go_48 : decode cX9_go 48 = .ok (.iadd, 1) := by decide +kernel
theorem dX9_go_49 : decode cX9_go 49 = .ok (.istore_n 2, 1) := by decide +kernel
theorem dX9_go_50 : decode cX9_go 50 = .ok (.iload_n 1, 1) := by decide +kernel
theorem dX9_go_51 : decode cX9_go 51 = .ok (.bipush 97, 2) := by decide +kernel
theorem dX9_go_53 : decode cX9_go 53 = .ok (.bipush 100, 2) := by decide +kernel
theorem dX9_go_55 : decode cX9_go 55 = .ok (.invokestatic 42, 3) := by decide +kernel
theorem dX9_go_58 : decode cX9_go 58 = .ok (.ifCond .eq 22, 3) := by decide +kernel
theorem dX9_go_61 : decode cX9_go 61 = .ok (.aload_n 0, 1) := by decide +kernel
theorem dX9_go_62 : decode cX9_go 62 = .ok (.getfield 82, 3) := by decide +kernel
theorem dX9_go_65 : decode cX9_go 65 = .ok (.iload_n 2, 1) := by decide +kernel
theorem dX9_go_66 : decode cX9_go 66 = .ok (.isub, 1) := by decide +kernel
theorem dX9_go_67 : decode cX9_go 67 = .ok (.bipush 20, 2) := by decide +kernel
theorem dX9_go_69 : decode cX9_go 69 = .ok (.if_icmp .ge 7, 3) := by decide +kernel
theorem dX9_go_72 : decode cX9_go 72 = .ok (.iconst 1, 1) := by decide +kernel
theorem dX9_go_73 : decode cX9_go 73 = .ok (.goto 25, 3) := by decide +kernel
theorem dX9_go_76 : decode cX9_go 76 = .ok (.iconst 0, 1) := by decide +kernel
theorem dX9_go_77 : decode cX9_go 77 = .ok (.goto 21, 3) := by decide +kernel
theorem dX9_go_80 : decode cX9_go 80 = .ok (.iload_n 1, 1) := by decide +kernel
theorem dX9_go_81 : decode cX9_go 81 = .ok (.bipush 124, 2) := by decide +kernel
theorem dX9_go_83 : decode cX9_go 83 = .ok (.if_icmp .ne 14, 3) := by decide +kernel
theorem dX9_go_86 : decode cX9_go 86 = .ok (.aload_n 0, 1) := by decide +kernel
theorem dX9_go_87 : decode cX9_go 87 = .ok (.getfield 89, 3) := by decide +kernel
theorem dX9_go_90 : decode cX9_go 90 = .ok (.ifCond .ge 7, 3) := by decide +kernel
theorem dX9_go_93 : decode cX9_go 93 = .ok (.iconst 1, 1) := by decide +kernel
theorem dX9_go_94 : decode cX9_go 94 = .ok (.goto 4, 3) := by decide +kernel
theorem dX9_go_97 : decode cX9_go 97 = .ok (.iconst 0, 1) := by decide +kernel
theorem dX9_go_98 : decode cX9_go 98 = .ok (.istore_n 3, 1) := by decide +kernel
theorem dX9_go_99 : decode cX9_go 99 = .ok (.aload_n 0, 1) := by decide +kernel
theorem dX9_go_100 : decode cX9_go 100 = .ok (.iload_n 1, 1) := by decide +kernel
theorem dX9_go_101 : decode cX9_go 101 = .ok (.bipush 124, 2) := by decide +kernel
theorem dX9_go_103 : decode cX9_go 103 = .ok (.if_icmp .ne 14, 3) := by decide +kernel
theorem dX9_go_106 : decode cX9_go 106 = .ok (.iload_n 3, 1) := by decide +kernel
theorem dX9_go_107 : decode cX9_go 107 = .ok (.ifCond .eq 10, 3) := by decide +kernel
theorem dX9_go_110 : decode cX9_go 110 = .ok (.aload_n 0, 1) := by decide +kernel
theorem dX9_go_111 : decode cX9_go 111 = .ok (.getfield 82, 3) := by decide +kernel
theorem dX9_go_114 : decode cX9_go 114 = .ok (.goto 7, 3) := by decide +kernel
theorem dX9_go_117 : decode cX9_go 117 = .ok (.aload_n 0, 1) := by decide +kernel
theorem dX9_go_118 : decode cX9_go 118 = .ok (.getfield 89, 3) := by decide +kernel
theorem dX9_go_121 : decode cX9_go 121 = .ok (.putfield 89, 3) := by decide +kernel
theorem dX9_go_124 : decode cX9_go 124 = .ok (.aload_n 0, 1) := by decide +kernel
theorem dX9_go_125 : decode cX9_go 125 = .ok (.iload_n 3, 1) := by decide +kernel
theorem dX9_go_126 : decode cX9_go 126 = .ok (.ifCond .ne 7, 3) := by decide +kernel
theorem dX9_go_129 : decode cX9_go 129 = .ok (.iconst 1, 1) := by decide +kernel
theorem dX9_go_130 : decode cX9_go 130 = .ok (.goto 4, 3) := by decide +kernel
theorem dX9_go_133 : decode cX9_go 133 = .ok (.iconst 0, 1) := by decide +kernel
theorem dX9_go_134 : decode cX9_go 134 = .ok (.putfield 85, 3) := by decide +kernel
theorem dX9_go_137 : decode cX9_go 137 = .ok (.aload_n 0, 1) := by decide +kernel
theorem dX9_go_138 : decode cX9_go 138 = .ok (.dup, 1) := by decide +kernel
theorem dX9_go_139 : decode cX9_go 139 = .ok (.getfield 82, 3) := by decide +kernel
theorem dX9_go_142 : decode cX9_go 142 = .ok (.iload_n 3, 1) := by decide +kernel
theorem dX9_go_143 : decode cX9_go 143 = .ok (.ifCond .eq 7, 3) := by decide +kernel
theorem dX9_go_146 : decode cX9_go 146 = .ok (.iconst 1, 1) := by decide +kernel
theorem dX9_go_147 : decode cX9_go 147 = .ok (.goto 4, 3) := by decide +kernel
theorem dX9_go_150 : decode cX9_go 150 = .ok (.iconst 0, 1) := by decide +kernel
theorem dX9_go_151 : decode cX9_go 151 = .ok (.iadd, 1) := by decide +kernel
theorem dX9_go_152 : decode cX9_go 152 = .ok (.putfield 82, 3) := by decide +kernel
theorem dX9_go_155 : decode cX9_go 155 = .ok (.goto (-140), 3) := by decide +kernel
theorem dX9_go_158 : decode cX9_go 158 = .ok (.return_, 1) := by decide +kernel
theorem dX9_load_0 : decode cX9_load 0 = .ok (.aload_n 0, 1) := by decide +kernel
theorem dX9_load_1 : decode cX9_load 1 = .ok (.iconst 0, 1) := by decide +kernel
theorem dX9_load_2 : decode cX9_load 2 = .ok (.putfield 36, 3) := by decide +kernel
theorem dX9_load_5 : decode cX9_load 5 = .ok (.aload_n 0, 1) := by decide +kernel
theorem dX9_load_6 : decode cX9_load 6 = .ok (.invokevirtual 95, 3) := by decide +kernel
theorem dX9_load_9 : decode cX9_load 9 = .ok (.aload_n 0, 1) := by decide +kernel
theorem dX9_load_10 : decode cX9_load 10 = .ok (.getfield 85, 3) := by decide +kernel
theorem dX9_load_13 : decode cX9_load 13 = .ok (.ifCond .ne 10, 3) := by decide +kernel
theorem dX9_load_16 : decode cX9_load 16 = .ok (.aload_n 0, 1) := by decide +kernel
theorem dX9_load_17 : decode cX9_load 17 = .ok (.getfield 89, 3) := by decide +kernel
theorem dX9_load_20 : decode cX9_load 20 = .ok (.ifCond .ge 9, 3) := by decide +kernel
theorem dX9_load_23 : decode cX9_load 23 = .ok (.aload_n 0, 1) := by decide +kernel
theorem dX9_load_24 : decode cX9_load 24 = .ok (.iconst 1, 1) := by decide +kernel
theorem dX9_load_25 : decode cX9_load 25 = .ok (.invokevirtual 98, 3) := by decide +kernel
theorem dX9_load_28 : decode cX9_load 28 = .ok (.ireturn, 1) := by decide +kernel
theorem dX9_load_29 : decode cX9_load 29 = .ok (.iconst 0, 1) := by decide +kernel
theorem dX9_load_30 : decode cX9_load 30 = .ok (.istore_n 1, 1) := by decide +kernel
theorem dX9_load_31 : decode cX9_load 31 = .ok (.iload_n 1, 1) := by decide +kernel
theorem dX9_load_32 : decode cX9_load 32 = .ok (.aload_n 0, 1) := by decide +kernel
theorem dX9_load_33 : decode cX9_load 33 = .ok (.getfield 92, 3) := by decide +kernel
theorem dX9_load_36 : decode cX9_load 36 = .ok (.if_icmp .ge 39, 3) := by decide +kernel
theorem dX9_load_39 : decode cX9_load 39 = .ok (.iload_n 1, 1) := by decide +kernel
theorem dX9_load_40 : decode cX9_load 40 = .ok (.aload_n 0, 1) := by decide +kernel
theorem dX9_load_41 : decode cX9_load 41 = .ok (.getfield 89, 3) := by decide +kernel
theorem dX9_load_44 : decode cX9_load 44 = .ok (.if_icmp .eq 25, 3) := by decide +kernel
theorem dX9_load_47 : decode cX9_load 47 = .ok (.aload_n 0, 1) := by decide +kernel
theorem dX9_load_48 : decode cX9_load 48 = .ok (.aload_n 0, 1) := by decide +kernel
theorem dX9_load_49 : decode cX9_load 49 = .ok (.getfield 27, 3) := by decide +kernel
theorem dX9_load_52 : decode cX9_load 52 = .ok (.iload_n 1, 1) := by decide +kernel
theorem dX9_load_53 : decode cX9_load 53 = .ok (.iaload, 1) := by decide +kernel
theorem dX9_load_54 : decode cX9_load 54 = .ok (.bipush 97, 2) := by decide +kernel
theorem dX9_load_56 : decode cX9_load 56 = .ok (.isub, 1) := by decide +kernel
theorem dX9_load_57 : decode cX9_load 57 = .ok (.invokevirtual 102, 3) := by decide +kernel
theorem dX9_load_60 : decode cX9_load 60 = .ok (.ifCond .ne 9, 3) := by decide +kernel
theorem dX9_load_63 : decode cX9_load 63 = .ok (.aload_n 0, 1) := by decide +kernel
theorem dX9_load_64 : decode cX9_load 64 = .ok (.iconst 1, 1) := by decide +kernel
theorem dX9_load_65 : decode cX9_load 65 = .ok (.invokevirtual 98, 3) := by decide +kernel
theorem dX9_load_68 : decode cX9_load 68 = .ok (.ireturn, 1) := by decide +kernel
theorem dX9_load_69 : decode cX9_load 69 = .ok (.iinc 1 1, 3) := by decide +kernel
theorem dX9_load_72 : decode cX9_load 72 = .ok (.goto (-41), 3) := by decide +kernel
theorem dX9_load_75 : decode cX9_load 75 = .ok (.aload_n 0, 1) := by decide +kernel
theorem dX9_load_76 : decode cX9_load 76 = .ok (.invokevirtual 106, 3) := by decide +kernel
theorem dX9_load_79 : decode cX9_load 79 = .ok (.aload_n 0, 1) := by decide +kernel
theorem dX9_load_80 : decode cX9_load 80 = .ok (.getfield 7, 3) := by decide +kernel
theorem dX9_load_83 : decode cX9_load 83 = .ok (.iconst 0, 1) := by decide +kernel
theorem dX9_load_84 : decode cX9_load 84 = .ok (.aload_n 0, 1) := by decide +kernel
theorem dX9_load_85 : decode cX9_load 85 = .ok (.getfield 89, 3) := by decide +kernel
theorem dX9_load_88 : decode cX9_load 88 = .ok (.iastore, 1) := by decide +kernel
theorem dX9_load_89 : decode cX9_load 89 = .ok (.aload_n 0, 1) := by decide +kernel
theorem dX9_load_90 : decode cX9_load 90 = .ok (.getfield 7, 3) := by decide +kernel
theorem dX9_load_93 : decode cX9_load 93 = .ok (.iconst 1, 1) := by decide +kernel
theorem dX9_load_94 : decode cX9_load 94 = .ok (.aload_n 0, 1) := by decide +kernel
theorem dX9_load_95 : decode cX9_load 95 = .ok (.getfield 92, 3) := by decide +kernel
theorem dX9_load_98 : decode cX9_load 98 = .ok (.aload_n 0, 1) := by decide +kernel
theorem dX9_load_99 : decode cX9_load 99 = .ok (.getfield 89, 3) := by decide +kernel
theorem dX9_load_102 : decode cX9_load 102 = .ok (.isub, 1) := by decide +kernel
theorem dX9_load_103 : decode cX9_load 103 = .ok (.iconst 1, 1) := by decide +kernel
theorem dX9_load_104 : decode cX9_load 104 = .ok (.isub, 1) := by decide +kernel
theorem dX9_load_105 : decode cX9_load 105 = .ok (.iastore, 1) := by decide +kernel
theorem dX9_load_106 : decode cX9_load 106 = .ok (.iconst 0, 1) := by decide +kernel
theorem dX9_load_107 : decode cX9_load 107 = .ok (.istore_n 1, 1) := by decide +kernel
theorem dX9_load_108 : decode cX9_load 108 = .ok (.iload_n 1, 1) := by decide +kernel
theorem dX9_load_109 : decode cX9_load 109 = .ok (.bipush 40, 2) := by decide +kernel
theorem dX9_load_111 : decode cX9_load 111 = .ok (.if_icmp .ge 66, 3) := by decide +kernel
theorem dX9_load_114 : decode cX9_load 114 = .ok (.iload_n 1, 1) := by decide +kernel
theorem dX9_load_115 : decode cX9_load 115 = .ok (.bipush 20, 2) := by decide +kernel
theorem dX9_load_117 : decode cX9_load 117 = .ok (.idiv, 1) := by decide +kernel
theorem dX9_load_118 : decode cX9_load 118 = .ok (.istore_n 2, 1) := by decide +kernel
theorem dX9_load_119 : decode cX9_load 119 = .ok (.iload_n 1, 1) := by decide +kernel
theorem dX9_load_120 : decode cX9_load 120 = .ok (.bipush 20, 2) := by decide +kernel
theorem dX9_load_122 : decode cX9_load 122 = .ok (.irem, 1) := by decide +kernel
theorem dX9_load_123 : decode cX9_load 123 = .ok (.istore_n 3, 1) := by decide +kernel
theorem dX9_load_124 : decode cX9_load 124 = .ok (.aload_n 0, 1) := by decide +kernel
theorem dX9_load_125 : decode cX9_load 125 = .ok (.getfield 7, 3) := by decide +kernel
theorem dX9_load_128 : decode cX9_load 128 = .ok (.iconst 3, 1) := by decide +kernel
theorem dX9_load_129 : decode cX9_load 129 = .ok (.iload_n 1, 1) := by decide +kernel
theorem dX9_load_130 : decode cX9_load 130 = .ok (.iadd, 1) := by decide +kernel
theorem dX9_load_131 : decode cX9_load 131 = .ok (.iload_n 3, 1) := by decide +kernel
theorem dX9_load_132 : decode cX9_load 132 = .ok (.aload_n 0, 1) := by decide +kernel
theorem dX9_load_133 : decode cX9_load 133 = .ok (.getfield 7, 3) := by decide +kernel
theorem dX9_load_136 : decode cX9_load 136 = .ok (.iload_n 2, 1) := by decide +kernel
theorem dX9_load_137 : decode cX9_load 137 = .ok (.iaload, 1) := by decide +kernel
theorem dX9_load_138 : decode cX9_load 138 = .ok (.if_icmp .ge 31, 3) := by decide +kernel
theorem dX9_load_141 : decode cX9_load 141 = .ok (.aload_n 0, 1) := by decide +kernel
theorem dX9_load_142 : decode cX9_load 142 = .ok (.getfield 27, 3) := by decide +kernel
theorem dX9_load_145 : decode cX9_load 145 = .ok (.iload_n 3, 1) := by decide +kernel
theorem dX9_load_146 : decode cX9_load 146 = .ok (.iload_n 2, 1) := by decide +kernel
theorem dX9_load_147 : decode cX9_load 147 = .ok (.iconst 1, 1) := by decide +kernel
theorem dX9_load_148 : decode cX9_load 148 = .ok (.if_icmp .ne 12, 3) := by decide +kernel
theorem dX9_load_151 : decode cX9_load 151 = .ok (.aload_n 0, 1) := by decide +kernel
theorem dX9_load_152 : decode cX9_load 152 = .ok (.getfield 89, 3) := by decide +kernel
theorem dX9_load_155 : decode cX9_load 155 = .ok (.iconst 1, 1) := by decide +kernel
theorem dX9_load_156 : decode cX9_load 156 = .ok (.iadd, 1) := by decide +kernel
theorem dX9_load_157 : decode cX9_load 157 = .ok (.goto 4, 3) := by decide +kernel
theorem dX9_load_160 : decode cX9_load 160 = .ok (.iconst 0, 1) := by decide +kernel
theorem dX9_load_161 : decode cX9_load 161 = .ok (.iadd, 1) := by decide +kernel
theorem dX9_load_162 : decode cX9_load 162 = .ok (.iaload, 1) := by decide +kernel
theorem dX9_load_163 : decode cX9_load 163 = .ok (.bipush 97, 2) := by decide +kernel
theorem dX9_load_165 : decode cX9_load 165 = .ok (.isub, 1) := by decide +kernel
theorem dX9_load_166 : decode cX9_load 166 = .ok (.goto 4, 3) := by decide +kernel
theorem dX9_load_169 : decode cX9_load 169 = .ok (.iconst 0, 1) := by decide +kernel
theorem dX9_load_170 : decode cX9_load 170 = .ok (.iastore, 1) := by decide +kernel
theorem dX9_load_171 : decode cX9_load 171 = .ok (.iinc 1 1, 3) := by decide +kernel
theorem dX9_load_174 : decode cX9_load 174 = .ok (.goto (-66), 3) := by decide +kernel
theorem dX9_load_177 : decode cX9_load 177 = .ok (.aload_n 0, 1) := by decide +kernel
theorem dX9_load_178 : decode cX9_load 178 = .ok (.iconst 0, 1) := by decide +kernel
theorem dX9_load_179 : decode cX9_load 179 = .ok (.putfield 92, 3) := by decide +kernel
theorem dX9_load_182 : decode cX9_load 182 = .ok (.aload_n 0, 1) := by decide +kernel
theorem dX9_load_183 : decode cX9_load 183 = .ok (.getfield 7, 3) := by decide +kernel
theorem dX9_load_186 : decode cX9_load 186 = .ok (.iconst 0, 1) := by decide +kernel
theorem dX9_load_187 : decode cX9_load 187 = .ok (.iaload, 1) := by decide +kernel
theorem dX9_load_188 : decode cX9_load 188 = .ok (.aload_n 0, 1) := by decide +kernel
theorem dX9_load_189 : decode cX9_load 189 = .ok (.getfield 7, 3) := by decide +kernel
theorem dX9_load_192 : decode cX9_load 192 = .ok (.iconst 1, 1) := by decide +kernel
theorem dX9_load_193 : decode cX9_load 193 = .ok (.iaload, 1) := by decide +kernel
theorem dX9_load_194 : decode cX9_load 194 = .ok (.iadd, 1) := by decide +kernel
theorem dX9_load_195 : decode cX9_load 195 = .ok (.ireturn, 1) := by decide +kernel
theorem dX9_insert_0 : decode cX9_insert 0 = .ok (.aload_n 0, 1) := by decide +kernel
theorem dX9_insert_1 : decode cX9_insert 1 = .ok (.iconst 0, 1) := by decide +kernel
theorem dX9_insert_2 : decode cX9_insert 2 = .ok (.putfield 36, 3) := by decide +kernel
theorem dX9_insert_5 : decode cX9_insert 5 = .ok (.iload_n 1, 1) := by decide +kernel
theorem dX9_insert_6 : decode cX9_insert 6 = .ok (.invokestatic 109, 3) := by decide +kernel
theorem dX9_insert_9 : decode cX9_insert 9 = .ok (.ifCond .eq 17, 3) := by decide +kernel
theorem dX9_insert_12 : decode cX9_insert 12 = .ok (.iload_n 2, 1) := by decide +kernel
theorem dX9_insert_13 : decode cX9_insert 13 = .ok (.iconst 0, 1) := by decide +kernel
theorem dX9_insert_14 : decode cX9_insert 14 = .ok (.aload_n 0, 1) := by decide +kernel
theorem dX9_insert_15 : decode cX9_insert 15 = .ok (.getfield 7, 3) := by decide +kernel
theorem dX9_insert_18 : decode cX9_insert 18 = .ok (.iload_n 1, 1) := by decide +kernel
theorem dX9_insert_19 : decode cX9_insert 19 = .ok (.iaload, 1) := by decide +kernel
theorem dX9_insert_20 : decode cX9_insert 20 = .ok (.invokestatic 42, 3) := by decide +kernel
theorem dX9_insert_23 : decode cX9_insert 23 = .ok (.ifCond .ne 9, 3) := by decide +kernel
theorem dX9_insert_26 : decode cX9_insert 26 = .ok (.aload_n 0, 1) := by decide +kernel
theorem dX9_insert_27 : decode cX9_insert 27 = .ok (.iconst 1, 1) := by decide +kernel
theorem dX9_insert_28 : decode cX9_insert 28 = .ok (.invokevirtual 98, 3) := by decide +kernel
theorem dX9_insert_31 : decode cX9_insert 31 = .ok (.ireturn, 1) := by decide +kernel
theorem dX9_insert_32 : decode cX9_insert 32 = .ok (.aload_n 0, 1) := by decide +kernel
theorem dX9_insert_33 : decode cX9_insert 33 = .ok (.iload_n 3, 1) := by decide +kernel
theorem dX9_insert_34 : decode cX9_insert 34 = .ok (.invokevirtual 102, 3) := by decide +kernel
theorem dX9_insert_37 : decode cX9_insert 37 = .ok (.ifCond .ne 9, 3) := by decide +kernel
theorem dX9_insert_40 : decode cX9_insert 40 = .ok (.aload_n 0, 1) := by decide +kernel
theorem dX9_insert_41 : decode cX9_insert 41 = .ok (.iconst 2, 1) := by decide +kernel
theorem dX9_insert_42 : decode cX9_insert 42 = .ok (.invokevirtual 98, 3) := by decide +kernel
theorem dX9_insert_45 : decode cX9_insert 45 = .ok (.ireturn, 1) := by decide +kernel
theorem dX9_insert_46 : decode cX9_insert 46 = .ok (.aload_n 0, 1) := by decide +kernel
theorem dX9_insert_47 : decode cX9_insert 47 = .ok (.getfield 7, 3) := by decide +kernel
theorem dX9_insert_50 : decode cX9_insert 50 = .ok (.iload_n 1, 1) := by decide +kernel
theorem dX9_insert_51 : decode cX9_insert 51 = .ok (.iaload, 1) := by decide +kernel
theorem dX9_insert_52 : decode cX9_insert 52 = .ok (.bipush 20, 2) := by decide +kernel
theorem dX9_insert_54 : decode cX9_insert 54 = .ok (.if_icmp .ne 9, 3) := by decide +kernel
theorem dX9_insert_57 : decode cX9_insert 57 = .ok (.aload_n 0, 1) := by decide +kernel
theorem dX9_insert_58 : decode cX9_insert 58 = .ok (.iconst 3, 1) := by decide +kernel
theorem dX9_insert_59 : decode cX9_insert 59 = .ok (.invokevirtual 98, 3) := by decide +kernel
theorem dX9_insert_62 : decode cX9_insert 62 = .ok (.ireturn, 1) := by decide +kernel
theorem dX9_insert_63 : decode cX9_insert 63 = .ok (.aload_n 0, 1) := by decide +kernel
theorem dX9_insert_64 : decode cX9_insert 64 = .ok (.invokevirtual 106, 3) := by decide +kernel
theorem dX9_insert_67 : decode cX9_insert 67 = .ok (.aload_n 0, 1) := by decide +kernel
theorem dX9_insert_68 : decode cX9_insert 68 = .ok (.getfield 7, 3) := by decide +kernel
theorem dX9_insert_71 : decode cX9_insert 71 = .ok (.iload_n 1, 1) := by decide +kernel
theorem dX9_insert_72 : decode cX9_insert 72 = .ok (.iaload, 1) := by decide +kernel
theorem dX9_insert_73 : decode cX9_insert 73 = .ok (.istore 4, 2) := by decide +kernel
theorem dX9_insert_75 : decode cX9_insert 75 = .ok (.iload 4, 2) := by decide +kernel
theorem dX9_insert_77 : decode cX9_insert 77 = .ok (.iload_n 2, 1) := by decide +kernel
theorem dX9_insert_78 : decode cX9_insert 78 = .ok (.if_icmp .le 32, 3) := by decide +kernel
theorem dX9_insert_81 : decode cX9_insert 81 = .ok (.aload_n 0, 1) := by decide +kernel
theorem dX9_insert_82 : decode cX9_insert 82 = .ok (.getfield 7, 3) := by decide +kernel
theorem dX9_insert_85 : decode cX9_insert 85 = .ok (.iconst 3, 1) := by decide +kernel
theorem dX9_insert_86 : decode cX9_insert 86 = .ok (.bipush 20, 2) := by decide +kernel
theorem dX9_insert_88 : decode cX9_insert 88 = .ok (.iload_n 1, 1) := by decide +kernel
theorem dX9_insert_89 : decode cX9_insert 89 = .ok (.imul, 1) := by decide +kernel
theorem dX9_insert_90 : decode cX9_insert 90 = .ok (.iadd, 1) := by decide +kernel
theorem dX9_insert_91 : decode cX9_insert 91 = .ok (.iload 4, 2) := by decide +kernel
theorem dX9_insert_93 : decode cX9_insert 93 = .ok (.iadd, 1) := by decide +kernel
theorem dX9_insert_94 : decode cX9_insert 94 = .ok (.aload_n 0, 1) := by decide +kernel
theorem dX9_insert_95 : decode cX9_insert 95 = .ok (.iload_n 1, 1) := by decide +kernel
theorem dX9_insert_96 : decode cX9_insert 96 = .ok (.iload 4, 2) := by decide +kernel
theorem dX9_insert_98 : decode cX9_insert 98 = .ok (.iconst 1, 1) := by decide +kernel
theorem dX9_insert_99 : decode cX9_insert 99 = .ok (.isub, 1) := by decide +kernel
theorem dX9_insert_100 : decode cX9_insert 100 = .ok (.invokevirtual 46, 3) := by decide +kernel
theorem dX9_insert_103 : decode cX9_insert 103 = .ok (.iastore, 1) := by decide +kernel
theorem dX9_insert_104 : decode cX9_insert 104 = .ok (.iinc 4 (-1), 3) := by decide +kernel
theorem dX9_insert_107 : decode cX9_insert 107 = .ok (.goto (-32), 3) := by decide +kernel
theorem dX9_insert_110 : decode cX9_insert 110 = .ok (.aload_n 0, 1) := by decide +kernel
theorem dX9_insert_111 : decode cX9_insert 111 = .ok (.getfield 7, 3) := by decide +kernel
theorem dX9_insert_114 : decode cX9_insert 114 = .ok (.iconst 3, 1) := by decide +kernel
theorem dX9_insert_115 : decode cX9_insert 115 = .ok (.bipush 20, 2) := by decide +kernel
theorem dX9_insert_117 : decode cX9_insert 117 = .ok (.iload_n 1, 1) := by decide +kernel
theorem dX9_insert_118 : decode cX9_insert 118 = .ok (.imul, 1) := by decide +kernel
theorem dX9_insert_119 : decode cX9_insert 119 = .ok (.iadd, 1) := by decide +kernel
theorem dX9_insert_120 : decode cX9_insert 120 = .ok (.iload_n 2, 1) := by decide +kernel
theorem dX9_insert_121 : decode cX9_insert 121 = .ok (.iadd, 1) := by decide +kernel
theorem dX9_insert_122 : decode cX9_insert 122 = .ok (.iload_n 3, 1) := by decide +kernel
theorem dX9_insert_123 : decode cX9_insert 123 = .ok (.iastore, 1) := by decide +kernel
theorem dX9_insert_124 : decode cX9_insert 124 = .ok (.aload_n 0, 1) := by decide +kernel
theorem dX9_insert_125 : decode cX9_insert 125 = .ok (.getfield 7, 3) := by decide +kernel
theorem dX9_insert_128 : decode cX9_insert 128 = .ok (.iload_n 1, 1) := by decide +kernel
theorem dX9_insert_129 : decode cX9_insert 129 = .ok (.dup2, 1) := by decide +kernel
theorem dX9_insert_130 : decode cX9_insert 130 = .ok (.iaload, 1) := by decide +kernel
theorem dX9_insert_131 : decode cX9_insert 131 = .ok (.iconst 1, 1) := by decide +kernel
theorem dX9_insert_132 : decode cX9_insert 132 = .ok (.iadd, 1) := by decide +kernel
theorem dX9_insert_133 : decode cX9_insert 133 = .ok (.iastore, 1) := by decide +kernel
theorem dX9_insert_134 : decode cX9_insert 134 = .ok (.aload_n 0, 1) := by decide +kernel
theorem dX9_insert_135 : decode cX9_insert 135 = .ok (.getfield 7, 3) := by decide +kernel
theorem dX9_insert_138 : decode cX9_insert 138 = .ok (.iload_n 1, 1) := by decide +kernel
theorem dX9_insert_139 : decode cX9_insert 139 = .ok (.iaload, 1) := by decide +kernel
theorem dX9_insert_140 : decode cX9_insert 140 = .ok (.ireturn, 1) := by decide +kernel
theorem dX9_remove_0 : decode cX9_remove 0 = .ok (.aload_n 0, 1) := by decide +kernel
theorem dX9_remove_1 : decode cX9_remove 1 = .ok (.iconst 0, 1) := by decide +kernel
theorem dX9_remove_2 : decode cX9_remove 2 = .ok (.putfield 36, 3) := by decide +kernel
theorem dX9_remove_5 : decode cX9_remove 5 = .ok (.iload_n 1, 1) := by decide +kernel
theorem dX9_remove_6 : decode cX9_remove 6 = .ok (.invokestatic 109, 3) := by decide +kernel
theorem dX9_remove_9 : decode cX9_remove 9 = .ok (.ifCond .eq 19, 3) := by decide +kernel
theorem dX9_remove_12 : decode cX9_remove 12 = .ok (.iload_n 2, 1) := by decide +kernel
theorem dX9_remove_13 : decode cX9_remove 13 = .ok (.iconst 0, 1) := by decide +kernel
theorem dX9_remove_14 : decode cX9_remove 14 = .ok (.aload_n 0, 1) := by decide +kernel
theorem dX9_remove_15 : decode cX9_remove 15 = .ok (.getfield 7, 3) := by decide +kernel
theorem dX9_remove_18 : decode cX9_remove 18 = .ok (.iload_n 1, 1) := by decide +kernel
theorem dX9_remove_19 : decode cX9_remove 19 = .ok (.iaload, 1) := by decide +kernel
theorem dX9_remove_20 : decode cX9_remove 20 = .ok (.iconst 1, 1) := by decide +kernel
theorem dX9_remove_21 : decode cX9_remove 21 = .ok (.isub, 1) := by decide +kernel
theorem dX9_remove_22 : decode cX9_remove 22 = .ok (.invokestatic 42, 3) := by decide +kernel
theorem dX9_remove_25 : decode cX9_remove 25 = .ok (.ifCond .ne 9, 3) := by decide +kernel
theorem dX9_remove_28 : decode cX9_remove 28 = .ok (.aload_n 0, 1) := by decide +kernel
theorem dX9_remove_29 : decode cX9_remove 29 = .ok (.iconst 1, 1) := by decide +kernel
theorem dX9_remove_30 : decode cX9_remove 30 = .ok (.invokevirtual 98, 3) := by decide +kernel
theorem dX9_remove_33 : decode cX9_remove 33 = .ok (.ireturn, 1) := by decide +kernel
theorem dX9_remove_34 : decode cX9_remove 34 = .ok (.aload_n 0, 1) := by decide +kernel
theorem dX9_remove_35 : decode cX9_remove 35 = .ok (.invokevirtual 106, 3) := by decide +kernel
theorem dX9_remove_38 : decode cX9_remove 38 = .ok (.aload_n 0, 1) := by decide +kernel
theorem dX9_remove_39 : decode cX9_remove 39 = .ok (.iload_n 1, 1) := by decide +kernel
theorem dX9_remove_40 : decode cX9_remove 40 = .ok (.iload_n 2, 1) := by decide +kernel
theorem dX9_remove_41 : decode cX9_remove 41 = .ok (.invokevirtual 46, 3) := by decide +kernel
theorem dX9_remove_44 : decode cX9_remove 44 = .ok (.istore_n 3, 1) := by decide +kernel
theorem dX9_remove_45 : decode cX9_remove 45 = .ok (.aload_n 0, 1) := by decide +kernel
theorem dX9_remove_46 : decode cX9_remove 46 = .ok (.getfield 7, 3) := by decide +kernel
theorem dX9_remove_49 : decode cX9_remove 49 = .ok (.iload_n 1, 1) := by decide +kernel
theorem dX9_remove_50 : decode cX9_remove 50 = .ok (.dup2, 1) := by decide +kernel
theorem dX9_remove_51 : decode cX9_remove 51 = .ok (.iaload, 1) := by decide +kernel
theorem dX9_remove_52 : decode cX9_remove 52 = .ok (.iconst 1, 1) := by decide +kernel
theorem dX9_remove_53 : decode cX9_remove 53 = .ok (.isub, 1) := by decide +kernel
theorem dX9_remove_54 : decode cX9_remove 54 = .ok (.iastore, 1) := by decide +kernel
theorem dX9_remove_55 : decode cX9_remove 55 = .ok (.iload_n 2, 1) := by decide +kernel
theorem dX9_remove_56 : decode cX9_remove 56 = .ok (.istore 4, 2) := by decide +kernel
theorem dX9_remove_58 : decode cX9_remove 58 = .ok (.iload 4, 2) := by decide +kernel
theorem dX9_remove_60 : decode cX9_remove 60 = .ok (.aload_n 0, 1) := by decide +kernel
theorem dX9_remove_61 : decode cX9_remove 61 = .ok (.getfield 7, 3) := by decide +kernel
theorem dX9_remove_64 : decode cX9_remove 64 = .ok (.iload_n 1, 1) := by decide +kernel
theorem dX9_remove_65 : decode cX9_remove 65 = .ok (.iaload, 1) := by decide +kernel
theorem dX9_remove_66 : decode cX9_remove 66 = .ok (.if_icmp .ge 32, 3) := by decide +kernel
theorem dX9_remove_69 : decode cX9_remove 69 = .ok (.aload_n 0, 1) := by decide +kernel
theorem dX9_remove_70 : decode cX9_remove 70 = .ok (.getfield 7, 3) := by decide +kernel
theorem dX9_remove_73 : decode cX9_remove 73 = .ok (.iconst 3, 1) := by decide +kernel
theorem dX9_remove_74 : decode cX9_remove 74 = .ok (.bipush 20, 2) := by decide +kernel
theorem dX9_remove_76 : decode cX9_remove 76 = .ok (.iload_n 1, 1) := by decide +kernel
theorem dX9_remove_77 : decode cX9_remove 77 = .ok (.imul, 1) := by decide +kernel
theorem dX9_remove_78 : decode cX9_remove 78 = .ok (.iadd, 1) := by decide +kernel
theorem dX9_remove_79 : decode cX9_remove 79 = .ok (.iload 4, 2) := by decide +kernel
theorem dX9_remove_81 : decode cX9_remove 81 = .ok (.iadd, 1) := by decide +kernel
theorem dX9_remove_82 : decode cX9_remove 82 = .ok (.aload_n 0, 1) := by decide +kernel
theorem dX9_remove_83 : decode cX9_remove 83 = .ok (.iload_n 1, 1) := by decide +kernel
theorem dX9_remove_84 : decode cX9_remove 84 = .ok (.iload 4, 2) := by decide +kernel
theorem dX9_remove_86 : decode cX9_remove 86 = .ok (.iconst 1, 1) := by decide +kernel
theorem dX9_remove_87 : decode cX9_remove 87 = .ok (.iadd, 1) := by decide +kernel
theorem dX9_remove_88 : decode cX9_remove 88 = .ok (.invokevirtual 46, 3) := by decide +kernel
theorem dX9_remove_91 : decode cX9_remove 91 = .ok (.iastore, 1) := by decide +kernel
theorem dX9_remove_92 : decode cX9_remove 92 = .ok (.iinc 4 1, 3) := by decide +kernel
theorem dX9_remove_95 : decode cX9_remove 95 = .ok (.goto (-37), 3) := by decide +kernel
theorem dX9_remove_98 : decode cX9_remove 98 = .ok (.aload_n 0, 1) := by decide +kernel
theorem dX9_remove_99 : decode cX9_remove 99 = .ok (.getfield 7, 3) := by decide +kernel
theorem dX9_remove_102 : decode cX9_remove 102 = .ok (.iconst 3, 1) := by decide +kernel
theorem dX9_remove_103 : decode cX9_remove 103 = .ok (.bipush 20, 2) := by decide +kernel
theorem dX9_remove_105 : decode cX9_remove 105 = .ok (.iload_n 1, 1) := by decide +kernel
theorem dX9_remove_106 : decode cX9_remove 106 = .ok (.imul, 1) := by decide +kernel
theorem dX9_remove_107 : decode cX9_remove 107 = .ok (.iadd, 1) := by decide +kernel
theorem dX9_remove_108 : decode cX9_remove 108 = .ok (.aload_n 0, 1) := by decide +kernel
theorem dX9_remove_109 : decode cX9_remove 109 = .ok (.getfield 7, 3) := by decide +kernel
theorem dX9_remove_112 : decode cX9_remove 112 = .ok (.iload_n 1, 1) := by decide +kernel
theorem dX9_remove_113 : decode cX9_remove 113 = .ok (.iaload, 1) := by decide +kernel
theorem dX9_remove_114 : decode cX9_remove 114 = .ok (.iadd, 1) := by decide +kernel
theorem dX9_remove_115 : decode cX9_remove 115 = .ok (.iconst 0, 1) := by decide +kernel
theorem dX9_remove_116 : decode cX9_remove 116 = .ok (.iastore, 1) := by decide +kernel
theorem dX9_remove_117 : decode cX9_remove 117 = .ok (.iload_n 3, 1) := by decide +kernel
theorem dX9_remove_118 : decode cX9_remove 118 = .ok (.ireturn, 1) := by decide +kernel
theorem dX9_replace_0 : decode cX9_replace 0 = .ok (.aload_n 0, 1) := by decide +kernel
theorem dX9_replace_1 : decode cX9_replace 1 = .ok (.iconst 0, 1) := by decide +kernel
theorem dX9_replace_2 : decode cX9_replace 2 = .ok (.putfield 36, 3) := by decide +kernel
theorem dX9_replace_5 : decode cX9_replace 5 = .ok (.iload_n 1, 1) := by decide +kernel
theorem dX9_replace_6 : decode cX9_replace 6 = .ok (.invokestatic 109, 3) := by decide +kernel
theorem dX9_replace_9 : decode cX9_replace 9 = .ok (.ifCond .eq 19, 3) := by decide +kernel
theorem dX9_replace_12 : decode cX9_replace 12 = .ok (.iload_n 2, 1) := by decide +kernel
theorem dX9_replace_13 : decode cX9_replace 13 = .ok (.iconst 0, 1) := by decide +kernel
theorem dX9_replace_14 : decode cX9_replace 14 = .ok (.aload_n 0, 1) := by decide +kernel
theorem dX9_replace_15 : decode cX9_replace 15 = .ok (.getfield 7, 3) := by decide +kernel
theorem dX9_replace_18 : decode cX9_replace 18 = .ok (.iload_n 1, 1) := by decide +kernel
theorem dX9_replace_19 : decode cX9_replace 19 = .ok (.iaload, 1) := by decide +kernel
theorem dX9_replace_20 : decode cX9_replace 20 = .ok (.iconst 1, 1) := by decide +kernel
theorem dX9_replace_21 : decode cX9_replace 21 = .ok (.isub, 1) := by decide +kernel
theorem dX9_replace_22 : decode cX9_replace 22 = .ok (.invokestatic 42, 3) := by decide +kernel
theorem dX9_replace_25 : decode cX9_replace 25 = .ok (.ifCond .ne 9, 3) := by decide +kernel
theorem dX9_replace_28 : decode cX9_replace 28 = .ok (.aload_n 0, 1) := by decide +kernel
theorem dX9_replace_29 : decode cX9_replace 29 = .ok (.iconst 1, 1) := by decide +kernel
theorem dX9_replace_30 : decode cX9_replace 30 = .ok (.invokevirtual 98, 3) := by decide +kernel
theorem dX9_replace_33 : decode cX9_replace 33 = .ok (.ireturn, 1) := by decide +kernel
theorem dX9_replace_34 : decode cX9_replace 34 = .ok (.aload_n 0, 1) := by decide +kernel
theorem dX9_replace_35 : decode cX9_replace 35 = .ok (.iload_n 3, 1) := by decide +kernel
theorem dX9_replace_36 : decode cX9_replace 36 = .ok (.invokevirtual 102, 3) := by decide +kernel
theorem dX9_replace_39 : decode cX9_replace 39 = .ok (.ifCond .ne 9, 3) := by decide +kernel
theorem dX9_replace_42 : decode cX9_replace 42 = .ok (.aload_n 0, 1) := by decide +kernel
theorem dX9_replace_43 : decode cX9_replace 43 = .ok (.iconst 2, 1) := by decide +kernel
theorem dX9_replace_44 : decode cX9_replace 44 = .ok (.invokevirtual 98, 3) := by decide +kernel
theorem dX9_replace_47 : decode cX9_replace 47 = .ok (.ireturn, 1) := by decide +kernel
theorem dX9_replace_48 : decode cX9_replace 48 = .ok (.aload_n 0, 1) := by decide +kernel
theorem dX9_replace_49 : decode cX9_replace 49 = .ok (.invokevirtual 106, 3) := by decide +kernel
theorem dX9_replace_52 : decode cX9_replace 52 = .ok (.aload_n 0, 1) := by decide +kernel
theorem dX9_replace_53 : decode cX9_replace 53 = .ok (.iload_n 1, 1) := by decide +kernel
theorem dX9_replace_54 : decode cX9_replace 54 = .ok (.iload_n 2, 1) := by decide +kernel
theorem dX9_replace_55 : decode cX9_replace 55 = .ok (.invokevirtual 46, 3) := by decide +kernel
theorem dX9_replace_58 : decode cX9_replace 58 = .ok (.istore 4, 2) := by decide +kernel
theorem dX9_replace_60 : decode cX9_replace 60 = .ok (.aload_n 0, 1) := by decide +kernel
theorem dX9_replace_61 : decode cX9_replace 61 = .ok (.getfield 7, 3) := by decide +kernel
theorem dX9_replace_64 : decode cX9_replace 64 = .ok (.iconst 3, 1) := by decide +kernel
theorem dX9_replace_65 : decode cX9_replace 65 = .ok (.bipush 20, 2) := by decide +kernel
theorem dX9_replace_67 : decode cX9_replace 67 = .ok (.iload_n 1, 1) := by decide +kernel
theorem dX9_replace_68 : decode cX9_replace 68 = .ok (.imul, 1) := by decide +kernel
theorem dX9_replace_69 : decode cX9_replace 69 = .ok (.iadd, 1) := by decide +kernel
theorem dX9_replace_70 : decode cX9_replace 70 = .ok (.iload_n 2, 1) := by decide +kernel
theorem dX9_replace_71 : decode cX9_replace 71 = .ok (.iadd, 1) := by decide +kernel
theorem dX9_replace_72 : decode cX9_replace 72 = .ok (.iload_n 3, 1) := by decide +kernel
theorem dX9_replace_73 : decode cX9_replace 73 = .ok (.iastore, 1) := by decide +kernel
theorem dX9_replace_74 : decode cX9_replace 74 = .ok (.iload 4, 2) := by decide +kernel
theorem dX9_replace_76 : decode cX9_replace 76 = .ok (.ireturn, 1) := by decide +kernel
theorem dX9_exchange_0 : decode cX9_exchange 0 = .ok (.aload_n 0, 1) := by decide +kernel
theorem dX9_exchange_1 : decode cX9_exchange 1 = .ok (.iconst 0, 1) := by decide +kernel
theorem dX9_exchange_2 : decode cX9_exchange 2 = .ok (.putfield 36, 3) := by decide +kernel
theorem dX9_exchange_5 : decode cX9_exchange 5 = .ok (.aload_n 0, 1) := by decide +kernel
theorem dX9_exchange_6 : decode cX9_exchange 6 = .ok (.invokevirtual 106, 3) := by decide +kernel
theorem dX9_exchange_9 : decode cX9_exchange 9 = .ok (.aload_n 0, 1) := by decide +kernel
theorem dX9_exchange_10 : decode cX9_exchange 10 = .ok (.getfield 7, 3) := by decide +kernel
theorem dX9_exchange_13 : decode cX9_exchange 13 = .ok (.iconst 0, 1) := by decide +kernel
theorem dX9_exchange_14 : decode cX9_exchange 14 = .ok (.iaload, 1) := by decide +kernel
theorem dX9_exchange_15 : decode cX9_exchange 15 = .ok (.istore_n 1, 1) := by decide +kernel
theorem dX9_exchange_16 : decode cX9_exchange 16 = .ok (.aload_n 0, 1) := by decide +kernel
theorem dX9_exchange_17 : decode cX9_exchange 17 = .ok (.getfield 7, 3) := by decide +kernel
theorem dX9_exchange_20 : decode cX9_exchange 20 = .ok (.iconst 0, 1) := by decide +kernel
theorem dX9_exchange_21 : decode cX9_exchange 21 = .ok (.aload_n 0, 1) := by decide +kernel
theorem dX9_exchange_22 : decode cX9_exchange 22 = .ok (.getfield 7, 3) := by decide +kernel
theorem dX9_exchange_25 : decode cX9_exchange 25 = .ok (.iconst 1, 1) := by decide +kernel
theorem dX9_exchange_26 : decode cX9_exchange 26 = .ok (.iaload, 1) := by decide +kernel
theorem dX9_exchange_27 : decode cX9_exchange 27 = .ok (.iastore, 1) := by decide +kernel
theorem dX9_exchange_28 : decode cX9_exchange 28 = .ok (.aload_n 0, 1) := by decide +kernel
theorem dX9_exchange_29 : decode cX9_exchange 29 = .ok (.getfield 7, 3) := by decide +kernel
theorem dX9_exchange_32 : decode cX9_exchange 32 = .ok (.iconst 1, 1) := by decide +kernel
theorem dX9_exchange_33 : decode cX9_exchange 33 = .ok (.iload_n 1, 1) := by decide +kernel
theorem dX9_exchange_34 : decode cX9_exchange 34 = .ok (.iastore, 1) := by decide +kernel
theorem dX9_exchange_35 : decode cX9_exchange 35 = .ok (.iconst 0, 1) := by decide +kernel
theorem dX9_exchange_36 : decode cX9_exchange 36 = .ok (.istore_n 2, 1) := by decide +kernel
theorem dX9_exchange_37 : decode cX9_exchange 37 = .ok (.iload_n 2, 1) := by decide +kernel
theorem dX9_exchange_38 : decode cX9_exchange 38 = .ok (.bipush 20, 2) := by decide +kernel
theorem dX9_exchange_40 : decode cX9_exchange 40 = .ok (.if_icmp .ge 40, 3) := by decide +kernel
theorem dX9_exchange_43 : decode cX9_exchange 43 = .ok (.aload_n 0, 1) := by decide +kernel
theorem dX9_exchange_44 : decode cX9_exchange 44 = .ok (.iconst 0, 1) := by decide +kernel
theorem dX9_exchange_45 : decode cX9_exchange 45 = .ok (.iload_n 2, 1) := by decide +kernel
theorem dX9_exchange_46 : decode cX9_exchange 46 = .ok (.invokevirtual 46, 3) := by decide +kernel
theorem dX9_exchange_49 : decode cX9_exchange 49 = .ok (.istore_n 3, 1) := by decide +kernel
theorem dX9_exchange_50 : decode cX9_exchange 50 = .ok (.aload_n 0, 1) := by decide +kernel
theorem dX9_exchange_51 : decode cX9_exchange 51 = .ok (.getfield 7, 3) := by decide +kernel
theorem dX9_exchange_54 : decode cX9_exchange 54 = .ok (.iconst 3, 1) := by decide +kernel
theorem dX9_exchange_55 : decode cX9_exchange 55 = .ok (.iload_n 2, 1) := by decide +kernel
theorem dX9_exchange_56 : decode cX9_exchange 56 = .ok (.iadd, 1) := by decide +kernel
theorem dX9_exchange_57 : decode cX9_exchange 57 = .ok (.aload_n 0, 1) := by decide +kernel
theorem dX9_exchange_58 : decode cX9_exchange 58 = .ok (.iconst 1, 1) := by decide +kernel
theorem dX9_exchange_59 : decode cX9_exchange 59 = .ok (.iload_n 2, 1) := by decide +kernel
theorem dX9_exchange_60 : decode cX9_exchange 60 = .ok (.invokevirtual 46, 3) := by decide +kernel
theorem dX9_exchange_63 : decode cX9_exchange 63 = .ok (.iastore, 1) := by decide +kernel
theorem dX9_exchange_64 : decode cX9_exchange 64 = .ok (.aload_n 0, 1) := by decide +kernel
theorem dX9_exchange_65 : decode cX9_exchange 65 = .ok (.getfield 7, 3) := by decide +kernel
theorem dX9_exchange_68 : decode cX9_exchange 68 = .ok (.bipush 23, 2) := by decide +kernel
theorem dX9_exchange_70 : decode cX9_exchange 70 = .ok (.iload_n 2, 1) := by decide +kernel
theorem dX9_exchange_71 : decode cX9_exchange 71 = .ok (.iadd, 1) := by decide +kernel
theorem dX9_exchange_72 : decode cX9_exchange 72 = .ok (.iload_n 3, 1) := by decide +kernel
theorem dX9_exchange_73 : decode cX9_exchange 73 = .ok (.iastore, 1) := by decide +kernel
theorem dX9_exchange_74 : decode cX9_exchange 74 = .ok (.iinc 2 1, 3) := by decide +kernel
theorem dX9_exchange_77 : decode cX9_exchange 77 = .ok (.goto (-40), 3) := by decide +kernel
theorem dX9_exchange_80 : decode cX9_exchange 80 = .ok (.aload_n 0, 1) := by decide +kernel
theorem dX9_exchange_81 : decode cX9_exchange 81 = .ok (.getfield 7, 3) := by decide +kernel
theorem dX9_exchange_84 : decode cX9_exchange 84 = .ok (.iconst 0, 1) := by decide +kernel
theorem dX9_exchange_85 : decode cX9_exchange 85 = .ok (.iaload, 1) := by decide +kernel
theorem dX9_exchange_86 : decode cX9_exchange 86 = .ok (.ireturn, 1) := by decide +kernel
theorem dX9_setAlphabet_0 : decode cX9_setAlphabet 0 = .ok (.aload_n 0, 1) := by decide +kernel
theorem dX9_setAlphabet_1 : decode cX9_setAlphabet 1 = .ok (.iconst 0, 1) := by decide +kernel
theorem dX9_setAlphabet_2 : decode cX9_setAlphabet 2 = .ok (.putfield 36, 3) := by decide +kernel
theorem dX9_setAlphabet_5 : decode cX9_setAlphabet 5 = .ok (.iload_n 1, 1) := by decide +kernel
theorem dX9_setAlphabet_6 : decode cX9_setAlphabet 6 = .ok (.iconst 2, 1) := by decide +kernel
theorem dX9_setAlphabet_7 : decode cX9_setAlphabet 7 = .ok (.iconst 4, 1) := by decide +kernel
theorem dX9_setAlphabet_8 : decode cX9_setAlphabet 8 = .ok (.invokestatic 42, 3) := by decide +kernel
theorem dX9_setAlphabet_11 : decode cX9_setAlphabet 11 = .ok (.ifCond .ne 9, 3) := by decide +kernel
theorem dX9_setAlphabet_14 : decode cX9_setAlphabet 14 = .ok (.aload_n 0, 1) := by decide +kernel
theorem dX9_setAlphabet_15 : decode cX9_setAlphabet 15 = .ok (.iconst 1, 1) := by decide +kernel
theorem dX9_setAlphabet_16 : decode cX9_setAlphabet 16 = .ok (.invokevirtual 98, 3) := by decide +kernel
theorem dX9_setAlphabet_19 : decode cX9_setAlphabet 19 = .ok (.ireturn, 1) := by decide +kernel
theorem dX9_setAlphabet_20 : decode cX9_setAlphabet 20 = .ok (.iconst 0, 1) := by decide +kernel
theorem dX9_setAlphabet_21 : decode cX9_setAlphabet 21 = .ok (.istore_n 2, 1) := by decide +kernel
theorem dX9_setAlphabet_22 : decode cX9_setAlphabet 22 = .ok (.iload_n 2, 1) := by decide +kernel
theorem dX9_setAlphabet_23 : decode cX9_setAlphabet 23 = .ok (.bipush 40, 2) := by decide +kernel
theorem dX9_setAlphabet_25 : decode cX9_setAlphabet 25 = .ok (.if_icmp .ge 43, 3) := by decide +kernel
theorem dX9_setAlphabet_28 : decode cX9_setAlphabet 28 = .ok (.iload_n 2, 1) := by decide +kernel
theorem dX9_setAlphabet_29 : decode cX9_setAlphabet 29 = .ok (.bipush 20, 2) := by decide +kernel
theorem dX9_setAlphabet_31 : decode cX9_setAlphabet 31 = .ok (.irem, 1) := by decide +kernel
theorem dX9_setAlphabet_32 : decode cX9_setAlphabet 32 = .ok (.aload_n 0, 1) := by decide +kernel
theorem dX9_setAlphabet_33 : decode cX9_setAlphabet 33 = .ok (.getfield 7, 3) := by decide +kernel
theorem dX9_setAlphabet_36 : decode cX9_setAlphabet 36 = .ok (.iload_n 2, 1) := by decide +kernel
theorem dX9_setAlphabet_37 : decode cX9_setAlphabet 37 = .ok (.bipush 20, 2) := by decide +kernel
theorem dX9_setAlphabet_39 : decode cX9_setAlphabet 39 = .ok (.idiv, 1) := by decide +kernel
theorem dX9_setAlphabet_40 : decode cX9_setAlphabet 40 = .ok (.iaload, 1) := by decide +kernel
theorem dX9_setAlphabet_41 : decode cX9_setAlphabet 41 = .ok (.if_icmp .ge 21, 3) := by decide +kernel
theorem dX9_setAlphabet_44 : decode cX9_setAlphabet 44 = .ok (.aload_n 0, 1) := by decide +kernel
theorem dX9_setAlphabet_45 : decode cX9_setAlphabet 45 = .ok (.getfield 7, 3) := by decide +kernel
theorem dX9_setAlphabet_48 : decode cX9_setAlphabet 48 = .ok (.iconst 3, 1) := by decide +kernel
theorem dX9_setAlphabet_49 : decode cX9_setAlphabet 49 = .ok (.iload_n 2, 1) := by decide +kernel
theorem dX9_setAlphabet_50 : decode cX9_setAlphabet 50 = .ok (.iadd, 1) := by decide +kernel
theorem dX9_setAlphabet_51 : decode cX9_setAlphabet 51 = .ok (.iaload, 1) := by decide +kernel
theorem dX9_setAlphabet_52 : decode cX9_setAlphabet 52 = .ok (.iload_n 1, 1) := by decide +kernel
theorem dX9_setAlphabet_53 : decode cX9_setAlphabet 53 = .ok (.if_icmp .lt 9, 3) := by decide +kernel
theorem dX9_setAlphabet_56 : decode cX9_setAlphabet 56 = .ok (.aload_n 0, 1) := by decide +kernel
theorem dX9_setAlphabet_57 : decode cX9_setAlphabet 57 = .ok (.iconst 2, 1) := by decide +kernel
theorem dX9_setAlphabet_58 : decode cX9_setAlphabet 58 = .ok (.invokevirtual 98, 3) := by decide +kernel
theorem dX9_setAlphabet_61 : decode cX9_setAlphabet 61 = .ok (.ireturn, 1) := by decide +kernel
theorem dX9_setAlphabet_62 : decode cX9_setAlphabet 62 = .ok (.iinc 2 1, 3) := by decide +kernel
theorem dX9_setAlphabet_65 : decode cX9_setAlphabet 65 = .ok (.goto (-43), 3) := by decide +kernel
theorem dX9_setAlphabet_68 : decode cX9_setAlphabet 68 = .ok (.aload_n 0, 1) := by decide +kernel
theorem dX9_setAlphabet_69 : decode cX9_setAlphabet 69 = .ok (.invokevirtual 106, 3) := by decide +kernel
theorem dX9_setAlphabet_72 : decode cX9_setAlphabet 72 = .ok (.aload_n 0, 1) := by decide +kernel
theorem dX9_setAlphabet_73 : decode cX9_setAlphabet 73 = .ok (.getfield 7, 3) := by decide +kernel
theorem dX9_setAlphabet_76 : decode cX9_setAlphabet 76 = .ok (.iconst 2, 1) := by decide +kernel
theorem dX9_setAlphabet_77 : decode cX9_setAlphabet 77 = .ok (.iaload, 1) := by decide +kernel
theorem dX9_setAlphabet_78 : decode cX9_setAlphabet 78 = .ok (.istore_n 2, 1) := by decide +kernel
theorem dX9_setAlphabet_79 : decode cX9_setAlphabet 79 = .ok (.aload_n 0, 1) := by decide +kernel
theorem dX9_setAlphabet_80 : decode cX9_setAlphabet 80 = .ok (.getfield 7, 3) := by decide +kernel
theorem dX9_setAlphabet_83 : decode cX9_setAlphabet 83 = .ok (.iconst 2, 1) := by decide +kernel
theorem dX9_setAlphabet_84 : decode cX9_setAlphabet 84 = .ok (.iload_n 1, 1) := by decide +kernel
theorem dX9_setAlphabet_85 : decode cX9_setAlphabet 85 = .ok (.iastore, 1) := by decide +kernel
theorem dX9_setAlphabet_86 : decode cX9_setAlphabet 86 = .ok (.iload_n 2, 1) := by decide +kernel
theorem dX9_setAlphabet_87 : decode cX9_setAlphabet 87 = .ok (.ireturn, 1) := by decide +kernel
theorem dX9_length_0 : decode cX9_length 0 = .ok (.aload_n 0, 1) := by decide +kernel
theorem dX9_length_1 : decode cX9_length 1 = .ok (.iconst 0, 1) := by decide +kernel
theorem dX9_length_2 : decode cX9_length 2 = .ok (.putfield 36, 3) := by decide +kernel
theorem dX9_length_5 : decode cX9_length 5 = .ok (.iload_n 1, 1) := by decide +kernel
theorem dX9_length_6 : decode cX9_length 6 = .ok (.invokestatic 109, 3) := by decide +kernel
theorem dX9_length_9 : decode cX9_length 9 = .ok (.ifCond .eq 12, 3) := by decide +kernel
theorem dX9_length_12 : decode cX9_length 12 = .ok (.aload_n 0, 1) := by decide +kernel
theorem dX9_length_13 : decode cX9_length 13 = .ok (.getfield 7, 3) := by decide +kernel
theorem dX9_length_16 : decode cX9_length 16 = .ok (.iload_n 1, 1) := by decide +kernel
theorem dX9_length_17 : decode cX9_length 17 = .ok (.iaload, 1) := by decide +kernel
theorem dX9_length_18 : decode cX9_length 18 = .ok (.goto 8, 3) := by decide +kernel
theorem dX9_length_21 : decode cX9_length 21 = .ok (.aload_n 0, 1) := by decide +kernel
theorem dX9_length_22 : decode cX9_length 22 = .ok (.iconst 1, 1) := by decide +kernel
theorem dX9_length_23 : decode cX9_length 23 = .ok (.invokevirtual 98, 3) := by decide +kernel
theorem dX9_length_26 : decode cX9_length 26 = .ok (.ireturn, 1) := by decide +kernel
theorem dX9_letter_0 : decode cX9_letter 0 = .ok (.aload_n 0, 1) := by decide +kernel
theorem dX9_letter_1 : decode cX9_letter 1 = .ok (.iconst 0, 1) := by decide +kernel
theorem dX9_letter_2 : decode cX9_letter 2 = .ok (.putfield 36, 3) := by decide +kernel
theorem dX9_letter_5 : decode cX9_letter 5 = .ok (.iload_n 1, 1) := by decide +kernel
theorem dX9_letter_6 : decode cX9_letter 6 = .ok (.invokestatic 109, 3) := by decide +kernel
theorem dX9_letter_9 : decode cX9_letter 9 = .ok (.ifCond .eq 28, 3) := by decide +kernel
theorem dX9_letter_12 : decode cX9_letter 12 = .ok (.iload_n 2, 1) := by decide +kernel
theorem dX9_letter_13 : decode cX9_letter 13 = .ok (.iconst 0, 1) := by decide +kernel
theorem dX9_letter_14 : decode cX9_letter 14 = .ok (.aload_n 0, 1) := by decide +kernel
theorem dX9_letter_15 : decode cX9_letter 15 = .ok (.getfield 7, 3) := by decide +kernel
theorem dX9_letter_18 : decode cX9_letter 18 = .ok (.iload_n 1, 1) := by decide +kernel
theorem dX9_letter_19 : decode cX9_letter 19 = .ok (.iaload, 1) := by decide +kernel
theorem dX9_letter_20 : decode cX9_letter 20 = .ok (.iconst 1, 1) := by decide +kernel
theorem dX9_letter_21 : decode cX9_letter 21 = .ok (.isub, 1) := by decide +kernel
theorem dX9_letter_22 : decode cX9_letter 22 = .ok (.invokestatic 42, 3) := by decide +kernel
theorem dX9_letter_25 : decode cX9_letter 25 = .ok (.ifCond .eq 12, 3) := by decide +kernel
theorem dX9_letter_28 : decode cX9_letter 28 = .ok (.aload_n 0, 1) := by decide +kernel
theorem dX9_letter_29 : decode cX9_letter 29 = .ok (.iload_n 1, 1) := by decide +kernel
theorem dX9_letter_30 : decode cX9_letter 30 = .ok (.iload_n 2, 1) := by decide +kernel
theorem dX9_letter_31 : decode cX9_letter 31 = .ok (.invokevirtual 46, 3) := by decide +kernel
theorem dX9_letter_34 : decode cX9_letter 34 = .ok (.goto 8, 3) := by decide +kernel
theorem dX9_letter_37 : decode cX9_letter 37 = .ok (.aload_n 0, 1) := by decide +kernel
theorem dX9_letter_38 : decode cX9_letter 38 = .ok (.iconst 1, 1) := by decide +kernel
theorem dX9_letter_39 : decode cX9_letter 39 = .ok (.invokevirtual 98, 3) := by decide +kernel
theorem dX9_letter_42 : decode cX9_letter 42 = .ok (.ireturn, 1) := by decide +kernel
theorem dX9_distance_0 : decode cX9_distance 0 = .ok (.aload_n 0, 1) := by decide +kernel
theorem dX9_distance_1 : decode cX9_distance 1 = .ok (.iconst 0, 1) := by decide +kernel
theorem dX9_distance_2 : decode cX9_distance 2 = .ok (.putfield 36, 3) := by decide +kernel
theorem dX9_distance_5 : decode cX9_distance 5 = .ok (.aload_n 0, 1) := by decide +kernel
theorem dX9_distance_6 : decode cX9_distance 6 = .ok (.invokevirtual 112, 3) := by decide +kernel
theorem dX9_distance_9 : decode cX9_distance 9 = .ok (.ireturn, 1) := by decide +kernel
theorem dX9_prefix_0 : decode cX9_prefix 0 = .ok (.aload_n 0, 1) := by decide +kernel
theorem dX9_prefix_1 : decode cX9_prefix 1 = .ok (.iconst 0, 1) := by decide +kernel
theorem dX9_prefix_2 : decode cX9_prefix 2 = .ok (.putfield 36, 3) := by decide +kernel
theorem dX9_prefix_5 : decode cX9_prefix 5 = .ok (.aload_n 0, 1) := by decide +kernel
theorem dX9_prefix_6 : decode cX9_prefix 6 = .ok (.iconst 0, 1) := by decide +kernel
theorem dX9_prefix_7 : decode cX9_prefix 7 = .ok (.invokevirtual 60, 3) := by decide +kernel
theorem dX9_prefix_10 : decode cX9_prefix 10 = .ok (.iload_n 1, 1) := by decide +kernel
theorem dX9_prefix_11 : decode cX9_prefix 11 = .ok (.iconst 0, 1) := by decide +kernel
theorem dX9_prefix_12 : decode cX9_prefix 12 = .ok (.aload_n 0, 1) := by decide +kernel
theorem dX9_prefix_13 : decode cX9_prefix 13 = .ok (.getfield 7, 3) := by decide +kernel
theorem dX9_prefix_16 : decode cX9_prefix 16 = .ok (.iconst 0, 1) := by decide +kernel
theorem dX9_prefix_17 : decode cX9_prefix 17 = .ok (.iaload, 1) := by decide +kernel
theorem dX9_prefix_18 : decode cX9_prefix 18 = .ok (.invokestatic 42, 3) := by decide +kernel
theorem dX9_prefix_21 : decode cX9_prefix 21 = .ok (.ifCond .eq 26, 3) := by decide +kernel
theorem dX9_prefix_24 : decode cX9_prefix 24 = .ok (.iload_n 2, 1) := by decide +kernel
theorem dX9_prefix_25 : decode cX9_prefix 25 = .ok (.iconst 0, 1) := by decide +kernel
theorem dX9_prefix_26 : decode cX9_prefix 26 = .ok (.aload_n 0, 1) := by decide +kernel
theorem dX9_prefix_27 : decode cX9_prefix 27 = .ok (.getfield 7, 3) := by decide +kernel
theorem dX9_prefix_30 : decode cX9_prefix 30 = .ok (.iconst 1, 1) := by decide +kernel
theorem dX9_prefix_31 : decode cX9_prefix 31 = .ok (.iaload, 1) := by decide +kernel
theorem dX9_prefix_32 : decode cX9_prefix 32 = .ok (.invokestatic 42, 3) := by decide +kernel
theorem dX9_prefix_35 : decode cX9_prefix 35 = .ok (.ifCond .eq 12, 3) := by decide +kernel
theorem dX9_prefix_38 : decode cX9_prefix 38 = .ok (.aload_n 0, 1) := by decide +kernel
theorem dX9_prefix_39 : decode cX9_prefix 39 = .ok (.iload_n 1, 1) := by decide +kernel
theorem dX9_prefix_40 : decode cX9_prefix 40 = .ok (.iload_n 2, 1) := by decide +kernel
theorem dX9_prefix_41 : decode cX9_prefix 41 = .ok (.invokevirtual 50, 3) := by decide +kernel
theorem dX9_prefix_44 : decode cX9_prefix 44 = .ok (.goto 8, 3) := by decide +kernel
theorem dX9_prefix_47 : decode cX9_prefix 47 = .ok (.aload_n 0, 1) := by decide +kernel
theorem dX9_prefix_48 : decode cX9_prefix 48 = .ok (.iconst 1, 1) := by decide +kernel
theorem dX9_prefix_49 : decode cX9_prefix 49 = .ok (.invokevirtual 98, 3) := by decide +kernel
theorem dX9_prefix_52 : decode cX9_prefix 52 = .ok (.ireturn, 1) := by decide +kernel
theorem dX9_steps_0 : decode cX9_steps 0 = .ok (.aload_n 0, 1) := by decide +kernel
theorem dX9_steps_1 : decode cX9_steps 1 = .ok (.iconst 0, 1) := by decide +kernel
theorem dX9_steps_2 : decode cX9_steps 2 = .ok (.putfield 36, 3) := by decide +kernel
theorem dX9_steps_5 : decode cX9_steps 5 = .ok (.aload_n 0, 1) := by decide +kernel
theorem dX9_steps_6 : decode cX9_steps 6 = .ok (.invokevirtual 116, 3) := by decide +kernel
theorem dX9_steps_9 : decode cX9_steps 9 = .ok (.aload_n 0, 1) := by decide +kernel
theorem dX9_steps_10 : decode cX9_steps 10 = .ok (.getfield 64, 3) := by decide +kernel
theorem dX9_steps_13 : decode cX9_steps 13 = .ok (.ireturn, 1) := by decide +kernel
theorem dX9_step_0 : decode cX9_step 0 = .ok (.aload_n 0, 1) := by decide +kernel
theorem dX9_step_1 : decode cX9_step 1 = .ok (.iconst 0, 1) := by decide +kernel
theorem dX9_step_2 : decode cX9_step 2 = .ok (.putfield 36, 3) := by decide +kernel
theorem dX9_step_5 : decode cX9_step 5 = .ok (.iload_n 1, 1) := by decide +kernel
theorem dX9_step_6 : decode cX9_step 6 = .ok (.ifCond .ge 9, 3) := by decide +kernel
theorem dX9_step_9 : decode cX9_step 9 = .ok (.aload_n 0, 1) := by decide +kernel
theorem dX9_step_10 : decode cX9_step 10 = .ok (.iconst 1, 1) := by decide +kernel
theorem dX9_step_11 : decode cX9_step 11 = .ok (.invokevirtual 98, 3) := by decide +kernel
theorem dX9_step_14 : decode cX9_step 14 = .ok (.ireturn, 1) := by decide +kernel
theorem dX9_step_15 : decode cX9_step 15 = .ok (.aload_n 0, 1) := by decide +kernel
theorem dX9_step_16 : decode cX9_step 16 = .ok (.invokevirtual 116, 3) := by decide +kernel
theorem dX9_step_19 : decode cX9_step 19 = .ok (.iload_n 1, 1) := by decide +kernel
theorem dX9_step_20 : decode cX9_step 20 = .ok (.aload_n 0, 1) := by decide +kernel
theorem dX9_step_21 : decode cX9_step 21 = .ok (.getfield 64, 3) := by decide +kernel
theorem dX9_step_24 : decode cX9_step 24 = .ok (.if_icmp .ge 19, 3) := by decide +kernel
theorem dX9_step_27 : decode cX9_step 27 = .ok (.aload_n 0, 1) := by decide +kernel
theorem dX9_step_28 : decode cX9_step 28 = .ok (.getfield 33, 3) := by decide +kernel
theorem dX9_step_31 : decode cX9_step 31 = .ok (.aload_n 0, 1) := by decide +kernel
theorem dX9_step_32 : decode cX9_step 32 = .ok (.getfield 64, 3) := by decide +kernel
theorem dX9_step_35 : decode cX9_step 35 = .ok (.iconst 1, 1) := by decide +kernel
theorem dX9_step_36 : decode cX9_step 36 = .ok (.isub, 1) := by decide +kernel
theorem dX9_step_37 : decode cX9_step 37 = .ok (.iload_n 1, 1) := by decide +kernel
theorem dX9_step_38 : decode cX9_step 38 = .ok (.isub, 1) := by decide +kernel
theorem dX9_step_39 : decode cX9_step 39 = .ok (.iaload, 1) := by decide +kernel
theorem dX9_step_40 : decode cX9_step 40 = .ok (.goto 4, 3) := by decide +kernel
theorem dX9_step_43 : decode cX9_step 43 = .ok (.iconst (-1), 1) := by decide +kernel
theorem dX9_step_44 : decode cX9_step 44 = .ok (.ireturn, 1) := by decide +kernel
theorem dX9_count_0 : decode cX9_count 0 = .ok (.aload_n 0, 1) := by decide +kernel
theorem dX9_count_1 : decode cX9_count 1 = .ok (.iconst 0, 1) := by decide +kernel
theorem dX9_count_2 : decode cX9_count 2 = .ok (.putfield 36, 3) := by decide +kernel
theorem dX9_count_5 : decode cX9_count 5 = .ok (.iload_n 1, 1) := by decide +kernel
theorem dX9_count_6 : decode cX9_count 6 = .ok (.iconst 0, 1) := by decide +kernel
theorem dX9_count_7 : decode cX9_count 7 = .ok (.iconst 3, 1) := by decide +kernel
theorem dX9_count_8 : decode cX9_count 8 = .ok (.invokestatic 42, 3) := by decide +kernel
theorem dX9_count_11 : decode cX9_count 11 = .ok (.ifCond .ne 9, 3) := by decide +kernel
theorem dX9_count_14 : decode cX9_count 14 = .ok (.aload_n 0, 1) := by decide +kernel
theorem dX9_count_15 : decode cX9_count 15 = .ok (.iconst 1, 1) := by decide +kernel
theorem dX9_count_16 : decode cX9_count 16 = .ok (.invokevirtual 98, 3) := by decide +kernel
theorem dX9_count_19 : decode cX9_count 19 = .ok (.ireturn, 1) := by decide +kernel
theorem dX9_count_20 : decode cX9_count 20 = .ok (.aload_n 0, 1) := by decide +kernel
theorem dX9_count_21 : decode cX9_count 21 = .ok (.invokevirtual 116, 3) := by decide +kernel
theorem dX9_count_24 : decode cX9_count 24 = .ok (.iconst 0, 1) := by decide +kernel
theorem dX9_count_25 : decode cX9_count 25 = .ok (.istore_n 2, 1) := by decide +kernel
theorem dX9_count_26 : decode cX9_count 26 = .ok (.iconst 0, 1) := by decide +kernel
theorem dX9_count_27 : decode cX9_count 27 = .ok (.istore_n 3, 1) := by decide +kernel
theorem dX9_count_28 : decode cX9_count 28 = .ok (.iload_n 3, 1) := by decide +kernel
theorem dX9_count_29 : decode cX9_count 29 = .ok (.aload_n 0, 1) := by decide +kernel
theorem dX9_count_30 : decode cX9_count 30 = .ok (.getfield 64, 3) := by decide +kernel
theorem dX9_count_33 : decode cX9_count 33 = .ok (.if_icmp .ge 27, 3) := by decide +kernel
theorem dX9_count_36 : decode cX9_count 36 = .ok (.iload_n 2, 1) := by decide +kernel
theorem dX9_count_37 : decode cX9_count 37 = .ok (.aload_n 0, 1) := by decide +kernel
theorem dX9_count_38 : decode cX9_count 38 = .ok (.getfield 33, 3) := by decide +kernel
theorem dX9_count_41 : decode cX9_count 41 = .ok (.iload_n 3, 1) := by decide +kernel
theorem dX9_count_42 : decode cX9_count 42 = .ok (.iaload, 1) := by decide +kernel
theorem dX9_count_43 : decode cX9_count 43 = .ok (.iload_n 1, 1) := by decide +kernel
theorem dX9_count_44 : decode cX9_count 44 = .ok (.if_icmp .ne 7, 3) := by decide +kernel
theorem dX9_count_47 : decode cX9_count 47 = .ok (.iconst 1, 1) := by decide +kernel
theorem dX9_count_48 : decode cX9_count 48 = .ok (.goto 4, 3) := by decide +kernel
theorem dX9_count_51 : decode cX9_count 51 = .ok (.iconst 0, 1) := by decide +kernel
theorem dX9_count_52 : decode cX9_count 52 = .ok (.iadd, 1) := by decide +kernel
theorem dX9_count_53 : decode cX9_count 53 = .ok (.istore_n 2, 1) := by decide +kernel
theorem dX9_count_54 : decode cX9_count 54 = .ok (.iinc 3 1, 3) := by decide +kernel
theorem dX9_count_57 : decode cX9_count 57 = .ok (.goto (-29), 3) := by decide +kernel
theorem dX9_count_60 : decode cX9_count 60 = .ok (.iload_n 2, 1) := by decide +kernel
theorem dX9_count_61 : decode cX9_count 61 = .ok (.ireturn, 1) := by decide +kernel
theorem dX9_within_0 : decode cX9_within 0 = .ok (.aload_n 0, 1) := by decide +kernel
theorem dX9_within_1 : decode cX9_within 1 = .ok (.iconst 0, 1) := by decide +kernel
theorem dX9_within_2 : decode cX9_within 2 = .ok (.putfield 36, 3) := by decide +kernel
theorem dX9_within_5 : decode cX9_within 5 = .ok (.iload_n 1, 1) := by decide +kernel
theorem dX9_within_6 : decode cX9_within 6 = .ok (.iconst 0, 1) := by decide +kernel
theorem dX9_within_7 : decode cX9_within 7 = .ok (.bipush 20, 2) := by decide +kernel
theorem dX9_within_9 : decode cX9_within 9 = .ok (.invokestatic 42, 3) := by decide +kernel
theorem dX9_within_12 : decode cX9_within 12 = .ok (.ifCond .ne 9, 3) := by decide +kernel
theorem dX9_within_15 : decode cX9_within 15 = .ok (.aload_n 0, 1) := by decide +kernel
theorem dX9_within_16 : decode cX9_within 16 = .ok (.iconst 1, 1) := by decide +kernel
theorem dX9_within_17 : decode cX9_within 17 = .ok (.invokevirtual 98, 3) := by decide +kernel
theorem dX9_within_20 : decode cX9_within 20 = .ok (.ireturn, 1) := by decide +kernel
theorem dX9_within_21 : decode cX9_within 21 = .ok (.aload_n 0, 1) := by decide +kernel
theorem dX9_within_22 : decode cX9_within 22 = .ok (.invokevirtual 112, 3) := by decide +kernel
theorem dX9_within_25 : decode cX9_within 25 = .ok (.istore_n 2, 1) := by decide +kernel
theorem dX9_within_26 : decode cX9_within 26 = .ok (.iload_n 2, 1) := by decide +kernel
theorem dX9_within_27 : decode cX9_within 27 = .ok (.iload_n 1, 1) := by decide +kernel
theorem dX9_within_28 : decode cX9_within 28 = .ok (.if_icmp .le 7, 3) := by decide +kernel
theorem dX9_within_31 : decode cX9_within 31 = .ok (.iconst (-1), 1) := by decide +kernel
theorem dX9_within_32 : decode cX9_within 32 = .ok (.goto 4, 3) := by decide +kernel
theorem dX9_within_35 : decode cX9_within 35 = .ok (.iload_n 2, 1) := by decide +kernel
theorem dX9_within_36 : decode cX9_within 36 = .ok (.ireturn, 1) := by decide +kernel
theorem dX9_band_0 : decode cX9_band 0 = .ok (.aload_n 0, 1) := by decide +kernel
theorem dX9_band_1 : decode cX9_band 1 = .ok (.iconst 0, 1) := by decide +kernel
theorem dX9_band_2 : decode cX9_band 2 = .ok (.putfield 36, 3) := by decide +kernel
theorem dX9_band_5 : decode cX9_band 5 = .ok (.iload_n 1, 1) := by decide +kernel
theorem dX9_band_6 : decode cX9_band 6 = .ok (.iconst 0, 1) := by decide +kernel
theorem dX9_band_7 : decode cX9_band 7 = .ok (.bipush 20, 2) := by decide +kernel
theorem dX9_band_9 : decode cX9_band 9 = .ok (.invokestatic 42, 3) := by decide +kernel
theorem dX9_band_12 : decode cX9_band 12 = .ok (.ifCond .ne 9, 3) := by decide +kernel
theorem dX9_band_15 : decode cX9_band 15 = .ok (.aload_n 0, 1) := by decide +kernel
theorem dX9_band_16 : decode cX9_band 16 = .ok (.iconst 1, 1) := by decide +kernel
theorem dX9_band_17 : decode cX9_band 17 = .ok (.invokevirtual 98, 3) := by decide +kernel
theorem dX9_band_20 : decode cX9_band 20 = .ok (.ireturn, 1) := by decide +kernel
theorem dX9_band_21 : decode cX9_band 21 = .ok (.iconst 0, 1) := by decide +kernel
theorem dX9_band_22 : decode cX9_band 22 = .ok (.istore_n 2, 1) := by decide +kernel
theorem dX9_band_23 : decode cX9_band 23 = .ok (.iconst 0, 1) := by decide +kernel
theorem dX9_band_24 : decode cX9_band 24 = .ok (.istore_n 3, 1) := by decide +kernel
theorem dX9_band_25 : decode cX9_band 25 = .ok (.iload_n 3, 1) := by decide +kernel
theorem dX9_band_26 : decode cX9_band 26 = .ok (.aload_n 0, 1) := by decide +kernel
theorem dX9_band_27 : decode cX9_band 27 = .ok (.getfield 7, 3) := by decide +kernel
theorem dX9_band_30 : decode cX9_band 30 = .ok (.iconst 0, 1) := by decide +kernel
theorem dX9_band_31 : decode cX9_band 31 = .ok (.iaload, 1) := by decide +kernel
theorem dX9_band_32 : decode cX9_band 32 = .ok (.if_icmp .gt 50, 3) := by decide +kernel
theorem dX9_band_35 : decode cX9_band 35 = .ok (.iconst 0, 1) := by decide +kernel
theorem dX9_band_36 : decode cX9_band 36 = .ok (.istore 4, 2) := by decide +kernel
theorem dX9_band_38 : decode cX9_band 38 = .ok (.iload 4, 2) := by decide +kernel
theorem dX9_band_40 : decode cX9_band 40 = .ok (.aload_n 0, 1) := by decide +kernel
theorem dX9_band_41 : decode cX9_band 41 = .ok (.getfield 7, 3) := by decide +kernel
theorem dX9_band_44 : decode cX9_band 44 = .ok (.iconst 1, 1) := by decide +kernel
theorem dX9_band_45 : decode cX9_band 45 = .ok (.iaload, 1) := by decide +kernel
theorem dX9_band_46 : decode cX9_band 46 = .ok (.if_icmp .gt 30, 3) := by decide +kernel
theorem dX9_band_49 : decode cX9_band 49 = .ok (.iload_n 2, 1) := by decide +kernel
theorem dX9_band_50 : decode cX9_band 50 = .ok (.iload_n 3, 1) := by decide +kernel
theorem dX9_band_51 : decode cX9_band 51 = .ok (.iload 4, 2) := by decide +kernel
theorem dX9_band_53 : decode cX9_band 53 = .ok (.isub, 1) := by decide +kernel
theorem dX9_band_54 : decode cX9_band 54 = .ok (.iload_n 1, 1) := by decide +kernel
theorem dX9_band_55 : decode cX9_band 55 = .ok (.ineg, 1) := by decide +kernel
theorem dX9_band_56 : decode cX9_band 56 = .ok (.iload_n 1, 1) := by decide +kernel
theorem dX9_band_57 : decode cX9_band 57 = .ok (.invokestatic 42, 3) := by decide +kernel
theorem dX9_band_60 : decode cX9_band 60 = .ok (.ifCond .eq 7, 3) := by decide +kernel
theorem dX9_band_63 : decode cX9_band 63 = .ok (.iconst 1, 1) := by decide +kernel
theorem dX9_band_64 : decode cX9_band 64 = .ok (.goto 4, 3) := by decide +kernel
theorem dX9_band_67 : decode cX9_band 67 = .ok (.iconst 0, 1) := by decide +kernel
theorem dX9_band_68 : decode cX9_band 68 = .ok (.iadd, 1) := by decide +kernel
theorem dX9_band_69 : decode cX9_band 69 = .ok (.istore_n 2, 1) := by decide +kernel
theorem dX9_band_70 : decode cX9_band 70 = .ok (.iinc 4 1, 3) := by decide +kernel
theorem dX9_band_73 : decode cX9_band 73 = .ok (.goto (-35), 3) := by decide +kernel
