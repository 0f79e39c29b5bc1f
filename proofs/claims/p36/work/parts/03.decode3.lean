theorem dL_does_110 : decode cL_does 110 = .ok (.iadd, 1) := by decide +kernel
theorem dL_does_111 : decode cL_does 111 = .ok (.invokestatic 14, 3) := by decide +kernel
theorem dL_does_114 : decode cL_does 114 = .ok (.iload 4, 2) := by decide +kernel
theorem dL_does_116 : decode cL_does 116 = .ok (.invokevirtual 20, 3) := by decide +kernel
theorem dL_does_119 : decode cL_does 119 = .ok (.ireturn, 1) := by decide +kernel
theorem dL_does_120 : decode cL_does 120 = .ok (.iload_n 3, 1) := by decide +kernel
theorem dL_does_121 : decode cL_does 121 = .ok (.ifCond .ne 7, 3) := by decide +kernel
theorem dL_does_124 : decode cL_does 124 = .ok (.iconst 0, 1) := by decide +kernel
theorem dL_does_125 : decode cL_does 125 = .ok (.goto 16, 3) := by decide +kernel
theorem dL_does_128 : decode cL_does 128 = .ok (.aload_n 0, 1) := by decide +kernel
theorem dL_does_129 : decode cL_does 129 = .ok (.iload_n 2, 1) := by decide +kernel
theorem dL_does_130 : decode cL_does 130 = .ok (.iload_n 1, 1) := by decide +kernel
theorem dL_does_131 : decode cL_does 131 = .ok (.bipush 7, 2) := by decide +kernel
theorem dL_does_133 : decode cL_does 133 = .ok (.ishr, 1) := by decide +kernel
theorem dL_does_134 : decode cL_does 134 = .ok (.iload_n 3, 1) := by decide +kernel
theorem dL_does_135 : decode cL_does 135 = .ok (.invokestatic 14, 3) := by decide +kernel
theorem dL_does_138 : decode cL_does 138 = .ok (.invokevirtual 24, 3) := by decide +kernel
theorem dL_does_141 : decode cL_does 141 = .ok (.ireturn, 1) := by decide +kernel
theorem dL_does_142 : decode cL_does 142 = .ok (.iload_n 3, 1) := by decide +kernel
theorem dL_does_143 : decode cL_does 143 = .ok (.ifCond .ne 7, 3) := by decide +kernel
theorem dL_does_146 : decode cL_does 146 = .ok (.iconst 0, 1) := by decide +kernel
theorem dL_does_147 : decode cL_does 147 = .ok (.goto 18, 3) := by decide +kernel
theorem dL_does_150 : decode cL_does 150 = .ok (.aload_n 0, 1) := by decide +kernel
theorem dL_does_151 : decode cL_does 151 = .ok (.iload_n 2, 1) := by decide +kernel
theorem dL_does_152 : decode cL_does 152 = .ok (.iload_n 1, 1) := by decide +kernel
theorem dL_does_153 : decode cL_does 153 = .ok (.bipush 7, 2) := by decide +kernel
theorem dL_does_155 : decode cL_does 155 = .ok (.ishr, 1) := by decide +kernel
theorem dL_does_156 : decode cL_does 156 = .ok (.iload_n 3, 1) := by decide +kernel
theorem dL_does_157 : decode cL_does 157 = .ok (.invokestatic 14, 3) := by decide +kernel
theorem dL_does_160 : decode cL_does 160 = .ok (.iload 4, 2) := by decide +kernel
theorem dL_does_162 : decode cL_does 162 = .ok (.invokevirtual 27, 3) := by decide +kernel
theorem dL_does_165 : decode cL_does 165 = .ok (.ireturn, 1) := by decide +kernel
theorem dL_does_166 : decode cL_does 166 = .ok (.aload_n 0, 1) := by decide +kernel
theorem dL_does_167 : decode cL_does 167 = .ok (.invokevirtual 30, 3) := by decide +kernel
theorem dL_does_170 : decode cL_does 170 = .ok (.ireturn, 1) := by decide +kernel
theorem dL_does_171 : decode cL_does 171 = .ok (.iload_n 1, 1) := by decide +kernel
theorem dL_does_172 : decode cL_does 172 = .ok (.iconst 5, 1) := by decide +kernel
theorem dL_does_173 : decode cL_does 173 = .ok (.ishr, 1) := by decide +kernel
theorem dL_does_174 : decode cL_does 174 = .ok (.iconst 3, 1) := by decide +kernel
theorem dL_does_175 : decode cL_does 175 = .ok (.iand, 1) := by decide +kernel
theorem dL_does_176 : decode cL_does 176 = .ok (.ifCond .le 7, 3) := by decide +kernel
theorem dL_does_179 : decode cL_does 179 = .ok (.iconst 0, 1) := by decide +kernel
theorem dL_does_180 : decode cL_does 180 = .ok (.goto 15, 3) := by decide +kernel
theorem dL_does_183 : decode cL_does 183 = .ok (.aload_n 0, 1) := by decide +kernel
theorem dL_does_184 : decode cL_does 184 = .ok (.iconst 1, 1) := by decide +kernel
theorem dL_does_185 : decode cL_does 185 = .ok (.iload_n 1, 1) := by decide +kernel
theorem dL_does_186 : decode cL_does 186 = .ok (.bipush 7, 2) := by decide +kernel
theorem dL_does_188 : decode cL_does 188 = .ok (.ishr, 1) := by decide +kernel
theorem dL_does_189 : decode cL_does 189 = .ok (.iconst 1, 1) := by decide +kernel
theorem dL_does_190 : decode cL_does 190 = .ok (.iand, 1) := by decide +kernel
theorem dL_does_191 : decode cL_does 191 = .ok (.iadd, 1) := by decide +kernel
theorem dL_does_192 : decode cL_does 192 = .ok (.invokevirtual 34, 3) := by decide +kernel
theorem dL_does_195 : decode cL_does 195 = .ok (.ireturn, 1) := by decide +kernel
theorem dL_does_196 : decode cL_does 196 = .ok (.aload_n 0, 1) := by decide +kernel
theorem dL_does_197 : decode cL_does 197 = .ok (.invokevirtual 37, 3) := by decide +kernel
theorem dL_does_200 : decode cL_does 200 = .ok (.ifCond .ne 7, 3) := by decide +kernel
theorem dL_does_203 : decode cL_does 203 = .ok (.iconst 0, 1) := by decide +kernel
theorem dL_does_204 : decode cL_does 204 = .ok (.goto 7, 3) := by decide +kernel
theorem dL_does_207 : decode cL_does 207 = .ok (.aload_n 0, 1) := by decide +kernel
theorem dL_does_208 : decode cL_does 208 = .ok (.invokevirtual 40, 3) := by decide +kernel
theorem dL_does_211 : decode cL_does 211 = .ok (.ireturn, 1) := by decide +kernel
theorem dL_does_212 : decode cL_does 212 = .ok (.aload_n 0, 1) := by decide +kernel
theorem dL_does_213 : decode cL_does 213 = .ok (.iconst 3, 1) := by decide +kernel
theorem dL_does_214 : decode cL_does 214 = .ok (.iload_n 1, 1) := by decide +kernel
theorem dL_does_215 : decode cL_does 215 = .ok (.iconst 4, 1) := by decide +kernel
theorem dL_does_216 : decode cL_does 216 = .ok (.ishr, 1) := by decide +kernel
theorem dL_does_217 : decode cL_does 217 = .ok (.iconst 1, 1) := by decide +kernel
theorem dL_does_218 : decode cL_does 218 = .ok (.iand, 1) := by decide +kernel
theorem dL_does_219 : decode cL_does 219 = .ok (.iadd, 1) := by decide +kernel
theorem dL_does_220 : decode cL_does 220 = .ok (.invokevirtual 43, 3) := by decide +kernel
theorem dL_does_223 : decode cL_does 223 = .ok (.ireturn, 1) := by decide +kernel
theorem dL_does_224 : decode cL_does 224 = .ok (.aload_n 0, 1) := by decide +kernel
theorem dL_does_225 : decode cL_does 225 = .ok (.invokevirtual 46, 3) := by decide +kernel
theorem dL_does_228 : decode cL_does 228 = .ok (.ireturn, 1) := by decide +kernel
theorem dL_least_0 : decode cL_least 0 = .ok (.iload_n 0, 1) := by decide +kernel
theorem dL_least_1 : decode cL_least 1 = .ok (.iload_n 1, 1) := by decide +kernel
theorem dL_least_2 : decode cL_least 2 = .ok (.if_icmp .ge 7, 3) := by decide +kernel
theorem dL_least_5 : decode cL_least 5 = .ok (.iload_n 0, 1) := by decide +kernel
theorem dL_least_6 : decode cL_least 6 = .ok (.goto 4, 3) := by decide +kernel
theorem dL_least_9 : decode cL_least 9 = .ok (.iload_n 1, 1) := by decide +kernel
theorem dL_least_10 : decode cL_least 10 = .ok (.istore_n 3, 1) := by decide +kernel
theorem dL_least_11 : decode cL_least 11 = .ok (.iload_n 3, 1) := by decide +kernel
theorem dL_least_12 : decode cL_least 12 = .ok (.iload_n 2, 1) := by decide +kernel
theorem dL_least_13 : decode cL_least 13 = .ok (.if_icmp .ge 7, 3) := by decide +kernel
theorem dL_least_16 : decode cL_least 16 = .ok (.iload_n 3, 1) := by decide +kernel
theorem dL_least_17 : decode cL_least 17 = .ok (.goto 4, 3) := by decide +kernel
theorem dL_least_20 : decode cL_least 20 = .ok (.iload_n 2, 1) := by decide +kernel
theorem dL_least_21 : decode cL_least 21 = .ok (.ireturn, 1) := by decide +kernel
theorem dL_isGridSo_0 : decode cL_isGridSo 0 = .ok (.aload_n 0, 1) := by decide +kernel
theorem dL_isGridSo_1 : decode cL_isGridSo 1 = .ok (.iconst 0, 1) := by decide +kernel
theorem dL_isGridSo_2 : decode cL_isGridSo 2 = .ok (.invokevirtual 8, 3) := by decide +kernel
theorem dL_isGridSo_5 : decode cL_isGridSo 5 = .ok (.istore_n 1, 1) := by decide +kernel
theorem dL_isGridSo_6 : decode cL_isGridSo 6 = .ok (.aload_n 0, 1) := by decide +kernel
theorem dL_isGridSo_7 : decode cL_isGridSo 7 = .ok (.iconst 1, 1) := by decide +kernel
theorem dL_isGridSo_8 : decode cL_isGridSo 8 = .ok (.invokevirtual 8, 3) := by decide +kernel
theorem dL_isGridSo_11 : decode cL_isGridSo 11 = .ok (.istore_n 2, 1) := by decide +kernel
theorem dL_isGridSo_12 : decode cL_isGridSo 12 = .ok (.iconst 1, 1) := by decide +kernel
theorem dL_isGridSo_13 : decode cL_isGridSo 13 = .ok (.istore_n 3, 1) := by decide +kernel
theorem dL_isGridSo_14 : decode cL_isGridSo 14 = .ok (.iconst 0, 1) := by decide +kernel
theorem dL_isGridSo_15 : decode cL_isGridSo 15 = .ok (.istore 4, 2) := by decide +kernel
theorem dL_isGridSo_17 : decode cL_isGridSo 17 = .ok (.iload 4, 2) := by decide +kernel
theorem dL_isGridSo_19 : decode cL_isGridSo 19 = .ok (.iload_n 1, 1) := by decide +kernel
theorem dL_isGridSo_20 : decode cL_isGridSo 20 = .ok (.if_icmp .gt 189, 3) := by decide +kernel
theorem dL_isGridSo_23 : decode cL_isGridSo 23 = .ok (.iconst 0, 1) := by decide +kernel
theorem dL_isGridSo_24 : decode cL_isGridSo 24 = .ok (.istore 5, 2) := by decide +kernel
theorem dL_isGridSo_26 : decode cL_isGridSo 26 = .ok (.iload 5, 2) := by decide +kernel
theorem dL_isGridSo_28 : decode cL_isGridSo 28 = .ok (.iload_n 2, 1) := by decide +kernel
theorem dL_isGridSo_29 : decode cL_isGridSo 29 = .ok (.if_icmp .gt 174, 3) := by decide +kernel
theorem dL_isGridSo_32 : decode cL_isGridSo 32 = .ok (.iload 4, 2) := by decide +kernel
theorem dL_isGridSo_34 : decode cL_isGridSo 34 = .ok (.ifCond .ne 8, 3) := by decide +kernel
theorem dL_isGridSo_37 : decode cL_isGridSo 37 = .ok (.iload 5, 2) := by decide +kernel
theorem dL_isGridSo_39 : decode cL_isGridSo 39 = .ok (.goto 79, 3) := by decide +kernel
theorem dL_isGridSo_42 : decode cL_isGridSo 42 = .ok (.iload 5, 2) := by decide +kernel
theorem dL_isGridSo_44 : decode cL_isGridSo 44 = .ok (.ifCond .ne 8, 3) := by decide +kernel
theorem dL_isGridSo_47 : decode cL_isGridSo 47 = .ok (.iload 4, 2) := by decide +kernel
theorem dL_isGridSo_49 : decode cL_isGridSo 49 = .ok (.goto 69, 3) := by decide +kernel
theorem dL_isGridSo_52 : decode cL_isGridSo 52 = .ok (.aload_n 0, 1) := by decide +kernel
theorem dL_isGridSo_53 : decode cL_isGridSo 53 = .ok (.iload 4, 2) := by decide +kernel
theorem dL_isGridSo_55 : decode cL_isGridSo 55 = .ok (.iconst 1, 1) := by decide +kernel
theorem dL_isGridSo_56 : decode cL_isGridSo 56 = .ok (.isub, 1) := by decide +kernel
theorem dL_isGridSo_57 : decode cL_isGridSo 57 = .ok (.iload 5, 2) := by decide +kernel
theorem dL_isGridSo_59 : decode cL_isGridSo 59 = .ok (.invokevirtual 49, 3) := by decide +kernel
theorem dL_isGridSo_62 : decode cL_isGridSo 62 = .ok (.iconst 1, 1) := by decide +kernel
theorem dL_isGridSo_63 : decode cL_isGridSo 63 = .ok (.iadd, 1) := by decide +kernel
theorem dL_isGridSo_64 : decode cL_isGridSo 64 = .ok (.aload_n 0, 1) := by decide +kernel
theorem dL_isGridSo_65 : decode cL_isGridSo 65 = .ok (.iload 4, 2) := by decide +kernel
theorem dL_isGridSo_67 : decode cL_isGridSo 67 = .ok (.iload 5, 2) := by decide +kernel
theorem dL_isGridSo_69 : decode cL_isGridSo 69 = .ok (.iconst 1, 1) := by decide +kernel
theorem dL_isGridSo_70 : decode cL_isGridSo 70 = .ok (.isub, 1) := by decide +kernel
theorem dL_isGridSo_71 : decode cL_isGridSo 71 = .ok (.invokevirtual 49, 3) := by decide +kernel
theorem dL_isGridSo_74 : decode cL_isGridSo 74 = .ok (.iconst 1, 1) := by decide +kernel
theorem dL_isGridSo_75 : decode cL_isGridSo 75 = .ok (.iadd, 1) := by decide +kernel
theorem dL_isGridSo_76 : decode cL_isGridSo 76 = .ok (.aload_n 0, 1) := by decide +kernel
theorem dL_isGridSo_77 : decode cL_isGridSo 77 = .ok (.iload 4, 2) := by decide +kernel
theorem dL_isGridSo_79 : decode cL_isGridSo 79 = .ok (.iconst 1, 1) := by decide +kernel
theorem dL_isGridSo_80 : decode cL_isGridSo 80 = .ok (.isub, 1) := by decide +kernel
theorem dL_isGridSo_81 : decode cL_isGridSo 81 = .ok (.iload 5, 2) := by decide +kernel
theorem dL_isGridSo_83 : decode cL_isGridSo 83 = .ok (.iconst 1, 1) := by decide +kernel
theorem dL_isGridSo_84 : decode cL_isGridSo 84 = .ok (.isub, 1) := by decide +kernel
theorem dL_isGridSo_85 : decode cL_isGridSo 85 = .ok (.invokevirtual 49, 3) := by decide +kernel
theorem dL_isGridSo_88 : decode cL_isGridSo 88 = .ok (.aload_n 0, 1) := by decide +kernel
theorem dL_isGridSo_89 : decode cL_isGridSo 89 = .ok (.iconst 0, 1) := by decide +kernel
theorem dL_isGridSo_90 : decode cL_isGridSo 90 = .ok (.iload 4, 2) := by decide +kernel
theorem dL_isGridSo_92 : decode cL_isGridSo 92 = .ok (.iconst 1, 1) := by decide +kernel
theorem dL_isGridSo_93 : decode cL_isGridSo 93 = .ok (.isub, 1) := by decide +kernel
theorem dL_isGridSo_94 : decode cL_isGridSo 94 = .ok (.invokevirtual 52, 3) := by decide +kernel
theorem dL_isGridSo_97 : decode cL_isGridSo 97 = .ok (.aload_n 0, 1) := by decide +kernel
theorem dL_isGridSo_98 : decode cL_isGridSo 98 = .ok (.iconst 1, 1) := by decide +kernel
theorem dL_isGridSo_99 : decode cL_isGridSo 99 = .ok (.iload 5, 2) := by decide +kernel
theorem dL_isGridSo_101 : decode cL_isGridSo 101 = .ok (.iconst 1, 1) := by decide +kernel
theorem dL_isGridSo_102 : decode cL_isGridSo 102 = .ok (.isub, 1) := by decide +kernel
theorem dL_isGridSo_103 : decode cL_isGridSo 103 = .ok (.invokevirtual 52, 3) := by decide +kernel
theorem dL_isGridSo_106 : decode cL_isGridSo 106 = .ok (.if_icmp .ne 7, 3) := by decide +kernel
theorem dL_isGridSo_109 : decode cL_isGridSo 109 = .ok (.iconst 0, 1) := by decide +kernel
theorem dL_isGridSo_110 : decode cL_isGridSo 110 = .ok (.goto 4, 3) := by decide +kernel
theorem dL_isGridSo_113 : decode cL_isGridSo 113 = .ok (.iconst 1, 1) := by decide +kernel
theorem dL_isGridSo_114 : decode cL_isGridSo 114 = .ok (.iadd, 1) := by decide +kernel
theorem dL_isGridSo_115 : decode cL_isGridSo 115 = .ok (.invokestatic 55, 3) := by decide +kernel
theorem dL_isGridSo_118 : decode cL_isGridSo 118 = .ok (.istore 6, 2) := by decide +kernel
theorem dL_isGridSo_120 : decode cL_isGridSo 120 = .ok (.iload_n 3, 1) := by decide +kernel
theorem dL_isGridSo_121 : decode cL_isGridSo 121 = .ok (.ifCond .eq 74, 3) := by decide +kernel
theorem dL_isGridSo_124 : decode cL_isGridSo 124 = .ok (.aload_n 0, 1) := by decide +kernel
theorem dL_isGridSo_125 : decode cL_isGridSo 125 = .ok (.iload 4, 2) := by decide +kernel
theorem dL_isGridSo_127 : decode cL_isGridSo 127 = .ok (.iload 5, 2) := by decide +kernel
theorem dL_isGridSo_129 : decode cL_isGridSo 129 = .ok (.invokevirtual 49, 3) := by decide +kernel
theorem dL_isGridSo_132 : decode cL_isGridSo 132 = .ok (.iload 6, 2) := by decide +kernel
theorem dL_isGridSo_134 : decode cL_isGridSo 134 = .ok (.if_icmp .ne 61, 3) := by decide +kernel
theorem dL_isGridSo_137 : decode cL_isGridSo 137 = .ok (.iload 5, 2) := by decide +kernel
theorem dL_isGridSo_139 : decode cL_isGridSo 139 = .ok (.ifCond .eq 52, 3) := by decide +kernel
theorem dL_isGridSo_142 : decode cL_isGridSo 142 = .ok (.aload_n 0, 1) := by decide +kernel
theorem dL_isGridSo_143 : decode cL_isGridSo 143 = .ok (.iload 4, 2) := by decide +kernel
theorem dL_isGridSo_145 : decode cL_isGridSo 145 = .ok (.iload 5, 2) := by decide +kernel
theorem dL_isGridSo_147 : decode cL_isGridSo 147 = .ok (.invokevirtual 58, 3) := by decide +kernel
theorem dL_isGridSo_150 : decode cL_isGridSo 150 = .ok (.iload 6, 2) := by decide +kernel
theorem dL_isGridSo_152 : decode cL_isGridSo 152 = .ok (.aload_n 0, 1) := by decide +kernel
theorem dL_isGridSo_153 : decode cL_isGridSo 153 = .ok (.iload 4, 2) := by decide +kernel
theorem dL_isGridSo_155 : decode cL_isGridSo 155 = .ok (.iload 5, 2) := by decide +kernel
theorem dL_isGridSo_157 : decode cL_isGridSo 157 = .ok (.iconst 1, 1) := by decide +kernel
theorem dL_isGridSo_158 : decode cL_isGridSo 158 = .ok (.isub, 1) := by decide +kernel
theorem dL_isGridSo_159 : decode cL_isGridSo 159 = .ok (.invokevirtual 49, 3) := by decide +kernel
theorem dL_isGridSo_162 : decode cL_isGridSo 162 = .ok (.isub, 1) := by decide +kernel
theorem dL_isGridSo_163 : decode cL_isGridSo 163 = .ok (.if_icmp .ne 32, 3) := by decide +kernel
theorem dL_isGridSo_166 : decode cL_isGridSo 166 = .ok (.aload_n 0, 1) := by decide +kernel
theorem dL_isGridSo_167 : decode cL_isGridSo 167 = .ok (.iload 4, 2) := by decide +kernel
theorem dL_isGridSo_169 : decode cL_isGridSo 169 = .ok (.iload 5, 2) := by decide +kernel
theorem dL_isGridSo_171 : decode cL_isGridSo 171 = .ok (.invokevirtual 58, 3) := by decide +kernel
theorem dL_isGridSo_174 : decode cL_isGridSo 174 = .ok (.iconst 2, 1) := by decide +kernel
theorem dL_isGridSo_175 : decode cL_isGridSo 175 = .ok (.if_icmp .ge 20, 3) := by decide +kernel
theorem dL_isGridSo_178 : decode cL_isGridSo 178 = .ok (.aload_n 0, 1) := by decide +kernel
theorem dL_isGridSo_179 : decode cL_isGridSo 179 = .ok (.iload 4, 2) := by decide +kernel
theorem dL_isGridSo_181 : decode cL_isGridSo 181 = .ok (.iload 5, 2) := by decide +kernel
theorem dL_isGridSo_183 : decode cL_isGridSo 183 = .ok (.invokevirtual 58, 3) := by decide +kernel
theorem dL_isGridSo_186 : decode cL_isGridSo 186 = .ok (.bipush (-2), 2) := by decide +kernel
theorem dL_isGridSo_188 : decode cL_isGridSo 188 = .ok (.if_icmp .le 7, 3) := by decide +kernel
theorem dL_isGridSo_191 : decode cL_isGridSo 191 = .ok (.iconst 1, 1) := by decide +kernel
theorem dL_isGridSo_192 : decode cL_isGridSo 192 = .ok (.goto 4, 3) := by decide +kernel
theorem dL_isGridSo_195 : decode cL_isGridSo 195 = .ok (.iconst 0, 1) := by decide +kernel
theorem dL_isGridSo_196 : decode cL_isGridSo 196 = .ok (.istore_n 3, 1) := by decide +kernel
theorem dL_isGridSo_197 : decode cL_isGridSo 197 = .ok (.iinc 5 1, 3) := by decide +kernel
theorem dL_isGridSo_200 : decode cL_isGridSo 200 = .ok (.goto (-174), 3) := by decide +kernel
theorem dL_isGridSo_203 : decode cL_isGridSo 203 = .ok (.iinc 4 1, 3) := by decide +kernel
theorem dL_isGridSo_206 : decode cL_isGridSo 206 = .ok (.goto (-189), 3) := by decide +kernel
theorem dL_isGridSo_209 : decode cL_isGridSo 209 = .ok (.iload_n 3, 1) := by decide +kernel
theorem dL_isGridSo_210 : decode cL_isGridSo 210 = .ok (.ifCond .eq 20, 3) := by decide +kernel
theorem dL_isGridSo_213 : decode cL_isGridSo 213 = .ok (.aload_n 0, 1) := by decide +kernel
theorem dL_isGridSo_214 : decode cL_isGridSo 214 = .ok (.invokevirtual 61, 3) := by decide +kernel
theorem dL_isGridSo_217 : decode cL_isGridSo 217 = .ok (.aload_n 0, 1) := by decide +kernel
theorem dL_isGridSo_218 : decode cL_isGridSo 218 = .ok (.iload_n 1, 1) := by decide +kernel
theorem dL_isGridSo_219 : decode cL_isGridSo 219 = .ok (.iload_n 2, 1) := by decide +kernel
theorem dL_isGridSo_220 : decode cL_isGridSo 220 = .ok (.invokevirtual 49, 3) := by decide +kernel
theorem dL_isGridSo_223 : decode cL_isGridSo 223 = .ok (.if_icmp .ne 7, 3) := by decide +kernel
theorem dL_isGridSo_226 : decode cL_isGridSo 226 = .ok (.iconst 1, 1) := by decide +kernel
theorem dL_isGridSo_227 : decode cL_isGridSo 227 = .ok (.goto 4, 3) := by decide +kernel
theorem dL_isGridSo_230 : decode cL_isGridSo 230 = .ok (.iconst 0, 1) := by decide +kernel
theorem dL_isGridSo_231 : decode cL_isGridSo 231 = .ok (.ireturn, 1) := by decide +kernel
theorem dL_isWaySo_0 : decode cL_isWaySo 0 = .ok (.aload_n 0, 1) := by decide +kernel
theorem dL_isWaySo_1 : decode cL_isWaySo 1 = .ok (.iconst 0, 1) := by decide +kernel
theorem dL_isWaySo_2 : decode cL_isWaySo 2 = .ok (.invokevirtual 8, 3) := by decide +kernel
theorem dL_isWaySo_5 : decode cL_isWaySo 5 = .ok (.istore_n 1, 1) := by decide +kernel
theorem dL_isWaySo_6 : decode cL_isWaySo 6 = .ok (.aload_n 0, 1) := by decide +kernel
theorem dL_isWaySo_7 : decode cL_isWaySo 7 = .ok (.iconst 1, 1) := by decide +kernel
theorem dL_isWaySo_8 : decode cL_isWaySo 8 = .ok (.invokevirtual 8, 3) := by decide +kernel
theorem dL_isWaySo_11 : decode cL_isWaySo 11 = .ok (.istore_n 2, 1) := by decide +kernel
theorem dL_isWaySo_12 : decode cL_isWaySo 12 = .ok (.iconst 4, 1) := by decide +kernel
theorem dL_isWaySo_13 : decode cL_isWaySo 13 = .ok (.newarray .int, 2) := by decide +kernel
theorem dL_isWaySo_15 : decode cL_isWaySo 15 = .ok (.astore_n 3, 1) := by decide +kernel
theorem dL_isWaySo_16 : decode cL_isWaySo 16 = .ok (.iconst 1, 1) := by decide +kernel
theorem dL_isWaySo_17 : decode cL_isWaySo 17 = .ok (.istore 4, 2) := by decide +kernel
theorem dL_isWaySo_19 : decode cL_isWaySo 19 = .ok (.aload_n 0, 1) := by decide +kernel
theorem dL_isWaySo_20 : decode cL_isWaySo 20 = .ok (.invokevirtual 64, 3) := by decide +kernel
theorem dL_isWaySo_23 : decode cL_isWaySo 23 = .ok (.iconst 1, 1) := by decide +kernel
theorem dL_isWaySo_24 : decode cL_isWaySo 24 = .ok (.isub, 1) := by decide +kernel
theorem dL_isWaySo_25 : decode cL_isWaySo 25 = .ok (.istore 5, 2) := by decide +kernel
theorem dL_isWaySo_27 : decode cL_isWaySo 27 = .ok (.iload 5, 2) := by decide +kernel
theorem dL_isWaySo_29 : decode cL_isWaySo 29 = .ok (.ifCond .lt 184, 3) := by decide +kernel
theorem dL_isWaySo_32 : decode cL_isWaySo 32 = .ok (.aload_n 0, 1) := by decide +kernel
theorem dL_isWaySo_33 : decode cL_isWaySo 33 = .ok (.iload_n 1, 1) := by decide +kernel
theorem dL_isWaySo_34 : decode cL_isWaySo 34 = .ok (.iload_n 2, 1) := by decide +kernel
theorem dL_isWaySo_35 : decode cL_isWaySo 35 = .ok (.invokevirtual 49, 3) := by decide +kernel
theorem dL_isWaySo_38 : decode cL_isWaySo 38 = .ok (.istore 6, 2) := by decide +kernel
theorem dL_isWaySo_40 : decode cL_isWaySo 40 = .ok (.iload_n 1, 1) := by decide +kernel
theorem dL_isWaySo_41 : decode cL_isWaySo 41 = .ok (.ifCond .le 30, 3) := by decide +kernel
theorem dL_isWaySo_44 : decode cL_isWaySo 44 = .ok (.iload_n 2, 1) := by decide +kernel
theorem dL_isWaySo_45 : decode cL_isWaySo 45 = .ok (.ifCond .le 26, 3) := by decide +kernel
theorem dL_isWaySo_48 : decode cL_isWaySo 48 = .ok (.aload_n 0, 1) := by decide +kernel
theorem dL_isWaySo_49 : decode cL_isWaySo 49 = .ok (.iconst 0, 1) := by decide +kernel
theorem dL_isWaySo_50 : decode cL_isWaySo 50 = .ok (.iload_n 1, 1) := by decide +kernel
theorem dL_isWaySo_51 : decode cL_isWaySo 51 = .ok (.iconst 1, 1) := by decide +kernel
theorem dL_isWaySo_52 : decode cL_isWaySo 52 = .ok (.isub, 1) := by decide +kernel
theorem dL_isWaySo_53 : decode cL_isWaySo 53 = .ok (.invokevirtual 52, 3) := by decide +kernel
theorem dL_isWaySo_56 : decode cL_isWaySo 56 = .ok (.aload_n 0, 1) := by decide +kernel
theorem dL_isWaySo_57 : decode cL_isWaySo 57 = .ok (.iconst 1, 1) := by decide +kernel
theorem dL_isWaySo_58 : decode cL_isWaySo 58 = .ok (.iload_n 2, 1) := by decide +kernel
theorem dL_isWaySo_59 : decode cL_isWaySo 59 = .ok (.iconst 1, 1) := by decide +kernel
theorem dL_isWaySo_60 : decode cL_isWaySo 60 = .ok (.isub, 1) := by decide +kernel
theorem dL_isWaySo_61 : decode cL_isWaySo 61 = .ok (.invokevirtual 52, 3) := by decide +kernel
theorem dL_isWaySo_64 : decode cL_isWaySo 64 = .ok (.if_icmp .ne 7, 3) := by decide +kernel
theorem dL_isWaySo_67 : decode cL_isWaySo 67 = .ok (.iconst 0, 1) := by decide +kernel
theorem dL_isWaySo_68 : decode cL_isWaySo 68 = .ok (.goto 4, 3) := by decide +kernel
theorem dL_isWaySo_71 : decode cL_isWaySo 71 = .ok (.iconst 1, 1) := by decide +kernel
theorem dL_isWaySo_72 : decode cL_isWaySo 72 = .ok (.istore 7, 2) := by decide +kernel
theorem dL_isWaySo_74 : decode cL_isWaySo 74 = .ok (.iload_n 1, 1) := by decide +kernel
theorem dL_isWaySo_75 : decode cL_isWaySo 75 = .ok (.ifCond .le 30, 3) := by decide +kernel
theorem dL_isWaySo_78 : decode cL_isWaySo 78 = .ok (.iload_n 2, 1) := by decide +kernel
theorem dL_isWaySo_79 : decode cL_isWaySo 79 = .ok (.ifCond .le 26, 3) := by decide +kernel
theorem dL_isWaySo_82 : decode cL_isWaySo 82 = .ok (.iload 6, 2) := by decide +kernel
theorem dL_isWaySo_84 : decode cL_isWaySo 84 = .ok (.aload_n 0, 1) := by decide +kernel
theorem dL_isWaySo_85 : decode cL_isWaySo 85 = .ok (.iload_n 1, 1) := by decide +kernel
theorem dL_isWaySo_86 : decode cL_isWaySo 86 = .ok (.iconst 1, 1) := by decide +kernel
theorem dL_isWaySo_87 : decode cL_isWaySo 87 = .ok (.isub, 1) := by decide +kernel
theorem dL_isWaySo_88 : decode cL_isWaySo 88 = .ok (.iload_n 2, 1) := by decide +kernel
theorem dL_isWaySo_89 : decode cL_isWaySo 89 = .ok (.iconst 1, 1) := by decide +kernel
theorem dL_isWaySo_90 : decode cL_isWaySo 90 = .ok (.isub, 1) := by decide +kernel
theorem dL_isWaySo_91 : decode cL_isWaySo 91 = .ok (.invokevirtual 49, 3) := by decide +kernel
theorem dL_isWaySo_94 : decode cL_isWaySo 94 = .ok (.iload 7, 2) := by decide +kernel
theorem dL_isWaySo_96 : decode cL_isWaySo 96 = .ok (.iadd, 1) := by decide +kernel
theorem dL_isWaySo_97 : decode cL_isWaySo 97 = .ok (.if_icmp .ne 8, 3) := by decide +kernel
theorem dL_isWaySo_100 : decode cL_isWaySo 100 = .ok (.iload 7, 2) := by decide +kernel
theorem dL_isWaySo_102 : decode cL_isWaySo 102 = .ok (.goto 27, 3) := by decide +kernel
theorem dL_isWaySo_105 : decode cL_isWaySo 105 = .ok (.iload_n 1, 1) := by decide +kernel
theorem dL_isWaySo_106 : decode cL_isWaySo 106 = .ok (.ifCond .le 22, 3) := by decide +kernel
theorem dL_isWaySo_109 : decode cL_isWaySo 109 = .ok (.iload 6, 2) := by decide +kernel
theorem dL_isWaySo_111 : decode cL_isWaySo 111 = .ok (.aload_n 0, 1) := by decide +kernel
theorem dL_isWaySo_112 : decode cL_isWaySo 112 = .ok (.iload_n 1, 1) := by decide +kernel
theorem dL_isWaySo_113 : decode cL_isWaySo 113 = .ok (.iconst 1, 1) := by decide +kernel
theorem dL_isWaySo_114 : decode cL_isWaySo 114 = .ok (.isub, 1) := by decide +kernel
theorem dL_isWaySo_115 : decode cL_isWaySo 115 = .ok (.iload_n 2, 1) := by decide +kernel
theorem dL_isWaySo_116 : decode cL_isWaySo 116 = .ok (.invokevirtual 49, 3) := by decide +kernel
theorem dL_isWaySo_119 : decode cL_isWaySo 119 = .ok (.iconst 1, 1) := by decide +kernel
theorem dL_isWaySo_120 : decode cL_isWaySo 120 = .ok (.iadd, 1) := by decide +kernel
theorem dL_isWaySo_121 : decode cL_isWaySo 121 = .ok (.if_icmp .ne 7, 3) := by decide +kernel
theorem dL_isWaySo_124 : decode cL_isWaySo 124 = .ok (.iconst 2, 1) := by decide +kernel
theorem dL_isWaySo_125 : decode cL_isWaySo 125 = .ok (.goto 4, 3) := by decide +kernel
theorem dL_isWaySo_128 : decode cL_isWaySo 128 = .ok (.iconst 3, 1) := by decide +kernel
theorem dL_isWaySo_129 : decode cL_isWaySo 129 = .ok (.istore 8, 2) := by decide +kernel
theorem dL_isWaySo_131 : decode cL_isWaySo 131 = .ok (.iload 4, 2) := by decide +kernel
theorem dL_isWaySo_133 : decode cL_isWaySo 133 = .ok (.ifCond .eq 28, 3) := by decide +kernel
theorem dL_isWaySo_136 : decode cL_isWaySo 136 = .ok (.aload_n 0, 1) := by decide +kernel
theorem dL_isWaySo_137 : decode cL_isWaySo 137 = .ok (.iload 5, 2) := by decide +kernel
theorem dL_isWaySo_139 : decode cL_isWaySo 139 = .ok (.invokevirtual 67, 3) := by decide +kernel
theorem dL_isWaySo_142 : decode cL_isWaySo 142 = .ok (.iload 8, 2) := by decide +kernel
theorem dL_isWaySo_144 : decode cL_isWaySo 144 = .ok (.if_icmp .ne 17, 3) := by decide +kernel
theorem dL_isWaySo_147 : decode cL_isWaySo 147 = .ok (.iload 8, 2) := by decide +kernel
theorem dL_isWaySo_149 : decode cL_isWaySo 149 = .ok (.iconst 3, 1) := by decide +kernel
theorem dL_isWaySo_150 : decode cL_isWaySo 150 = .ok (.if_icmp .lt 7, 3) := by decide +kernel
theorem dL_isWaySo_153 : decode cL_isWaySo 153 = .ok (.iload_n 2, 1) := by decide +kernel
theorem dL_isWaySo_154 : decode cL_isWaySo 154 = .ok (.ifCond .le 7, 3) := by decide +kernel
theorem dL_isWaySo_157 : decode cL_isWaySo 157 = .ok (.iconst 1, 1) := by decide +kernel
theorem dL_isWaySo_158 : decode cL_isWaySo 158 = .ok (.goto 4, 3) := by decide +kernel
theorem dL_isWaySo_161 : decode cL_isWaySo 161 = .ok (.iconst 0, 1) := by decide +kernel
theorem dL_isWaySo_162 : decode cL_isWaySo 162 = .ok (.istore 4, 2) := by decide +kernel
theorem dL_isWaySo_164 : decode cL_isWaySo 164 = .ok (.iload 4, 2) := by decide +kernel
theorem dL_isWaySo_166 : decode cL_isWaySo 166 = .ok (.ifCond .ne 5, 3) := by decide +kernel
theorem dL_isWaySo_169 : decode cL_isWaySo 169 = .ok (.iconst 0, 1) := by decide +kernel
theorem dL_isWaySo_170 : decode cL_isWaySo 170 = .ok (.ireturn, 1) := by decide +kernel
theorem dL_isWaySo_171 : decode cL_isWaySo 171 = .ok (.aload_n 3, 1) := by decide +kernel
theorem dL_isWaySo_172 : decode cL_isWaySo 172 = .ok (.iload 8, 2) := by decide +kernel
theorem dL_isWaySo_174 : decode cL_isWaySo 174 = .ok (.dup2, 1) := by decide +kernel
theorem dL_isWaySo_175 : decode cL_isWaySo 175 = .ok (.iaload, 1) := by decide +kernel
theorem dL_isWaySo_176 : decode cL_isWaySo 176 = .ok (.iconst 1, 1) := by decide +kernel
theorem dL_isWaySo_177 : decode cL_isWaySo 177 = .ok (.iadd, 1) := by decide +kernel
theorem dL_isWaySo_178 : decode cL_isWaySo 178 = .ok (.iastore, 1) := by decide +kernel
theorem dL_isWaySo_179 : decode cL_isWaySo 179 = .ok (.iload_n 1, 1) := by decide +kernel
theorem dL_isWaySo_180 : decode cL_isWaySo 180 = .ok (.iload 8, 2) := by decide +kernel
theorem dL_isWaySo_182 : decode cL_isWaySo 182 = .ok (.iconst 3, 1) := by decide +kernel
theorem dL_isWaySo_183 : decode cL_isWaySo 183 = .ok (.if_icmp .ne 7, 3) := by decide +kernel
theorem dL_isWaySo_186 : decode cL_isWaySo 186 = .ok (.iconst 0, 1) := by decide +kernel
theorem dL_isWaySo_187 : decode cL_isWaySo 187 = .ok (.goto 4, 3) := by decide +kernel
theorem dL_isWaySo_190 : decode cL_isWaySo 190 = .ok (.iconst 1, 1) := by decide +kernel
theorem dL_isWaySo_191 : decode cL_isWaySo 191 = .ok (.isub, 1) := by decide +kernel
theorem dL_isWaySo_192 : decode cL_isWaySo 192 = .ok (.istore_n 1, 1) := by decide +kernel
theorem dL_isWaySo_193 : decode cL_isWaySo 193 = .ok (.iload_n 2, 1) := by decide +kernel
theorem dL_isWaySo_194 : decode cL_isWaySo 194 = .ok (.iload 8, 2) := by decide +kernel
theorem dL_isWaySo_196 : decode cL_isWaySo 196 = .ok (.iconst 2, 1) := by decide +kernel
theorem dL_isWaySo_197 : decode cL_isWaySo 197 = .ok (.if_icmp .ne 7, 3) := by decide +kernel
theorem dL_isWaySo_200 : decode cL_isWaySo 200 = .ok (.iconst 0, 1) := by decide +kernel
theorem dL_isWaySo_201 : decode cL_isWaySo 201 = .ok (.goto 4, 3) := by decide +kernel
theorem dL_isWaySo_204 : decode cL_isWaySo 204 = .ok (.iconst 1, 1) := by decide +kernel
theorem dL_isWaySo_205 : decode cL_isWaySo 205 = .ok (.isub, 1) := by decide +kernel
theorem dL_isWaySo_206 : decode cL_isWaySo 206 = .ok (.istore_n 2, 1) := by decide +kernel
theorem dL_isWaySo_207 : decode cL_isWaySo 207 = .ok (.iinc 5 (-1), 3) := by decide +kernel
theorem dL_isWaySo_210 : decode cL_isWaySo 210 = .ok (.goto (-183), 3) := by decide +kernel
theorem dL_isWaySo_213 : decode cL_isWaySo 213 = .ok (.iconst 0, 1) := by decide +kernel
theorem dL_isWaySo_214 : decode cL_isWaySo 214 = .ok (.istore 5, 2) := by decide +kernel
theorem dL_isWaySo_216 : decode cL_isWaySo 216 = .ok (.iload 5, 2) := by decide +kernel
theorem dL_isWaySo_218 : decode cL_isWaySo 218 = .ok (.iconst 4, 1) := by decide +kernel
theorem dL_isWaySo_219 : decode cL_isWaySo 219 = .ok (.if_icmp .ge 34, 3) := by decide +kernel
theorem dL_isWaySo_222 : decode cL_isWaySo 222 = .ok (.iload 4, 2) := by decide +kernel
theorem dL_isWaySo_224 : decode cL_isWaySo 224 = .ok (.ifCond .eq 20, 3) := by decide +kernel
theorem dL_isWaySo_227 : decode cL_isWaySo 227 = .ok (.aload_n 0, 1) := by decide +kernel
theorem dL_isWaySo_228 : decode cL_isWaySo 228 = .ok (.iload 5, 2) := by decide +kernel
theorem dL_isWaySo_230 : decode cL_isWaySo 230 = .ok (.invokevirtual 70, 3) := by decide +kernel
theorem dL_isWaySo_233 : decode cL_isWaySo 233 = .ok (.aload_n 3, 1) := by decide +kernel
theorem dL_isWaySo_234 : decode cL_isWaySo 234 = .ok (.iload 5, 2) := by decide +kernel
theorem dL_isWaySo_236 : decode cL_isWaySo 236 = .ok (.iaload, 1) := by decide +kernel
theorem dL_isWaySo_237 : decode cL_isWaySo 237 = .ok (.if_icmp .ne 7, 3) := by decide +kernel
theorem dL_isWaySo_240 : decode cL_isWaySo 240 = .ok (.iconst 1, 1) := by decide +kernel
theorem dL_isWaySo_241 : decode cL_isWaySo 241 = .ok (.goto 4, 3) := by decide +kernel
theorem dL_isWaySo_244 : decode cL_isWaySo 244 = .ok (.iconst 0, 1) := by decide +kernel
theorem dL_isWaySo_245 : decode cL_isWaySo 245 = .ok (.istore 4, 2) := by decide +kernel
theorem dL_isWaySo_247 : decode cL_isWaySo 247 = .ok (.iinc 5 1, 3) := by decide +kernel
theorem dL_isWaySo_250 : decode cL_isWaySo 250 = .ok (.goto (-34), 3) := by decide +kernel
theorem dL_isWaySo_253 : decode cL_isWaySo 253 = .ok (.iload 4, 2) := by decide +kernel
theorem dL_isWaySo_255 : decode cL_isWaySo 255 = .ok (.ifCond .eq 45, 3) := by decide +kernel
theorem dL_isWaySo_258 : decode cL_isWaySo 258 = .ok (.iload_n 1, 1) := by decide +kernel
theorem dL_isWaySo_259 : decode cL_isWaySo 259 = .ok (.ifCond .ne 41, 3) := by decide +kernel
theorem dL_isWaySo_262 : decode cL_isWaySo 262 = .ok (.iload_n 2, 1) := by decide +kernel
theorem dL_isWaySo_263 : decode cL_isWaySo 263 = .ok (.ifCond .ne 37, 3) := by decide +kernel
theorem dL_isWaySo_266 : decode cL_isWaySo 266 = .ok (.aload_n 0, 1) := by decide +kernel
theorem dL_isWaySo_267 : decode cL_isWaySo 267 = .ok (.invokevirtual 61, 3) := by decide +kernel
theorem dL_isWaySo_270 : decode cL_isWaySo 270 = .ok (.aload_n 3, 1) := by decide +kernel
theorem dL_isWaySo_271 : decode cL_isWaySo 271 = .ok (.iconst 1, 1) := by decide +kernel
theorem dL_isWaySo_272 : decode cL_isWaySo 272 = .ok (.iaload, 1) := by decide +kernel
theorem dL_isWaySo_273 : decode cL_isWaySo 273 = .ok (.aload_n 3, 1) := by decide +kernel
theorem dL_isWaySo_274 : decode cL_isWaySo 274 = .ok (.iconst 2, 1) := by decide +kernel
theorem dL_isWaySo_275 : decode cL_isWaySo 275 = .ok (.iaload, 1) := by decide +kernel
theorem dL_isWaySo_276 : decode cL_isWaySo 276 = .ok (.iadd, 1) := by decide +kernel
theorem dL_isWaySo_277 : decode cL_isWaySo 277 = .ok (.aload_n 3, 1) := by decide +kernel
theorem dL_isWaySo_278 : decode cL_isWaySo 278 = .ok (.iconst 3, 1) := by decide +kernel
theorem dL_isWaySo_279 : decode cL_isWaySo 279 = .ok (.iaload, 1) := by decide +kernel
theorem dL_isWaySo_280 : decode cL_isWaySo 280 = .ok (.iadd, 1) := by decide +kernel
theorem dL_isWaySo_281 : decode cL_isWaySo 281 = .ok (.if_icmp .ne 19, 3) := by decide +kernel
theorem dL_isWaySo_284 : decode cL_isWaySo 284 = .ok (.aload_n 0, 1) := by decide +kernel
theorem dL_isWaySo_285 : decode cL_isWaySo 285 = .ok (.aload_n 0, 1) := by decide +kernel
theorem dL_isWaySo_286 : decode cL_isWaySo 286 = .ok (.invokevirtual 64, 3) := by decide +kernel
theorem dL_isWaySo_289 : decode cL_isWaySo 289 = .ok (.invokevirtual 67, 3) := by decide +kernel
theorem dL_isWaySo_292 : decode cL_isWaySo 292 = .ok (.iconst (-1), 1) := by decide +kernel
theorem dL_isWaySo_293 : decode cL_isWaySo 293 = .ok (.if_icmp .ne 7, 3) := by decide +kernel
theorem dL_isWaySo_296 : decode cL_isWaySo 296 = .ok (.iconst 1, 1) := by decide +kernel
theorem dL_isWaySo_297 : decode cL_isWaySo 297 = .ok (.goto 4, 3) := by decide +kernel
theorem dL_isWaySo_300 : decode cL_isWaySo 300 = .ok (.iconst 0, 1) := by decide +kernel
theorem dL_isWaySo_301 : decode cL_isWaySo 301 = .ok (.ireturn, 1) := by decide +kernel
theorem dL_areBoundsSo_0 : decode cL_areBoundsSo 0 = .ok (.aload_n 0, 1) := by decide +kernel
theorem dL_areBoundsSo_1 : decode cL_areBoundsSo 1 = .ok (.iconst 0, 1) := by decide +kernel
theorem dL_areBoundsSo_2 : decode cL_areBoundsSo 2 = .ok (.invokevirtual 8, 3) := by decide +kernel
theorem dL_areBoundsSo_5 : decode cL_areBoundsSo 5 = .ok (.istore_n 1, 1) := by decide +kernel
theorem dL_areBoundsSo_6 : decode cL_areBoundsSo 6 = .ok (.aload_n 0, 1) := by decide +kernel
theorem dL_areBoundsSo_7 : decode cL_areBoundsSo 7 = .ok (.iconst 1, 1) := by decide +kernel
theorem dL_areBoundsSo_8 : decode cL_areBoundsSo 8 = .ok (.invokevirtual 8, 3) := by decide +kernel
theorem dL_areBoundsSo_11 : decode cL_areBoundsSo 11 = .ok (.istore_n 2, 1) := by decide +kernel
theorem dL_areBoundsSo_12 : decode cL_areBoundsSo 12 = .ok (.aload_n 0, 1) := by decide +kernel
theorem dL_areBoundsSo_13 : decode cL_areBoundsSo 13 = .ok (.invokevirtual 61, 3) := by decide +kernel
theorem dL_areBoundsSo_16 : decode cL_areBoundsSo 16 = .ok (.istore_n 3, 1) := by decide +kernel
theorem dL_areBoundsSo_17 : decode cL_areBoundsSo 17 = .ok (.iload_n 3, 1) := by decide +kernel
theorem dL_areBoundsSo_18 : decode cL_areBoundsSo 18 = .ok (.iload_n 1, 1) := by decide +kernel
theorem dL_areBoundsSo_19 : decode cL_areBoundsSo 19 = .ok (.iload_n 2, 1) := by decide +kernel
theorem dL_areBoundsSo_20 : decode cL_areBoundsSo 20 = .ok (.if_icmp .le 7, 3) := by decide +kernel
theorem dL_areBoundsSo_23 : decode cL_areBoundsSo 23 = .ok (.iload_n 1, 1) := by decide +kernel
theorem dL_areBoundsSo_24 : decode cL_areBoundsSo 24 = .ok (.goto 4, 3) := by decide +kernel
theorem dL_areBoundsSo_27 : decode cL_areBoundsSo 27 = .ok (.iload_n 2, 1) := by decide +kernel
theorem dL_areBoundsSo_28 : decode cL_areBoundsSo 28 = .ok (.if_icmp .gt 109, 3) := by decide +kernel
theorem dL_areBoundsSo_31 : decode cL_areBoundsSo 31 = .ok (.iload_n 3, 1) := by decide +kernel
theorem dL_areBoundsSo_32 : decode cL_areBoundsSo 32 = .ok (.iload_n 1, 1) := by decide +kernel
theorem dL_areBoundsSo_33 : decode cL_areBoundsSo 33 = .ok (.iload_n 2, 1) := by decide +kernel
theorem dL_areBoundsSo_34 : decode cL_areBoundsSo 34 = .ok (.if_icmp .le 9, 3) := by decide +kernel
theorem dL_areBoundsSo_37 : decode cL_areBoundsSo 37 = .ok (.iload_n 1, 1) := by decide +kernel
theorem dL_areBoundsSo_38 : decode cL_areBoundsSo 38 = .ok (.iload_n 2, 1) := by decide +kernel
theorem dL_areBoundsSo_39 : decode cL_areBoundsSo 39 = .ok (.isub, 1) := by decide +kernel
theorem dL_areBoundsSo_40 : decode cL_areBoundsSo 40 = .ok (.goto 6, 3) := by decide +kernel
theorem dL_areBoundsSo_43 : decode cL_areBoundsSo 43 = .ok (.iload_n 2, 1) := by decide +kernel
theorem dL_areBoundsSo_44 : decode cL_areBoundsSo 44 = .ok (.iload_n 1, 1) := by decide +kernel
theorem dL_areBoundsSo_45 : decode cL_areBoundsSo 45 = .ok (.isub, 1) := by decide +kernel
theorem dL_areBoundsSo_46 : decode cL_areBoundsSo 46 = .ok (.if_icmp .lt 91, 3) := by decide +kernel
theorem dL_areBoundsSo_49 : decode cL_areBoundsSo 49 = .ok (.aload_n 0, 1) := by decide +kernel
theorem dL_areBoundsSo_50 : decode cL_areBoundsSo 50 = .ok (.invokevirtual 73, 3) := by decide +kernel
theorem dL_areBoundsSo_53 : decode cL_areBoundsSo 53 = .ok (.dconst 0, 1) := by decide +kernel
theorem dL_areBoundsSo_54 : decode cL_areBoundsSo 54 = .ok (.dcmp .l, 1) := by decide +kernel
theorem dL_areBoundsSo_55 : decode cL_areBoundsSo 55 = .ok (.ifCond .lt 82, 3) := by decide +kernel
theorem dL_areBoundsSo_58 : decode cL_areBoundsSo 58 = .ok (.aload_n 0, 1) := by decide +kernel
theorem dL_areBoundsSo_59 : decode cL_areBoundsSo 59 = .ok (.invokevirtual 73, 3) := by decide +kernel
theorem dL_areBoundsSo_62 : decode cL_areBoundsSo 62 = .ok (.dconst 1, 1) := by decide +kernel
theorem dL_areBoundsSo_63 : decode cL_areBoundsSo 63 = .ok (.dcmp .g, 1) := by decide +kernel
theorem dL_areBoundsSo_64 : decode cL_areBoundsSo 64 = .ok (.ifCond .gt 73, 3) := by decide +kernel
theorem dL_areBoundsSo_67 : decode cL_areBoundsSo 67 = .ok (.aload_n 0, 1) := by decide +kernel
theorem dL_areBoundsSo_68 : decode cL_areBoundsSo 68 = .ok (.bipush 20, 2) := by decide +kernel
theorem dL_areBoundsSo_70 : decode cL_areBoundsSo 70 = .ok (.invokevirtual 77, 3) := by decide +kernel
theorem dL_areBoundsSo_73 : decode cL_areBoundsSo 73 = .ok (.iload_n 1, 1) := by decide +kernel
theorem dL_areBoundsSo_74 : decode cL_areBoundsSo 74 = .ok (.iconst 1, 1) := by decide +kernel
theorem dL_areBoundsSo_75 : decode cL_areBoundsSo 75 = .ok (.iadd, 1) := by decide +kernel
theorem dL_areBoundsSo_76 : decode cL_areBoundsSo 76 = .ok (.iload_n 2, 1) := by decide +kernel
theorem dL_areBoundsSo_77 : decode cL_areBoundsSo 77 = .ok (.iconst 1, 1) := by decide +kernel
theorem dL_areBoundsSo_78 : decode cL_areBoundsSo 78 = .ok (.iadd, 1) := by decide +kernel
theorem dL_areBoundsSo_79 : decode cL_areBoundsSo 79 = .ok (.imul, 1) := by decide +kernel
theorem dL_areBoundsSo_80 : decode cL_areBoundsSo 80 = .ok (.if_icmp .ne 57, 3) := by decide +kernel
theorem dL_areBoundsSo_83 : decode cL_areBoundsSo 83 = .ok (.aload_n 0, 1) := by decide +kernel
theorem dL_areBoundsSo_84 : decode cL_areBoundsSo 84 = .ok (.invokevirtual 80, 3) := by decide +kernel
theorem dL_areBoundsSo_87 : decode cL_areBoundsSo 87 = .ok (.iload_n 3, 1) := by decide +kernel
theorem dL_areBoundsSo_88 : decode cL_areBoundsSo 88 = .ok (.if_icmp .gt 49, 3) := by decide +kernel
theorem dL_areBoundsSo_91 : decode cL_areBoundsSo 91 = .ok (.aload_n 0, 1) := by decide +kernel
theorem dL_areBoundsSo_92 : decode cL_areBoundsSo 92 = .ok (.invokevirtual 80, 3) := by decide +kernel
theorem dL_areBoundsSo_95 : decode cL_areBoundsSo 95 = .ok (.iload_n 2, 1) := by decide +kernel
theorem dL_areBoundsSo_96 : decode cL_areBoundsSo 96 = .ok (.if_icmp .gt 41, 3) := by decide +kernel
theorem dL_areBoundsSo_99 : decode cL_areBoundsSo 99 = .ok (.aload_n 0, 1) := by decide +kernel
theorem dL_areBoundsSo_100 : decode cL_areBoundsSo 100 = .ok (.invokevirtual 83, 3) := by decide +kernel
theorem dL_areBoundsSo_103 : decode cL_areBoundsSo 103 = .ok (.iload_n 1, 1) := by decide +kernel
theorem dL_areBoundsSo_104 : decode cL_areBoundsSo 104 = .ok (.if_icmp .gt 33, 3) := by decide +kernel
theorem dL_areBoundsSo_107 : decode cL_areBoundsSo 107 = .ok (.aload_n 0, 1) := by decide +kernel
theorem dL_areBoundsSo_108 : decode cL_areBoundsSo 108 = .ok (.invokevirtual 73, 3) := by decide +kernel
theorem dL_areBoundsSo_111 : decode cL_areBoundsSo 111 = .ok (.dconst 1, 1) := by decide +kernel
theorem dL_areBoundsSo_112 : decode cL_areBoundsSo 112 = .ok (.dcmp .l, 1) := by decide +kernel
theorem dL_areBoundsSo_113 : decode cL_areBoundsSo 113 = .ok (.ifCond .ne 7, 3) := by decide +kernel
theorem dL_areBoundsSo_116 : decode cL_areBoundsSo 116 = .ok (.iconst 1, 1) := by decide +kernel
theorem dL_areBoundsSo_117 : decode cL_areBoundsSo 117 = .ok (.goto 4, 3) := by decide +kernel
theorem dL_areBoundsSo_120 : decode cL_areBoundsSo 120 = .ok (.iconst 0, 1) := by decide +kernel
theorem dL_areBoundsSo_121 : decode cL_areBoundsSo 121 = .ok (.iload_n 3, 1) := by decide +kernel
theorem dL_areBoundsSo_122 : decode cL_areBoundsSo 122 = .ok (.ifCond .ne 7, 3) := by decide +kernel
theorem dL_areBoundsSo_125 : decode cL_areBoundsSo 125 = .ok (.iconst 1, 1) := by decide +kernel
theorem dL_areBoundsSo_126 : decode cL_areBoundsSo 126 = .ok (.goto 4, 3) := by decide +kernel
theorem dL_areBoundsSo_129 : decode cL_areBoundsSo 129 = .ok (.iconst 0, 1) := by decide +kernel
theorem dL_areBoundsSo_130 : decode cL_areBoundsSo 130 = .ok (.if_icmp .ne 7, 3) := by decide +kernel
theorem dL_areBoundsSo_133 : decode cL_areBoundsSo 133 = .ok (.iconst 1, 1) := by decide +kernel
theorem dL_areBoundsSo_134 : decode cL_areBoundsSo 134 = .ok (.goto 4, 3) := by decide +kernel
theorem dL_areBoundsSo_137 : decode cL_areBoundsSo 137 = .ok (.iconst 0, 1) := by decide +kernel
theorem dL_areBoundsSo_138 : decode cL_areBoundsSo 138 = .ok (.istore 4, 2) := by decide +kernel
theorem dL_areBoundsSo_140 : decode cL_areBoundsSo 140 = .ok (.iconst 0, 1) := by decide +kernel
theorem dL_areBoundsSo_141 : decode cL_areBoundsSo 141 = .ok (.istore 5, 2) := by decide +kernel
theorem dL_areBoundsSo_143 : decode cL_areBoundsSo 143 = .ok (.iload 5, 2) := by decide +kernel
theorem dL_areBoundsSo_145 : decode cL_areBoundsSo 145 = .ok (.bipush 21, 2) := by decide +kernel
theorem dL_areBoundsSo_147 : decode cL_areBoundsSo 147 = .ok (.if_icmp .ge 132, 3) := by decide +kernel
theorem dL_areBoundsSo_150 : decode cL_areBoundsSo 150 = .ok (.iconst 0, 1) := by decide +kernel
theorem dL_areBoundsSo_151 : decode cL_areBoundsSo 151 = .ok (.istore 6, 2) := by decide +kernel
theorem dL_areBoundsSo_153 : decode cL_areBoundsSo 153 = .ok (.iconst 0, 1) := by decide +kernel
theorem dL_areBoundsSo_154 : decode cL_areBoundsSo 154 = .ok (.istore 7, 2) := by decide +kernel
theorem dL_areBoundsSo_156 : decode cL_areBoundsSo 156 = .ok (.iload 7, 2) := by decide +kernel
theorem dL_areBoundsSo_158 : decode cL_areBoundsSo 158 = .ok (.iload_n 1, 1) := by decide +kernel
theorem dL_areBoundsSo_159 : decode cL_areBoundsSo 159 = .ok (.if_icmp .gt 71, 3) := by decide +kernel
theorem dL_areBoundsSo_162 : decode cL_areBoundsSo 162 = .ok (.iload 7, 2) := by decide +kernel
theorem dL_areBoundsSo_164 : decode cL_areBoundsSo 164 = .ok (.iload 5, 2) := by decide +kernel
theorem dL_areBoundsSo_166 : decode cL_areBoundsSo 166 = .ok (.isub, 1) := by decide +kernel
theorem dL_areBoundsSo_167 : decode cL_areBoundsSo 167 = .ok (.ifCond .ge 7, 3) := by decide +kernel
theorem dL_areBoundsSo_170 : decode cL_areBoundsSo 170 = .ok (.iconst 0, 1) := by decide +kernel
theorem dL_areBoundsSo_171 : decode cL_areBoundsSo 171 = .ok (.goto 8, 3) := by decide +kernel
theorem dL_areBoundsSo_174 : decode cL_areBoundsSo 174 = .ok (.iload 7, 2) := by decide +kernel
theorem dL_areBoundsSo_176 : decode cL_areBoundsSo 176 = .ok (.iload 5, 2) := by decide +kernel
theorem dL_areBoundsSo_178 : decode cL_areBoundsSo 178 = .ok (.isub, 1) := by decide +kernel
theorem dL_areBoundsSo_179 : decode cL_areBoundsSo 179 = .ok (.istore 8, 2) := by decide +kernel
theorem dL_areBoundsSo_181 : decode cL_areBoundsSo 181 = .ok (.iload 7, 2) := by decide +kernel
theorem dL_areBoundsSo_183 : decode cL_areBoundsSo 183 = .ok (.iload 5, 2) := by decide +kernel
theorem dL_areBoundsSo_185 : decode cL_areBoundsSo 185 = .ok (.iadd, 1) := by decide +kernel
theorem dL_areBoundsSo_186 : decode cL_areBoundsSo 186 = .ok (.iload_n 2, 1) := by decide +kernel
theorem dL_areBoundsSo_187 : decode cL_areBoundsSo 187 = .ok (.if_icmp .le 7, 3) := by decide +kernel
theorem dL_areBoundsSo_190 : decode cL_areBoundsSo 190 = .ok (.iload_n 2, 1) := by decide +kernel
theorem dL_areBoundsSo_191 : decode cL_areBoundsSo 191 = .ok (.goto 8, 3) := by decide +kernel
theorem dL_areBoundsSo_194 : decode cL_areBoundsSo 194 = .ok (.iload 7, 2) := by decide +kernel
theorem dL_areBoundsSo_196 : decode cL_areBoundsSo 196 = .ok (.iload 5, 2) := by decide +kernel
theorem dL_areBoundsSo_198 : decode cL_areBoundsSo 198 = .ok (.iadd, 1) := by decide +kernel
theorem dL_areBoundsSo_199 : decode cL_areBoundsSo 199 = .ok (.istore 9, 2) := by decide +kernel
theorem dL_areBoundsSo_201 : decode cL_areBoundsSo 201 = .ok (.iload 6, 2) := by decide +kernel
theorem dL_areBoundsSo_203 : decode cL_areBoundsSo 203 = .ok (.iload 9, 2) := by decide +kernel
theorem dL_areBoundsSo_205 : decode cL_areBoundsSo 205 = .ok (.iload 8, 2) := by decide +kernel
theorem dL_areBoundsSo_207 : decode cL_areBoundsSo 207 = .ok (.if_icmp .ge 7, 3) := by decide +kernel
theorem dL_areBoundsSo_210 : decode cL_areBoundsSo 210 = .ok (.iconst 0, 1) := by decide +kernel
theorem dL_areBoundsSo_211 : decode cL_areBoundsSo 211 = .ok (.goto 10, 3) := by decide +kernel
theorem dL_areBoundsSo_214 : decode cL_areBoundsSo 214 = .ok (.iload 9, 2) := by decide +kernel
theorem dL_areBoundsSo_216 : decode cL_areBoundsSo 216 = .ok (.iload 8, 2) := by decide +kernel
theorem dL_areBoundsSo_218 : decode cL_areBoundsSo 218 = .ok (.isub, 1) := by decide +kernel
theorem dL_areBoundsSo_219 : decode cL_areBoundsSo 219 = .ok (.iconst 1, 1) := by decide +kernel
theorem dL_areBoundsSo_220 : decode cL_areBoundsSo 220 = .ok (.iadd, 1) := by decide +kernel
theorem dL_areBoundsSo_221 : decode cL_areBoundsSo 221 = .ok (.iadd, 1) := by decide +kernel
theorem dL_areBoundsSo_222 : decode cL_areBoundsSo 222 = .ok (.istore 6, 2) := by decide +kernel
theorem dL_areBoundsSo_224 : decode cL_areBoundsSo 224 = .ok (.iinc 7 1, 3) := by decide +kernel
theorem dL_areBoundsSo_227 : decode cL_areBoundsSo 227 = .ok (.goto (-71), 3) := by decide +kernel
theorem dL_areBoundsSo_230 : decode cL_areBoundsSo 230 = .ok (.iload 4, 2) := by decide +kernel
theorem dL_areBoundsSo_232 : decode cL_areBoundsSo 232 = .ok (.ifCond .eq 38, 3) := by decide +kernel
theorem dL_areBoundsSo_235 : decode cL_areBoundsSo 235 = .ok (.aload_n 0, 1) := by decide +kernel
theorem dL_areBoundsSo_236 : decode cL_areBoundsSo 236 = .ok (.iload 5, 2) := by decide +kernel
theorem dL_areBoundsSo_238 : decode cL_areBoundsSo 238 = .ok (.invokevirtual 86, 3) := by decide +kernel
theorem dL_areBoundsSo_241 : decode cL_areBoundsSo 241 = .ok (.iload_n 3, 1) := by decide +kernel
theorem dL_areBoundsSo_242 : decode cL_areBoundsSo 242 = .ok (.iload 5, 2) := by decide +kernel
theorem dL_areBoundsSo_244 : decode cL_areBoundsSo 244 = .ok (.if_icmp .le 7, 3) := by decide +kernel
theorem dL_areBoundsSo_247 : decode cL_areBoundsSo 247 = .ok (.iconst (-1), 1) := by decide +kernel
theorem dL_areBoundsSo_248 : decode cL_areBoundsSo 248 = .ok (.goto 4, 3) := by decide +kernel
theorem dL_areBoundsSo_251 : decode cL_areBoundsSo 251 = .ok (.iload_n 3, 1) := by decide +kernel
theorem dL_areBoundsSo_252 : decode cL_areBoundsSo 252 = .ok (.if_icmp .ne 18, 3) := by decide +kernel
theorem dL_areBoundsSo_255 : decode cL_areBoundsSo 255 = .ok (.aload_n 0, 1) := by decide +kernel
theorem dL_areBoundsSo_256 : decode cL_areBoundsSo 256 = .ok (.iload 5, 2) := by decide +kernel
theorem dL_areBoundsSo_258 : decode cL_areBoundsSo 258 = .ok (.invokevirtual 77, 3) := by decide +kernel
theorem dL_areBoundsSo_261 : decode cL_areBoundsSo 261 = .ok (.iload 6, 2) := by decide +kernel
theorem dL_areBoundsSo_263 : decode cL_areBoundsSo 263 = .ok (.if_icmp .ne 7, 3) := by decide +kernel
theorem dL_areBoundsSo_266 : decode cL_areBoundsSo 266 = .ok (.iconst 1, 1) := by decide +kernel
theorem dL_areBoundsSo_267 : decode cL_areBoundsSo 267 = .ok (.goto 4, 3) := by decide +kernel
theorem dL_areBoundsSo_270 : decode cL_areBoundsSo 270 = .ok (.iconst 0, 1) := by decide +kernel
theorem dL_areBoundsSo_271 : decode cL_areBoundsSo 271 = .ok (.istore 4, 2) := by decide +kernel
theorem dL_areBoundsSo_273 : decode cL_areBoundsSo 273 = .ok (.iinc 5 1, 3) := by decide +kernel
theorem dL_areBoundsSo_276 : decode cL_areBoundsSo 276 = .ok (.goto (-133), 3) := by decide +kernel
theorem dL_areBoundsSo_279 : decode cL_areBoundsSo 279 = .ok (.iload 4, 2) := by decide +kernel
theorem dL_areBoundsSo_281 : decode cL_areBoundsSo 281 = .ok (.ireturn, 1) := by decide +kernel
theorem dL_isMeasureSo_0 : decode cL_isMeasureSo 0 = .ok (.aload_n 0, 1) := by decide +kernel
theorem dL_isMeasureSo_1 : decode cL_isMeasureSo 1 = .ok (.invokevirtual 89, 3) := by decide +kernel
theorem dL_isMeasureSo_4 : decode cL_isMeasureSo 4 = .ok (.istore_n 2, 1) := by decide +kernel
theorem dL_isMeasureSo_5 : decode cL_isMeasureSo 5 = .ok (.aload_n 0, 1) := by decide +kernel
theorem dL_isMeasureSo_6 : decode cL_isMeasureSo 6 = .ok (.invokevirtual 92, 3) := by decide +kernel
theorem dL_isMeasureSo_9 : decode cL_isMeasureSo 9 = .ok (.istore_n 3, 1) := by decide +kernel
theorem dL_isMeasureSo_10 : decode cL_isMeasureSo 10 = .ok (.aload_n 0, 1) := by decide +kernel
theorem dL_isMeasureSo_11 : decode cL_isMeasureSo 11 = .ok (.invokevirtual 95, 3) := by decide +kernel
theorem dL_isMeasureSo_14 : decode cL_isMeasureSo 14 = .ok (.istore 4, 2) := by decide +kernel
theorem dL_isMeasureSo_16 : decode cL_isMeasureSo 16 = .ok (.aload_n 0, 1) := by decide +kernel
theorem dL_isMeasureSo_17 : decode cL_isMeasureSo 17 = .ok (.invokevirtual 98, 3) := by decide +kernel
theorem dL_isMeasureSo_20 : decode cL_isMeasureSo 20 = .ok (.istore 5, 2) := by decide +kernel
theorem dL_isMeasureSo_22 : decode cL_isMeasureSo 22 = .ok (.aload_n 0, 1) := by decide +kernel
theorem dL_isMeasureSo_23 : decode cL_isMeasureSo 23 = .ok (.iconst 0, 1) := by decide +kernel
theorem dL_isMeasureSo_24 : decode cL_isMeasureSo 24 = .ok (.invokevirtual 8, 3) := by decide +kernel
theorem dL_isMeasureSo_27 : decode cL_isMeasureSo 27 = .ok (.istore 6, 2) := by decide +kernel
theorem dL_isMeasureSo_29 : decode cL_isMeasureSo 29 = .ok (.aload_n 0, 1) := by decide +kernel
theorem dL_isMeasureSo_30 : decode cL_isMeasureSo 30 = .ok (.iconst 1, 1) := by decide +kernel
theorem dL_isMeasureSo_31 : decode cL_isMeasureSo 31 = .ok (.invokevirtual 8, 3) := by decide +kernel
theorem dL_isMeasureSo_34 : decode cL_isMeasureSo 34 = .ok (.istore 7, 2) := by decide +kernel
theorem dL_isMeasureSo_36 : decode cL_isMeasureSo 36 = .ok (.iload 6, 2) := by decide +kernel
theorem dL_isMeasureSo_38 : decode cL_isMeasureSo 38 = .ok (.iload_n 1, 1) := by decide +kernel
theorem dL_isMeasureSo_39 : decode cL_isMeasureSo 39 = .ok (.idiv, 1) := by decide +kernel
theorem dL_isMeasureSo_40 : decode cL_isMeasureSo 40 = .ok (.iload 7, 2) := by decide +kernel
theorem dL_isMeasureSo_42 : decode cL_isMeasureSo 42 = .ok (.iload_n 1, 1) := by decide +kernel
theorem dL_isMeasureSo_43 : decode cL_isMeasureSo 43 = .ok (.idiv, 1) := by decide +kernel
theorem dL_isMeasureSo_44 : decode cL_isMeasureSo 44 = .ok (.imul, 1) := by decide +kernel
theorem dL_isMeasureSo_45 : decode cL_isMeasureSo 45 = .ok (.istore 8, 2) := by decide +kernel
theorem dL_isMeasureSo_47 : decode cL_isMeasureSo 47 = .ok (.aload_n 0, 1) := by decide +kernel
theorem dL_isMeasureSo_48 : decode cL_isMeasureSo 48 = .ok (.invokevirtual 46, 3) := by decide +kernel
theorem dL_isMeasureSo_51 : decode cL_isMeasureSo 51 = .ok (.aload_n 0, 1) := by decide +kernel
theorem dL_isMeasureSo_52 : decode cL_isMeasureSo 52 = .ok (.invokevirtual 61, 3) := by decide +kernel
theorem dL_isMeasureSo_55 : decode cL_isMeasureSo 55 = .ok (.if_icmp .ne 60, 3) := by decide +kernel
theorem dL_isMeasureSo_58 : decode cL_isMeasureSo 58 = .ok (.aload_n 0, 1) := by decide +kernel
theorem dL_isMeasureSo_59 : decode cL_isMeasureSo 59 = .ok (.invokevirtual 95, 3) := by decide +kernel
theorem dL_isMeasureSo_62 : decode cL_isMeasureSo 62 = .ok (.iload 4, 2) := by decide +kernel
theorem dL_isMeasureSo_64 : decode cL_isMeasureSo 64 = .ok (.iload_n 2, 1) := by decide +kernel
theorem dL_isMeasureSo_65 : decode cL_isMeasureSo 65 = .ok (.iadd, 1) := by decide +kernel
theorem dL_isMeasureSo_66 : decode cL_isMeasureSo 66 = .ok (.if_icmp .ne 49, 3) := by decide +kernel
theorem dL_isMeasureSo_69 : decode cL_isMeasureSo 69 = .ok (.aload_n 0, 1) := by decide +kernel
theorem dL_isMeasureSo_70 : decode cL_isMeasureSo 70 = .ok (.invokevirtual 92, 3) := by decide +kernel
theorem dL_isMeasureSo_73 : decode cL_isMeasureSo 73 = .ok (.iload_n 3, 1) := by decide +kernel
theorem dL_isMeasureSo_74 : decode cL_isMeasureSo 74 = .ok (.iload 8, 2) := by decide +kernel
theorem dL_isMeasureSo_76 : decode cL_isMeasureSo 76 = .ok (.iadd, 1) := by decide +kernel
theorem dL_isMeasureSo_77 : decode cL_isMeasureSo 77 = .ok (.iload_n 2, 1) := by decide +kernel
theorem dL_isMeasureSo_78 : decode cL_isMeasureSo 78 = .ok (.isub, 1) := by decide +kernel
theorem dL_isMeasureSo_79 : decode cL_isMeasureSo 79 = .ok (.if_icmp .ne 36, 3) := by decide +kernel
theorem dL_isMeasureSo_82 : decode cL_isMeasureSo 82 = .ok (.aload_n 0, 1) := by decide +kernel
theorem dL_isMeasureSo_83 : decode cL_isMeasureSo 83 = .ok (.invokevirtual 98, 3) := by decide +kernel
theorem dL_isMeasureSo_86 : decode cL_isMeasureSo 86 = .ok (.iload 5, 2) := by decide +kernel
theorem dL_isMeasureSo_88 : decode cL_isMeasureSo 88 = .ok (.iload 6, 2) := by decide +kernel
theorem dL_isMeasureSo_90 : decode cL_isMeasureSo 90 = .ok (.iload 7, 2) := by decide +kernel
theorem dL_isMeasureSo_92 : decode cL_isMeasureSo 92 = .ok (.imul, 1) := by decide +kernel
theorem dL_isMeasureSo_93 : decode cL_isMeasureSo 93 = .ok (.iadd, 1) := by decide +kernel
theorem dL_isMeasureSo_94 : decode cL_isMeasureSo 94 = .ok (.iload 8, 2) := by decide +kernel
theorem dL_isMeasureSo_96 : decode cL_isMeasureSo 96 = .ok (.iload_n 1, 1) := by decide +kernel
theorem dL_isMeasureSo_97 : decode cL_isMeasureSo 97 = .ok (.imul, 1) := by decide +kernel
theorem dL_isMeasureSo_98 : decode cL_isMeasureSo 98 = .ok (.iload_n 1, 1) := by decide +kernel
theorem dL_isMeasureSo_99 : decode cL_isMeasureSo 99 = .ok (.imul, 1) := by decide +kernel
theorem dL_isMeasureSo_100 : decode cL_isMeasureSo 100 = .ok (.isub, 1) := by decide +kernel
theorem dL_isMeasureSo_101 : decode cL_isMeasureSo 101 = .ok (.if_icmp .ne 14, 3) := by decide +kernel
theorem dL_isMeasureSo_104 : decode cL_isMeasureSo 104 = .ok (.aload_n 0, 1) := by decide +kernel
theorem dL_isMeasureSo_105 : decode cL_isMeasureSo 105 = .ok (.invokevirtual 89, 3) := by decide +kernel
theorem dL_isMeasureSo_108 : decode cL_isMeasureSo 108 = .ok (.ifCond .ne 7, 3) := by decide +kernel
theorem dL_isMeasureSo_111 : decode cL_isMeasureSo 111 = .ok (.iconst 1, 1) := by decide +kernel
theorem dL_isMeasureSo_112 : decode cL_isMeasureSo 112 = .ok (.goto 4, 3) := by decide +kernel
theorem dL_isMeasureSo_115 : decode cL_isMeasureSo 115 = .ok (.iconst 0, 1) := by decide +kernel
theorem dL_isMeasureSo_116 : decode cL_isMeasureSo 116 = .ok (.istore 9, 2) := by decide +kernel
theorem dL_isMeasureSo_118 : decode cL_isMeasureSo 118 = .ok (.aload_n 0, 1) := by decide +kernel
theorem dL_isMeasureSo_119 : decode cL_isMeasureSo 119 = .ok (.invokevirtual 95, 3) := by decide +kernel
theorem dL_isMeasureSo_122 : decode cL_isMeasureSo 122 = .ok (.istore 4, 2) := by decide +kernel
theorem dL_isMeasureSo_124 : decode cL_isMeasureSo 124 = .ok (.iload 9, 2) := by decide +kernel
theorem dL_isMeasureSo_126 : decode cL_isMeasureSo 126 = .ok (.ifCond .eq 42, 3) := by decide +kernel
theorem dL_isMeasureSo_129 : decode cL_isMeasureSo 129 = .ok (.aload_n 0, 1) := by decide +kernel
theorem dL_isMeasureSo_130 : decode cL_isMeasureSo 130 = .ok (.invokevirtual 46, 3) := by decide +kernel
theorem dL_isMeasureSo_133 : decode cL_isMeasureSo 133 = .ok (.aload_n 0, 1) := by decide +kernel
theorem dL_isMeasureSo_134 : decode cL_isMeasureSo 134 = .ok (.invokevirtual 61, 3) := by decide +kernel
theorem dL_isMeasureSo_137 : decode cL_isMeasureSo 137 = .ok (.if_icmp .ne 31, 3) := by decide +kernel
theorem dL_isMeasureSo_140 : decode cL_isMeasureSo 140 = .ok (.aload_n 0, 1) := by decide +kernel
theorem dL_isMeasureSo_141 : decode cL_isMeasureSo 141 = .ok (.invokevirtual 95, 3) := by decide +kernel
theorem dL_isMeasureSo_144 : decode cL_isMeasureSo 144 = .ok (.iload 4, 2) := by decide +kernel
theorem dL_isMeasureSo_146 : decode cL_isMeasureSo 146 = .ok (.if_icmp .ne 22, 3) := by decide +kernel
theorem dL_isMeasureSo_149 : decode cL_isMeasureSo 149 = .ok (.aload_n 0, 1) := by decide +kernel
theorem dL_isMeasureSo_150 : decode cL_isMeasureSo 150 = .ok (.invokevirtual 92, 3) := by decide +kernel
theorem dL_isMeasureSo_153 : decode cL_isMeasureSo 153 = .ok (.iload_n 3, 1) := by decide +kernel
theorem dL_isMeasureSo_154 : decode cL_isMeasureSo 154 = .ok (.iconst 2, 1) := by decide +kernel
theorem dL_isMeasureSo_155 : decode cL_isMeasureSo 155 = .ok (.iload 8, 2) := by decide +kernel
theorem dL_isMeasureSo_157 : decode cL_isMeasureSo 157 = .ok (.imul, 1) := by decide +kernel
theorem dL_isMeasureSo_158 : decode cL_isMeasureSo 158 = .ok (.iadd, 1) := by decide +kernel
theorem dL_isMeasureSo_159 : decode cL_isMeasureSo 159 = .ok (.iload_n 2, 1) := by decide +kernel
theorem dL_isMeasureSo_160 : decode cL_isMeasureSo 160 = .ok (.isub, 1) := by decide +kernel
theorem dL_isMeasureSo_161 : decode cL_isMeasureSo 161 = .ok (.if_icmp .ne 7, 3) := by decide +kernel
theorem dL_isMeasureSo_164 : decode cL_isMeasureSo 164 = .ok (.iconst 1, 1) := by decide +kernel
theorem dL_isMeasureSo_165 : decode cL_isMeasureSo 165 = .ok (.goto 4, 3) := by decide +kernel
theorem dL_isMeasureSo_168 : decode cL_isMeasureSo 168 = .ok (.iconst 0, 1) := by decide +kernel
theorem dL_isMeasureSo_169 : decode cL_isMeasureSo 169 = .ok (.istore 9, 2) := by decide +kernel
theorem dL_isMeasureSo_171 : decode cL_isMeasureSo 171 = .ok (.iload 9, 2) := by decide +kernel
theorem dL_isMeasureSo_173 : decode cL_isMeasureSo 173 = .ok (.ireturn, 1) := by decide +kernel
theorem dL_areReplacedSo_0 : decode cL_areReplacedSo 0 = .ok (.aload_n 0, 1) := by decide +kernel
theorem dL_areReplacedSo_1 : decode cL_areReplacedSo 1 = .ok (.iload_n 1, 1) := by decide +kernel
theorem dL_areReplacedSo_2 : decode cL_areReplacedSo 2 = .ok (.invokevirtual 101, 3) := by decide +kernel
theorem dL_areReplacedSo_5 : decode cL_areReplacedSo 5 = .ok (.istore_n 3, 1) := by decide +kernel
theorem dL_areReplacedSo_6 : decode cL_areReplacedSo 6 = .ok (.aload_n 0, 1) := by decide +kernel
theorem dL_areReplacedSo_7 : decode cL_areReplacedSo 7 = .ok (.iload_n 1, 1) := by decide +kernel
theorem dL_areReplacedSo_8 : decode cL_areReplacedSo 8 = .ok (.invokevirtual 8, 3) := by decide +kernel
theorem dL_areReplacedSo_11 : decode cL_areReplacedSo 11 = .ok (.istore 4, 2) := by decide +kernel
theorem dL_areReplacedSo_13 : decode cL_areReplacedSo 13 = .ok (.iconst (-1), 1) := by decide +kernel
theorem dL_areReplacedSo_14 : decode cL_areReplacedSo 14 = .ok (.istore 5, 2) := by decide +kernel
theorem dL_areReplacedSo_16 : decode cL_areReplacedSo 16 = .ok (.bipush 99, 2) := by decide +kernel
theorem dL_areReplacedSo_18 : decode cL_areReplacedSo 18 = .ok (.istore 6, 2) := by decide +kernel
theorem dL_areReplacedSo_20 : decode cL_areReplacedSo 20 = .ok (.iconst 1, 1) := by decide +kernel
theorem dL_areReplacedSo_21 : decode cL_areReplacedSo 21 = .ok (.istore 7, 2) := by decide +kernel
theorem dL_areReplacedSo_23 : decode cL_areReplacedSo 23 = .ok (.iconst 0, 1) := by decide +kernel
theorem dL_areReplacedSo_24 : decode cL_areReplacedSo 24 = .ok (.istore 8, 2) := by decide +kernel
theorem dL_areReplacedSo_26 : decode cL_areReplacedSo 26 = .ok (.iload 8, 2) := by decide +kernel
theorem dL_areReplacedSo_28 : decode cL_areReplacedSo 28 = .ok (.iload 4, 2) := by decide +kernel
theorem dL_areReplacedSo_30 : decode cL_areReplacedSo 30 = .ok (.if_icmp .ge 107, 3) := by decide +kernel
theorem dL_areReplacedSo_33 : decode cL_areReplacedSo 33 = .ok (.iconst 0, 1) := by decide +kernel
theorem dL_areReplacedSo_34 : decode cL_areReplacedSo 34 = .ok (.istore 9, 2) := by decide +kernel
theorem dL_areReplacedSo_36 : decode cL_areReplacedSo 36 = .ok (.iload 9, 2) := by decide +kernel
theorem dL_areReplacedSo_38 : decode cL_areReplacedSo 38 = .ok (.iload_n 2, 1) := by decide +kernel
theorem dL_areReplacedSo_39 : decode cL_areReplacedSo 39 = .ok (.if_icmp .ge 92, 3) := by decide +kernel
theorem dL_areReplacedSo_42 : decode cL_areReplacedSo 42 = .ok (.aload_n 0, 1) := by decide +kernel
theorem dL_areReplacedSo_43 : decode cL_areReplacedSo 43 = .ok (.iload_n 1, 1) := by decide +kernel
theorem dL_areReplacedSo_44 : decode cL_areReplacedSo 44 = .ok (.iload 8, 2) := by decide +kernel
theorem dL_areReplacedSo_46 : decode cL_areReplacedSo 46 = .ok (.iload 9, 2) := by decide +kernel
theorem dL_areReplacedSo_48 : decode cL_areReplacedSo 48 = .ok (.invokevirtual 104, 3) := by decide +kernel
theorem dL_areReplacedSo_51 : decode cL_areReplacedSo 51 = .ok (.istore 10, 2) := by decide +kernel
theorem dL_areReplacedSo_53 : decode cL_areReplacedSo 53 = .ok (.iload 10, 2) := by decide +kernel
theorem dL_areReplacedSo_55 : decode cL_areReplacedSo 55 = .ok (.aload_n 0, 1) := by decide +kernel
theorem dL_areReplacedSo_56 : decode cL_areReplacedSo 56 = .ok (.invokevirtual 61, 3) := by decide +kernel
theorem dL_areReplacedSo_59 : decode cL_areReplacedSo 59 = .ok (.isub, 1) := by decide +kernel
theorem dL_areReplacedSo_60 : decode cL_areReplacedSo 60 = .ok (.istore 11, 2) := by decide +kernel
theorem dL_areReplacedSo_62 : decode cL_areReplacedSo 62 = .ok (.iload 7, 2) := by decide +kernel
theorem dL_areReplacedSo_64 : decode cL_areReplacedSo 64 = .ok (.ifCond .eq 20, 3) := by decide +kernel
theorem dL_areReplacedSo_67 : decode cL_areReplacedSo 67 = .ok (.iload 11, 2) := by decide +kernel
theorem dL_areReplacedSo_69 : decode cL_areReplacedSo 69 = .ok (.iconst 2, 1) := by decide +kernel
theorem dL_areReplacedSo_70 : decode cL_areReplacedSo 70 = .ok (.if_icmp .ge 14, 3) := by decide +kernel
theorem dL_areReplacedSo_73 : decode cL_areReplacedSo 73 = .ok (.iload 11, 2) := by decide +kernel
theorem dL_areReplacedSo_75 : decode cL_areReplacedSo 75 = .ok (.bipush (-2), 2) := by decide +kernel
theorem dL_areReplacedSo_77 : decode cL_areReplacedSo 77 = .ok (.if_icmp .le 7, 3) := by decide +kernel
theorem dL_areReplacedSo_80 : decode cL_areReplacedSo 80 = .ok (.iconst 1, 1) := by decide +kernel
theorem dL_areReplacedSo_81 : decode cL_areReplacedSo 81 = .ok (.goto 4, 3) := by decide +kernel
theorem dL_areReplacedSo_84 : decode cL_areReplacedSo 84 = .ok (.iconst 0, 1) := by decide +kernel
theorem dL_areReplacedSo_85 : decode cL_areReplacedSo 85 = .ok (.istore 7, 2) := by decide +kernel
theorem dL_areReplacedSo_87 : decode cL_areReplacedSo 87 = .ok (.iload 10, 2) := by decide +kernel
theorem dL_areReplacedSo_89 : decode cL_areReplacedSo 89 = .ok (.iload 6, 2) := by decide +kernel
theorem dL_areReplacedSo_91 : decode cL_areReplacedSo 91 = .ok (.if_icmp .ge 14, 3) := by decide +kernel
theorem dL_areReplacedSo_94 : decode cL_areReplacedSo 94 = .ok (.bipush 10, 2) := by decide +kernel
theorem dL_areReplacedSo_96 : decode cL_areReplacedSo 96 = .ok (.iload 8, 2) := by decide +kernel
theorem dL_areReplacedSo_98 : decode cL_areReplacedSo 98 = .ok (.imul, 1) := by decide +kernel
theorem dL_areReplacedSo_99 : decode cL_areReplacedSo 99 = .ok (.iload 9, 2) := by decide +kernel
theorem dL_areReplacedSo_101 : decode cL_areReplacedSo 101 = .ok (.iadd, 1) := by decide +kernel
theorem dL_areReplacedSo_102 : decode cL_areReplacedSo 102 = .ok (.goto 5, 3) := by decide +kernel
theorem dL_areReplacedSo_105 : decode cL_areReplacedSo 105 = .ok (.iload 5, 2) := by decide +kernel
theorem dL_areReplacedSo_107 : decode cL_areReplacedSo 107 = .ok (.istore 5, 2) := by decide +kernel
theorem dL_areReplacedSo_109 : decode cL_areReplacedSo 109 = .ok (.iload 10, 2) := by decide +kernel
theorem dL_areReplacedSo_111 : decode cL_areReplacedSo 111 = .ok (.iload 6, 2) := by decide +kernel
theorem dL_areReplacedSo_113 : decode cL_areReplacedSo 113 = .ok (.if_icmp .ge 8, 3) := by decide +kernel
theorem dL_areReplacedSo_116 : decode cL_areReplacedSo 116 = .ok (.iload 10, 2) := by decide +kernel
theorem dL_areReplacedSo_118 : decode cL_areReplacedSo 118 = .ok (.goto 5, 3) := by decide +kernel
theorem dL_areReplacedSo_121 : decode cL_areReplacedSo 121 = .ok (.iload 6, 2) := by decide +kernel
theorem dL_areReplacedSo_123 : decode cL_areReplacedSo 123 = .ok (.istore 6, 2) := by decide +kernel
theorem dL_areReplacedSo_125 : decode cL_areReplacedSo 125 = .ok (.iinc 9 1, 3) := by decide +kernel
theorem dL_areReplacedSo_128 : decode cL_areReplacedSo 128 = .ok (.goto (-92), 3) := by decide +kernel
theorem dL_areReplacedSo_131 : decode cL_areReplacedSo 131 = .ok (.iinc 8 1, 3) := by decide +kernel
theorem dL_areReplacedSo_134 : decode cL_areReplacedSo 134 = .ok (.goto (-108), 3) := by decide +kernel
theorem dL_areReplacedSo_137 : decode cL_areReplacedSo 137 = .ok (.iload 5, 2) := by decide +kernel
theorem dL_areReplacedSo_139 : decode cL_areReplacedSo 139 = .ok (.ifCond .lt 92, 3) := by decide +kernel
theorem dL_areReplacedSo_142 : decode cL_areReplacedSo 142 = .ok (.aload_n 0, 1) := by decide +kernel
theorem dL_areReplacedSo_143 : decode cL_areReplacedSo 143 = .ok (.iload_n 1, 1) := by decide +kernel
theorem dL_areReplacedSo_144 : decode cL_areReplacedSo 144 = .ok (.iload 5, 2) := by decide +kernel
theorem dL_areReplacedSo_146 : decode cL_areReplacedSo 146 = .ok (.bipush 10, 2) := by decide +kernel
theorem dL_areReplacedSo_148 : decode cL_areReplacedSo 148 = .ok (.idiv, 1) := by decide +kernel
theorem dL_areReplacedSo_149 : decode cL_areReplacedSo 149 = .ok (.iload 5, 2) := by decide +kernel
theorem dL_areReplacedSo_151 : decode cL_areReplacedSo 151 = .ok (.bipush 10, 2) := by decide +kernel
theorem dL_areReplacedSo_153 : decode cL_areReplacedSo 153 = .ok (.irem, 1) := by decide +kernel
theorem dL_areReplacedSo_154 : decode cL_areReplacedSo 154 = .ok (.invokevirtual 27, 3) := by decide +kernel
theorem dL_areReplacedSo_157 : decode cL_areReplacedSo 157 = .ok (.istore 8, 2) := by decide +kernel
theorem dL_areReplacedSo_159 : decode cL_areReplacedSo 159 = .ok (.iload 7, 2) := by decide +kernel
theorem dL_areReplacedSo_161 : decode cL_areReplacedSo 161 = .ok (.ifCond .eq 38, 3) := by decide +kernel
theorem dL_areReplacedSo_164 : decode cL_areReplacedSo 164 = .ok (.aload_n 0, 1) := by decide +kernel
theorem dL_areReplacedSo_165 : decode cL_areReplacedSo 165 = .ok (.invokevirtual 61, 3) := by decide +kernel
theorem dL_areReplacedSo_168 : decode cL_areReplacedSo 168 = .ok (.iload 6, 2) := by decide +kernel
theorem dL_areReplacedSo_170 : decode cL_areReplacedSo 170 = .ok (.if_icmp .ne 29, 3) := by decide +kernel
theorem dL_areReplacedSo_173 : decode cL_areReplacedSo 173 = .ok (.iload 8, 2) := by decide +kernel
theorem dL_areReplacedSo_175 : decode cL_areReplacedSo 175 = .ok (.aload_n 0, 1) := by decide +kernel
theorem dL_areReplacedSo_176 : decode cL_areReplacedSo 176 = .ok (.iload_n 1, 1) := by decide +kernel
theorem dL_areReplacedSo_177 : decode cL_areReplacedSo 177 = .ok (.iload 5, 2) := by decide +kernel
theorem dL_areReplacedSo_179 : decode cL_areReplacedSo 179 = .ok (.bipush 10, 2) := by decide +kernel
theorem dL_areReplacedSo_181 : decode cL_areReplacedSo 181 = .ok (.idiv, 1) := by decide +kernel
theorem dL_areReplacedSo_182 : decode cL_areReplacedSo 182 = .ok (.iload 8, 2) := by decide +kernel
theorem dL_areReplacedSo_184 : decode cL_areReplacedSo 184 = .ok (.invokevirtual 27, 3) := by decide +kernel
theorem dL_areReplacedSo_187 : decode cL_areReplacedSo 187 = .ok (.iconst 0, 1) := by decide +kernel
theorem dL_areReplacedSo_188 : decode cL_areReplacedSo 188 = .ok (.imul, 1) := by decide +kernel
theorem dL_areReplacedSo_189 : decode cL_areReplacedSo 189 = .ok (.iload 8, 2) := by decide +kernel
theorem dL_areReplacedSo_191 : decode cL_areReplacedSo 191 = .ok (.iadd, 1) := by decide +kernel
theorem dL_areReplacedSo_192 : decode cL_areReplacedSo 192 = .ok (.if_icmp .ne 7, 3) := by decide +kernel
theorem dL_areReplacedSo_195 : decode cL_areReplacedSo 195 = .ok (.iconst 1, 1) := by decide +kernel
theorem dL_areReplacedSo_196 : decode cL_areReplacedSo 196 = .ok (.goto 4, 3) := by decide +kernel
theorem dL_areReplacedSo_199 : decode cL_areReplacedSo 199 = .ok (.iconst 0, 1) := by decide +kernel
theorem dL_areReplacedSo_200 : decode cL_areReplacedSo 200 = .ok (.istore 7, 2) := by decide +kernel
theorem dL_areReplacedSo_202 : decode cL_areReplacedSo 202 = .ok (.aload_n 0, 1) := by decide +kernel
theorem dL_areReplacedSo_203 : decode cL_areReplacedSo 203 = .ok (.invokevirtual 40, 3) := by decide +kernel
theorem dL_areReplacedSo_206 : decode cL_areReplacedSo 206 = .ok (.istore 9, 2) := by decide +kernel
theorem dL_areReplacedSo_208 : decode cL_areReplacedSo 208 = .ok (.aload_n 0, 1) := by decide +kernel
theorem dL_areReplacedSo_209 : decode cL_areReplacedSo 209 = .ok (.invokevirtual 40, 3) := by decide +kernel
theorem dL_areReplacedSo_212 : decode cL_areReplacedSo 212 = .ok (.istore 9, 2) := by decide +kernel
theorem dL_areReplacedSo_214 : decode cL_areReplacedSo 214 = .ok (.iload 7, 2) := by decide +kernel
theorem dL_areReplacedSo_216 : decode cL_areReplacedSo 216 = .ok (.ifCond .eq 12, 3) := by decide +kernel
theorem dL_areReplacedSo_219 : decode cL_areReplacedSo 219 = .ok (.iload 9, 2) := by decide +kernel
theorem dL_areReplacedSo_221 : decode cL_areReplacedSo 221 = .ok (.ifCond .lt 7, 3) := by decide +kernel
theorem dL_areReplacedSo_224 : decode cL_areReplacedSo 224 = .ok (.iconst 1, 1) := by decide +kernel
theorem dL_areReplacedSo_225 : decode cL_areReplacedSo 225 = .ok (.goto 4, 3) := by decide +kernel
theorem dL_areReplacedSo_228 : decode cL_areReplacedSo 228 = .ok (.iconst 0, 1) := by decide +kernel
theorem dL_areReplacedSo_229 : decode cL_areReplacedSo 229 = .ok (.istore 7, 2) := by decide +kernel
theorem dL_areReplacedSo_231 : decode cL_areReplacedSo 231 = .ok (.iload 7, 2) := by decide +kernel
theorem dL_areReplacedSo_233 : decode cL_areReplacedSo 233 = .ok (.ifCond .eq 13, 3) := by decide +kernel
theorem dL_areReplacedSo_236 : decode cL_areReplacedSo 236 = .ok (.iload_n 3, 1) := by decide +kernel
theorem dL_areReplacedSo_237 : decode cL_areReplacedSo 237 = .ok (.iload 5, 2) := by decide +kernel
theorem dL_areReplacedSo_239 : decode cL_areReplacedSo 239 = .ok (.if_icmp .ne 7, 3) := by decide +kernel
theorem dL_areReplacedSo_242 : decode cL_areReplacedSo 242 = .ok (.iconst 1, 1) := by decide +kernel
theorem dL_areReplacedSo_243 : decode cL_areReplacedSo 243 = .ok (.goto 4, 3) := by decide +kernel
theorem dL_areReplacedSo_246 : decode cL_areReplacedSo 246 = .ok (.iconst 0, 1) := by decide +kernel
theorem dL_areReplacedSo_247 : decode cL_areReplacedSo 247 = .ok (.ireturn, 1) := by decide +kernel
theorem dL_law_0 : decode cL_law 0 = .ok (.new 9, 3) := by decide +kernel
theorem dL_law_3 : decode cL_law 3 = .ok (.dup, 1) := by decide +kernel
theorem dL_law_4 : decode cL_law 4 = .ok (.invokespecial 107, 3) := by decide +kernel
theorem dL_law_7 : decode cL_law 7 = .ok (.astore_n 1, 1) := by decide +kernel
theorem dL_law_8 : decode cL_law 8 = .ok (.iconst 2, 1) := by decide +kernel
theorem dL_law_9 : decode cL_law 9 = .ok (.istore_n 2, 1) := by decide +kernel
theorem dL_law_10 : decode cL_law 10 = .ok (.iconst 4, 1) := by decide +kernel
theorem dL_law_11 : decode cL_law 11 = .ok (.istore_n 3, 1) := by decide +kernel
theorem dL_law_12 : decode cL_law 12 = .ok (.iconst 0, 1) := by decide +kernel
theorem dL_law_13 : decode cL_law 13 = .ok (.istore 4, 2) := by decide +kernel
theorem dL_law_15 : decode cL_law 15 = .ok (.iload 4, 2) := by decide +kernel
theorem dL_law_17 : decode cL_law 17 = .ok (.bipush 8, 2) := by decide +kernel
theorem dL_law_19 : decode cL_law 19 = .ok (.if_icmp .ge 32, 3) := by decide +kernel
theorem dL_law_22 : decode cL_law 22 = .ok (.aload_n 1, 1) := by decide +kernel
theorem dL_law_23 : decode cL_law 23 = .ok (.iload 4, 2) := by decide +kernel
theorem dL_law_25 : decode cL_law 25 = .ok (.iconst 1, 1) := by decide +kernel
theorem dL_law_26 : decode cL_law 26 = .ok (.iand, 1) := by decide +kernel
theorem dL_law_27 : decode cL_law 27 = .ok (.iconst 0, 1) := by decide +kernel
theorem dL_law_28 : decode cL_law 28 = .ok (.aload_n 0, 1) := by decide +kernel
theorem dL_law_29 : decode cL_law 29 = .ok (.iload 4, 2) := by decide +kernel
theorem dL_law_31 : decode cL_law 31 = .ok (.invokestatic 108, 3) := by decide +kernel
theorem dL_law_34 : decode cL_law 34 = .ok (.iconst 5, 1) := by decide +kernel
theorem dL_law_35 : decode cL_law 35 = .ok (.ishr, 1) := by decide +kernel
theorem dL_law_36 : decode cL_law 36 = .ok (.iconst 3, 1) := by decide +kernel
theorem dL_law_37 : decode cL_law 37 = .ok (.invokestatic 14, 3) := by decide +kernel
theorem dL_law_40 : decode cL_law 40 = .ok (.invokevirtual 20, 3) := by decide +kernel
theorem dL_law_43 : decode cL_law 43 = .ok (.istore 5, 2) := by decide +kernel
theorem dL_law_45 : decode cL_law 45 = .ok (.iinc 4 1, 3) := by decide +kernel
theorem dL_law_48 : decode cL_law 48 = .ok (.goto (-33), 3) := by decide +kernel
theorem dL_law_51 : decode cL_law 51 = .ok (.iconst 0, 1) := by decide +kernel
theorem dL_law_52 : decode cL_law 52 = .ok (.istore 4, 2) := by decide +kernel
theorem dL_law_54 : decode cL_law 54 = .ok (.iload 4, 2) := by decide +kernel
theorem dL_law_56 : decode cL_law 56 = .ok (.bipush 40, 2) := by decide +kernel
theorem dL_law_58 : decode cL_law 58 = .ok (.if_icmp .ge 162, 3) := by decide +kernel
theorem dL_law_61 : decode cL_law 61 = .ok (.aload_n 0, 1) := by decide +kernel
theorem dL_law_62 : decode cL_law 62 = .ok (.iload 4, 2) := by decide +kernel
theorem dL_law_64 : decode cL_law 64 = .ok (.invokestatic 108, 3) := by decide +kernel
theorem dL_law_67 : decode cL_law 67 = .ok (.istore 5, 2) := by decide +kernel
theorem dL_law_69 : decode cL_law 69 = .ok (.aload_n 1, 1) := by decide +kernel
theorem dL_law_70 : decode cL_law 70 = .ok (.invokevirtual 37, 3) := by decide +kernel
theorem dL_law_73 : decode cL_law 73 = .ok (.istore 6, 2) := by decide +kernel
theorem dL_law_75 : decode cL_law 75 = .ok (.aload_n 1, 1) := by decide +kernel
theorem dL_law_76 : decode cL_law 76 = .ok (.iload 5, 2) := by decide +kernel
theorem dL_law_78 : decode cL_law 78 = .ok (.invokestatic 112, 3) := by decide +kernel
theorem dL_law_81 : decode cL_law 81 = .ok (.ifCond .ge 5, 3) := by decide +kernel
theorem dL_law_84 : decode cL_law 84 = .ok (.iconst 0, 1) := by decide +kernel
theorem dL_law_85 : decode cL_law 85 = .ok (.ireturn, 1) := by decide +kernel
theorem dL_law_86 : decode cL_law 86 = .ok (.iload 5, 2) := by decide +kernel
theorem dL_law_88 : decode cL_law 88 = .ok (.bipush 15, 2) := by decide +kernel
theorem dL_law_90 : decode cL_law 90 = .ok (.iand, 1) := by decide +kernel
theorem dL_law_91 : decode cL_law 91 = .ok (.bipush 10, 2) := by decide +kernel
theorem dL_law_93 : decode cL_law 93 = .ok (.if_icmp .ne 24, 3) := by decide +kernel
theorem dL_law_96 : decode cL_law 96 = .ok (.iload 5, 2) := by decide +kernel
theorem dL_law_98 : decode cL_law 98 = .ok (.iconst 5, 1) := by decide +kernel
theorem dL_law_99 : decode cL_law 99 = .ok (.ishr, 1) := by decide +kernel
theorem dL_law_100 : decode cL_law 100 = .ok (.iconst 3, 1) := by decide +kernel
theorem dL_law_101 : decode cL_law 101 = .ok (.iand, 1) := by decide +kernel
theorem dL_law_102 : decode cL_law 102 = .ok (.ifCond .ne 15, 3) := by decide +kernel
theorem dL_law_105 : decode cL_law 105 = .ok (.iconst 1, 1) := by decide +kernel
theorem dL_law_106 : decode cL_law 106 = .ok (.iload 5, 2) := by decide +kernel
theorem dL_law_108 : decode cL_law 108 = .ok (.bipush 7, 2) := by decide +kernel
theorem dL_law_110 : decode cL_law 110 = .ok (.ishr, 1) := by decide +kernel
theorem dL_law_111 : decode cL_law 111 = .ok (.iconst 1, 1) := by decide +kernel
theorem dL_law_112 : decode cL_law 112 = .ok (.iand, 1) := by decide +kernel
theorem dL_law_113 : decode cL_law 113 = .ok (.iadd, 1) := by decide +kernel
theorem dL_law_114 : decode cL_law 114 = .ok (.goto 4, 3) := by decide +kernel
theorem dL_law_117 : decode cL_law 117 = .ok (.iload_n 2, 1) := by decide +kernel
theorem dL_law_118 : decode cL_law 118 = .ok (.istore_n 2, 1) := by decide +kernel
theorem dL_law_119 : decode cL_law 119 = .ok (.aload_n 1, 1) := by decide +kernel
theorem dL_law_120 : decode cL_law 120 = .ok (.iconst 4, 1) := by decide +kernel
theorem dL_law_121 : decode cL_law 121 = .ok (.invokevirtual 43, 3) := by decide +kernel
theorem dL_law_124 : decode cL_law 124 = .ok (.istore 7, 2) := by decide +kernel
theorem dL_law_126 : decode cL_law 126 = .ok (.iload 6, 2) := by decide +kernel
theorem dL_law_128 : decode cL_law 128 = .ok (.ifCond .lt 84, 3) := by decide +kernel
theorem dL_law_131 : decode cL_law 131 = .ok (.iload 7, 2) := by decide +kernel
theorem dL_law_133 : decode cL_law 133 = .ok (.iconst 2, 1) := by decide +kernel
theorem dL_law_134 : decode cL_law 134 = .ok (.if_icmp .lt 78, 3) := by decide +kernel
theorem dL_law_137 : decode cL_law 137 = .ok (.iload 4, 2) := by decide +kernel
theorem dL_law_139 : decode cL_law 139 = .ok (.iconst 4, 1) := by decide +kernel
theorem dL_law_140 : decode cL_law 140 = .ok (.irem, 1) := by decide +kernel
theorem dL_law_141 : decode cL_law 141 = .ok (.ifCond .ne 10, 3) := by decide +kernel
theorem dL_law_144 : decode cL_law 144 = .ok (.aload_n 1, 1) := by decide +kernel
theorem dL_law_145 : decode cL_law 145 = .ok (.invokestatic 116, 3) := by decide +kernel
theorem dL_law_148 : decode cL_law 148 = .ok (.ifCond .eq 64, 3) := by decide +kernel
theorem dL_law_151 : decode cL_law 151 = .ok (.iload 4, 2) := by decide +kernel
theorem dL_law_153 : decode cL_law 153 = .ok (.iconst 2, 1) := by decide +kernel
theorem dL_law_154 : decode cL_law 154 = .ok (.irem, 1) := by decide +kernel
theorem dL_law_155 : decode cL_law 155 = .ok (.iconst 1, 1) := by decide +kernel
theorem dL_law_156 : decode cL_law 156 = .ok (.if_icmp .ne 10, 3) := by decide +kernel
theorem dL_law_159 : decode cL_law 159 = .ok (.aload_n 1, 1) := by decide +kernel
theorem dL_law_160 : decode cL_law 160 = .ok (.invokestatic 120, 3) := by decide +kernel
theorem dL_law_163 : decode cL_law 163 = .ok (.ifCond .eq 49, 3) := by decide +kernel
theorem dL_law_166 : decode cL_law 166 = .ok (.iload 4, 2) := by decide +kernel
theorem dL_law_168 : decode cL_law 168 = .ok (.iconst 5, 1) := by decide +kernel
theorem dL_law_169 : decode cL_law 169 = .ok (.irem, 1) := by decide +kernel
theorem dL_law_170 : decode cL_law 170 = .ok (.iconst 2, 1) := by decide +kernel
theorem dL_law_171 : decode cL_law 171 = .ok (.if_icmp .ne 10, 3) := by decide +kernel
theorem dL_law_174 : decode cL_law 174 = .ok (.aload_n 1, 1) := by decide +kernel
theorem dL_law_175 : decode cL_law 175 = .ok (.invokestatic 123, 3) := by decide +kernel
theorem dL_law_178 : decode cL_law 178 = .ok (.ifCond .eq 34, 3) := by decide +kernel
theorem dL_law_181 : decode cL_law 181 = .ok (.aload_n 1, 1) := by decide +kernel
theorem dL_law_182 : decode cL_law 182 = .ok (.iload_n 2, 1) := by decide +kernel
theorem dL_law_183 : decode cL_law 183 = .ok (.invokestatic 126, 3) := by decide +kernel
theorem dL_law_186 : decode cL_law 186 = .ok (.ifCond .eq 26, 3) := by decide +kernel
theorem dL_law_189 : decode cL_law 189 = .ok (.iload 4, 2) := by decide +kernel
theorem dL_law_191 : decode cL_law 191 = .ok (.bipush 6, 2) := by decide +kernel
theorem dL_law_193 : decode cL_law 193 = .ok (.irem, 1) := by decide +kernel
theorem dL_law_194 : decode cL_law 194 = .ok (.iconst 3, 1) := by decide +kernel
theorem dL_law_195 : decode cL_law 195 = .ok (.if_icmp .ne 19, 3) := by decide +kernel
theorem dL_law_198 : decode cL_law 198 = .ok (.aload_n 1, 1) := by decide +kernel
theorem dL_law_199 : decode cL_law 199 = .ok (.iload 5, 2) := by decide +kernel
theorem dL_law_201 : decode cL_law 201 = .ok (.iconst 3, 1) := by decide +kernel
theorem dL_law_202 : decode cL_law 202 = .ok (.ishr, 1) := by decide +kernel
theorem dL_law_203 : decode cL_law 203 = .ok (.iconst 1, 1) := by decide +kernel
theorem dL_law_204 : decode cL_law 204 = .ok (.iand, 1) := by decide +kernel
theorem dL_law_205 : decode cL_law 205 = .ok (.iload_n 3, 1) := by decide +kernel
theorem dL_law_206 : decode cL_law 206 = .ok (.invokestatic 130, 3) := by decide +kernel
theorem dL_law_209 : decode cL_law 209 = .ok (.ifCond .ne 5, 3) := by decide +kernel
theorem dL_law_212 : decode cL_law 212 = .ok (.iconst 0, 1) := by decide +kernel
theorem dL_law_213 : decode cL_law 213 = .ok (.ireturn, 1) := by decide +kernel
theorem dL_law_214 : decode cL_law 214 = .ok (.iinc 4 1, 3) := by decide +kernel
theorem dL_law_217 : decode cL_law 217 = .ok (.goto (-163), 3) := by decide +kernel
theorem dL_law_220 : decode cL_law 220 = .ok (.iconst 1, 1) := by decide +kernel
theorem dL_law_221 : decode cL_law 221 = .ok (.ireturn, 1) := by decide +kernel
