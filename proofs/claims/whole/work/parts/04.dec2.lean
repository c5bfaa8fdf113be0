theorem dX12_endPass_49 : decode cX12_endPass 49 = .ok (.iconst 0, 1) := by decide +kernel
theorem dX12_endPass_50 : decode cX12_endPass 50 = .ok (.iconst 1, 1) := by decide +kernel
theorem dX12_endPass_51 : decode cX12_endPass 51 = .ok (.invokestatic 43, 3) := by decide +kernel
theorem dX12_endPass_54 : decode cX12_endPass 54 = .ok (.iconst 0, 1) := by decide +kernel
theorem dX12_endPass_55 : decode cX12_endPass 55 = .ok (.invokevirtual 39, 3) := by decide +kernel
theorem dX12_endPass_58 : decode cX12_endPass 58 = .ok (.aload_n 0, 1) := by decide +kernel
theorem dX12_endPass_59 : decode cX12_endPass 59 = .ok (.getfield 26, 3) := by decide +kernel
theorem dX12_endPass_62 : decode cX12_endPass 62 = .ok (.bipush 7, 2) := by decide +kernel
theorem dX12_endPass_64 : decode cX12_endPass 64 = .ok (.iaload, 1) := by decide +kernel
theorem dX12_endPass_65 : decode cX12_endPass 65 = .ok (.iconst 1, 1) := by decide +kernel
theorem dX12_endPass_66 : decode cX12_endPass 66 = .ok (.if_icmp .ne 37, 3) := by decide +kernel
theorem dX12_endPass_69 : decode cX12_endPass 69 = .ok (.aload_n 0, 1) := by decide +kernel
theorem dX12_endPass_70 : decode cX12_endPass 70 = .ok (.iconst 1, 1) := by decide +kernel
theorem dX12_endPass_71 : decode cX12_endPass 71 = .ok (.invokevirtual 165, 3) := by decide +kernel
theorem dX12_endPass_74 : decode cX12_endPass 74 = .ok (.ifCond .le 29, 3) := by decide +kernel
theorem dX12_endPass_77 : decode cX12_endPass 77 = .ok (.aload_n 0, 1) := by decide +kernel
theorem dX12_endPass_78 : decode cX12_endPass 78 = .ok (.iconst 1, 1) := by decide +kernel
theorem dX12_endPass_79 : decode cX12_endPass 79 = .ok (.iconst 0, 1) := by decide +kernel
theorem dX12_endPass_80 : decode cX12_endPass 80 = .ok (.invokestatic 43, 3) := by decide +kernel
theorem dX12_endPass_83 : decode cX12_endPass 83 = .ok (.invokevirtual 155, 3) := by decide +kernel
theorem dX12_endPass_86 : decode cX12_endPass 86 = .ok (.ifCond .ne 17, 3) := by decide +kernel
theorem dX12_endPass_89 : decode cX12_endPass 89 = .ok (.aload_n 0, 1) := by decide +kernel
theorem dX12_endPass_90 : decode cX12_endPass 90 = .ok (.iconst 1, 1) := by decide +kernel
theorem dX12_endPass_91 : decode cX12_endPass 91 = .ok (.aload_n 0, 1) := by decide +kernel
theorem dX12_endPass_92 : decode cX12_endPass 92 = .ok (.iconst 0, 1) := by decide +kernel
theorem dX12_endPass_93 : decode cX12_endPass 93 = .ok (.iconst 2, 1) := by decide +kernel
theorem dX12_endPass_94 : decode cX12_endPass 94 = .ok (.invokestatic 43, 3) := by decide +kernel
theorem dX12_endPass_97 : decode cX12_endPass 97 = .ok (.invokevirtual 155, 3) := by decide +kernel
theorem dX12_endPass_100 : decode cX12_endPass 100 = .ok (.invokevirtual 180, 3) := by decide +kernel
theorem dX12_endPass_103 : decode cX12_endPass 103 = .ok (.aload_n 0, 1) := by decide +kernel
theorem dX12_endPass_104 : decode cX12_endPass 104 = .ok (.getfield 26, 3) := by decide +kernel
theorem dX12_endPass_107 : decode cX12_endPass 107 = .ok (.bipush 6, 2) := by decide +kernel
theorem dX12_endPass_109 : decode cX12_endPass 109 = .ok (.iaload, 1) := by decide +kernel
theorem dX12_endPass_110 : decode cX12_endPass 110 = .ok (.iconst 1, 1) := by decide +kernel
theorem dX12_endPass_111 : decode cX12_endPass 111 = .ok (.if_icmp .ne 11, 3) := by decide +kernel
theorem dX12_endPass_114 : decode cX12_endPass 114 = .ok (.aload_n 0, 1) := by decide +kernel
theorem dX12_endPass_115 : decode cX12_endPass 115 = .ok (.iconst 0, 1) := by decide +kernel
theorem dX12_endPass_116 : decode cX12_endPass 116 = .ok (.invokevirtual 168, 3) := by decide +kernel
theorem dX12_endPass_119 : decode cX12_endPass 119 = .ok (.goto 8, 3) := by decide +kernel
theorem dX12_endPass_122 : decode cX12_endPass 122 = .ok (.aload_n 0, 1) := by decide +kernel
theorem dX12_endPass_123 : decode cX12_endPass 123 = .ok (.iconst 0, 1) := by decide +kernel
theorem dX12_endPass_124 : decode cX12_endPass 124 = .ok (.invokevirtual 197, 3) := by decide +kernel
theorem dX12_endPass_127 : decode cX12_endPass 127 = .ok (.return_, 1) := by decide +kernel
theorem dX12_finishResult_0 : decode cX12_finishResult 0 = .ok (.aload_n 0, 1) := by decide +kernel
theorem dX12_finishResult_1 : decode cX12_finishResult 1 = .ok (.iload_n 1, 1) := by decide +kernel
theorem dX12_finishResult_2 : decode cX12_finishResult 2 = .ok (.bipush 7, 2) := by decide +kernel
theorem dX12_finishResult_4 : decode cX12_finishResult 4 = .ok (.invokestatic 43, 3) := by decide +kernel
theorem dX12_finishResult_7 : decode cX12_finishResult 7 = .ok (.invokevirtual 155, 3) := by decide +kernel
theorem dX12_finishResult_10 : decode cX12_finishResult 10 = .ok (.aload_n 0, 1) := by decide +kernel
theorem dX12_finishResult_11 : decode cX12_finishResult 11 = .ok (.getfield 26, 3) := by decide +kernel
theorem dX12_finishResult_14 : decode cX12_finishResult 14 = .ok (.iconst 3, 1) := by decide +kernel
theorem dX12_finishResult_15 : decode cX12_finishResult 15 = .ok (.iaload, 1) := by decide +kernel
theorem dX12_finishResult_16 : decode cX12_finishResult 16 = .ok (.ishr, 1) := by decide +kernel
theorem dX12_finishResult_17 : decode cX12_finishResult 17 = .ok (.aload_n 0, 1) := by decide +kernel
theorem dX12_finishResult_18 : decode cX12_finishResult 18 = .ok (.getfield 26, 3) := by decide +kernel
theorem dX12_finishResult_21 : decode cX12_finishResult 21 = .ok (.bipush 22, 2) := by decide +kernel
theorem dX12_finishResult_23 : decode cX12_finishResult 23 = .ok (.iload_n 2, 1) := by decide +kernel
theorem dX12_finishResult_24 : decode cX12_finishResult 24 = .ok (.iadd, 1) := by decide +kernel
theorem dX12_finishResult_25 : decode cX12_finishResult 25 = .ok (.iaload, 1) := by decide +kernel
theorem dX12_finishResult_26 : decode cX12_finishResult 26 = .ok (.isub, 1) := by decide +kernel
theorem dX12_finishResult_27 : decode cX12_finishResult 27 = .ok (.istore_n 3, 1) := by decide +kernel
theorem dX12_finishResult_28 : decode cX12_finishResult 28 = .ok (.iload_n 3, 1) := by decide +kernel
theorem dX12_finishResult_29 : decode cX12_finishResult 29 = .ok (.ifCond .ge 7, 3) := by decide +kernel
theorem dX12_finishResult_32 : decode cX12_finishResult 32 = .ok (.iconst 0, 1) := by decide +kernel
theorem dX12_finishResult_33 : decode cX12_finishResult 33 = .ok (.goto 4, 3) := by decide +kernel
theorem dX12_finishResult_36 : decode cX12_finishResult 36 = .ok (.iload_n 3, 1) := by decide +kernel
theorem dX12_finishResult_37 : decode cX12_finishResult 37 = .ok (.istore_n 3, 1) := by decide +kernel
theorem dX12_finishResult_38 : decode cX12_finishResult 38 = .ok (.aload_n 0, 1) := by decide +kernel
theorem dX12_finishResult_39 : decode cX12_finishResult 39 = .ok (.iload_n 1, 1) := by decide +kernel
theorem dX12_finishResult_40 : decode cX12_finishResult 40 = .ok (.iconst 2, 1) := by decide +kernel
theorem dX12_finishResult_41 : decode cX12_finishResult 41 = .ok (.invokestatic 43, 3) := by decide +kernel
theorem dX12_finishResult_44 : decode cX12_finishResult 44 = .ok (.invokevirtual 155, 3) := by decide +kernel
theorem dX12_finishResult_47 : decode cX12_finishResult 47 = .ok (.istore 4, 2) := by decide +kernel
theorem dX12_finishResult_49 : decode cX12_finishResult 49 = .ok (.aload_n 0, 1) := by decide +kernel
theorem dX12_finishResult_50 : decode cX12_finishResult 50 = .ok (.iload_n 1, 1) := by decide +kernel
theorem dX12_finishResult_51 : decode cX12_finishResult 51 = .ok (.iconst 1, 1) := by decide +kernel
theorem dX12_finishResult_52 : decode cX12_finishResult 52 = .ok (.invokestatic 43, 3) := by decide +kernel
theorem dX12_finishResult_55 : decode cX12_finishResult 55 = .ok (.invokevirtual 155, 3) := by decide +kernel
theorem dX12_finishResult_58 : decode cX12_finishResult 58 = .ok (.istore 5, 2) := by decide +kernel
theorem dX12_finishResult_60 : decode cX12_finishResult 60 = .ok (.aload_n 0, 1) := by decide +kernel
theorem dX12_finishResult_61 : decode cX12_finishResult 61 = .ok (.iload_n 1, 1) := by decide +kernel
theorem dX12_finishResult_62 : decode cX12_finishResult 62 = .ok (.invokevirtual 174, 3) := by decide +kernel
theorem dX12_finishResult_65 : decode cX12_finishResult 65 = .ok (.aload_n 0, 1) := by decide +kernel
theorem dX12_finishResult_66 : decode cX12_finishResult 66 = .ok (.bipush 13, 2) := by decide +kernel
theorem dX12_finishResult_68 : decode cX12_finishResult 68 = .ok (.iconst 1, 1) := by decide +kernel
theorem dX12_finishResult_69 : decode cX12_finishResult 69 = .ok (.invokevirtual 162, 3) := by decide +kernel
theorem dX12_finishResult_72 : decode cX12_finishResult 72 = .ok (.aload_n 0, 1) := by decide +kernel
theorem dX12_finishResult_73 : decode cX12_finishResult 73 = .ok (.iload_n 1, 1) := by decide +kernel
theorem dX12_finishResult_74 : decode cX12_finishResult 74 = .ok (.iconst 4, 1) := by decide +kernel
theorem dX12_finishResult_75 : decode cX12_finishResult 75 = .ok (.invokestatic 43, 3) := by decide +kernel
theorem dX12_finishResult_78 : decode cX12_finishResult 78 = .ok (.iconst 1, 1) := by decide +kernel
theorem dX12_finishResult_79 : decode cX12_finishResult 79 = .ok (.invokevirtual 162, 3) := by decide +kernel
theorem dX12_finishResult_82 : decode cX12_finishResult 82 = .ok (.aload_n 0, 1) := by decide +kernel
theorem dX12_finishResult_83 : decode cX12_finishResult 83 = .ok (.getfield 35, 3) := by decide +kernel
theorem dX12_finishResult_86 : decode cX12_finishResult 86 = .ok (.bipush 10, 2) := by decide +kernel
theorem dX12_finishResult_88 : decode cX12_finishResult 88 = .ok (.aload_n 0, 1) := by decide +kernel
theorem dX12_finishResult_89 : decode cX12_finishResult 89 = .ok (.getfield 32, 3) := by decide +kernel
theorem dX12_finishResult_92 : decode cX12_finishResult 92 = .ok (.imul, 1) := by decide +kernel
theorem dX12_finishResult_93 : decode cX12_finishResult 93 = .ok (.iload_n 1, 1) := by decide +kernel
theorem dX12_finishResult_94 : decode cX12_finishResult 94 = .ok (.iadd, 1) := by decide +kernel
theorem dX12_finishResult_95 : decode cX12_finishResult 95 = .ok (.dup2, 1) := by decide +kernel
theorem dX12_finishResult_96 : decode cX12_finishResult 96 = .ok (.laload, 1) := by decide +kernel
theorem dX12_finishResult_97 : decode cX12_finishResult 97 = .ok (.aload_n 0, 1) := by decide +kernel
theorem dX12_finishResult_98 : decode cX12_finishResult 98 = .ok (.iconst 0, 1) := by decide +kernel
theorem dX12_finishResult_99 : decode cX12_finishResult 99 = .ok (.invokevirtual 155, 3) := by decide +kernel
theorem dX12_finishResult_102 : decode cX12_finishResult 102 = .ok (.aload_n 0, 1) := by decide +kernel
theorem dX12_finishResult_103 : decode cX12_finishResult 103 = .ok (.iload_n 1, 1) := by decide +kernel
theorem dX12_finishResult_104 : decode cX12_finishResult 104 = .ok (.iconst 3, 1) := by decide +kernel
theorem dX12_finishResult_105 : decode cX12_finishResult 105 = .ok (.invokestatic 43, 3) := by decide +kernel
theorem dX12_finishResult_108 : decode cX12_finishResult 108 = .ok (.invokevirtual 155, 3) := by decide +kernel
theorem dX12_finishResult_111 : decode cX12_finishResult 111 = .ok (.isub, 1) := by decide +kernel
theorem dX12_finishResult_112 : decode cX12_finishResult 112 = .ok (.i2l, 1) := by decide +kernel
theorem dX12_finishResult_113 : decode cX12_finishResult 113 = .ok (.ladd, 1) := by decide +kernel
theorem dX12_finishResult_114 : decode cX12_finishResult 114 = .ok (.lastore, 1) := by decide +kernel
theorem dX12_finishResult_115 : decode cX12_finishResult 115 = .ok (.aload_n 0, 1) := by decide +kernel
theorem dX12_finishResult_116 : decode cX12_finishResult 116 = .ok (.iload_n 2, 1) := by decide +kernel
theorem dX12_finishResult_117 : decode cX12_finishResult 117 = .ok (.iload_n 3, 1) := by decide +kernel
theorem dX12_finishResult_118 : decode cX12_finishResult 118 = .ok (.invokevirtual 200, 3) := by decide +kernel
theorem dX12_finishResult_121 : decode cX12_finishResult 121 = .ok (.iconst 0, 1) := by decide +kernel
theorem dX12_finishResult_122 : decode cX12_finishResult 122 = .ok (.istore 6, 2) := by decide +kernel
theorem dX12_finishResult_124 : decode cX12_finishResult 124 = .ok (.iload 6, 2) := by decide +kernel
theorem dX12_finishResult_126 : decode cX12_finishResult 126 = .ok (.iconst 3, 1) := by decide +kernel
theorem dX12_finishResult_127 : decode cX12_finishResult 127 = .ok (.if_icmp .ge 19, 3) := by decide +kernel
theorem dX12_finishResult_130 : decode cX12_finishResult 130 = .ok (.aload_n 0, 1) := by decide +kernel
theorem dX12_finishResult_131 : decode cX12_finishResult 131 = .ok (.iload 6, 2) := by decide +kernel
theorem dX12_finishResult_133 : decode cX12_finishResult 133 = .ok (.iload_n 2, 1) := by decide +kernel
theorem dX12_finishResult_134 : decode cX12_finishResult 134 = .ok (.iload 4, 2) := by decide +kernel
theorem dX12_finishResult_136 : decode cX12_finishResult 136 = .ok (.iload_n 3, 1) := by decide +kernel
theorem dX12_finishResult_137 : decode cX12_finishResult 137 = .ok (.invokevirtual 203, 3) := by decide +kernel
theorem dX12_finishResult_140 : decode cX12_finishResult 140 = .ok (.iinc 6 1, 3) := by decide +kernel
theorem dX12_finishResult_143 : decode cX12_finishResult 143 = .ok (.goto (-19), 3) := by decide +kernel
theorem dX12_finishResult_146 : decode cX12_finishResult 146 = .ok (.iload_n 1, 1) := by decide +kernel
theorem dX12_finishResult_147 : decode cX12_finishResult 147 = .ok (.ifCond .ne 14, 3) := by decide +kernel
theorem dX12_finishResult_150 : decode cX12_finishResult 150 = .ok (.aload_n 0, 1) := by decide +kernel
theorem dX12_finishResult_151 : decode cX12_finishResult 151 = .ok (.iload_n 2, 1) := by decide +kernel
theorem dX12_finishResult_152 : decode cX12_finishResult 152 = .ok (.iload 4, 2) := by decide +kernel
theorem dX12_finishResult_154 : decode cX12_finishResult 154 = .ok (.iload_n 3, 1) := by decide +kernel
theorem dX12_finishResult_155 : decode cX12_finishResult 155 = .ok (.invokevirtual 207, 3) := by decide +kernel
theorem dX12_finishResult_158 : decode cX12_finishResult 158 = .ok (.goto 39, 3) := by decide +kernel
theorem dX12_finishResult_161 : decode cX12_finishResult 161 = .ok (.aload_n 0, 1) := by decide +kernel
theorem dX12_finishResult_162 : decode cX12_finishResult 162 = .ok (.sipush 132, 3) := by decide +kernel
theorem dX12_finishResult_165 : decode cX12_finishResult 165 = .ok (.iconst 5, 1) := by decide +kernel
theorem dX12_finishResult_166 : decode cX12_finishResult 166 = .ok (.iload 5, 2) := by decide +kernel
theorem dX12_finishResult_168 : decode cX12_finishResult 168 = .ok (.imul, 1) := by decide +kernel
theorem dX12_finishResult_169 : decode cX12_finishResult 169 = .ok (.iadd, 1) := by decide +kernel
theorem dX12_finishResult_170 : decode cX12_finishResult 170 = .ok (.iconst 1, 1) := by decide +kernel
theorem dX12_finishResult_171 : decode cX12_finishResult 171 = .ok (.invokevirtual 39, 3) := by decide +kernel
theorem dX12_finishResult_174 : decode cX12_finishResult 174 = .ok (.aload_n 0, 1) := by decide +kernel
theorem dX12_finishResult_175 : decode cX12_finishResult 175 = .ok (.sipush 132, 3) := by decide +kernel
theorem dX12_finishResult_178 : decode cX12_finishResult 178 = .ok (.iconst 5, 1) := by decide +kernel
theorem dX12_finishResult_179 : decode cX12_finishResult 179 = .ok (.iload 5, 2) := by decide +kernel
theorem dX12_finishResult_181 : decode cX12_finishResult 181 = .ok (.imul, 1) := by decide +kernel
theorem dX12_finishResult_182 : decode cX12_finishResult 182 = .ok (.iadd, 1) := by decide +kernel
theorem dX12_finishResult_183 : decode cX12_finishResult 183 = .ok (.iconst 1, 1) := by decide +kernel
theorem dX12_finishResult_184 : decode cX12_finishResult 184 = .ok (.iadd, 1) := by decide +kernel
theorem dX12_finishResult_185 : decode cX12_finishResult 185 = .ok (.iload_n 2, 1) := by decide +kernel
theorem dX12_finishResult_186 : decode cX12_finishResult 186 = .ok (.iload 4, 2) := by decide +kernel
theorem dX12_finishResult_188 : decode cX12_finishResult 188 = .ok (.aload_n 0, 1) := by decide +kernel
theorem dX12_finishResult_189 : decode cX12_finishResult 189 = .ok (.iconst 0, 1) := by decide +kernel
theorem dX12_finishResult_190 : decode cX12_finishResult 190 = .ok (.invokevirtual 155, 3) := by decide +kernel
theorem dX12_finishResult_193 : decode cX12_finishResult 193 = .ok (.iload_n 3, 1) := by decide +kernel
theorem dX12_finishResult_194 : decode cX12_finishResult 194 = .ok (.invokevirtual 193, 3) := by decide +kernel
theorem dX12_finishResult_197 : decode cX12_finishResult 197 = .ok (.aload_n 0, 1) := by decide +kernel
theorem dX12_finishResult_198 : decode cX12_finishResult 198 = .ok (.iload_n 1, 1) := by decide +kernel
theorem dX12_finishResult_199 : decode cX12_finishResult 199 = .ok (.iconst 1, 1) := by decide +kernel
theorem dX12_finishResult_200 : decode cX12_finishResult 200 = .ok (.invokestatic 43, 3) := by decide +kernel
theorem dX12_finishResult_203 : decode cX12_finishResult 203 = .ok (.iconst 1, 1) := by decide +kernel
theorem dX12_finishResult_204 : decode cX12_finishResult 204 = .ok (.invokevirtual 162, 3) := by decide +kernel
theorem dX12_finishResult_207 : decode cX12_finishResult 207 = .ok (.aload_n 0, 1) := by decide +kernel
theorem dX12_finishResult_208 : decode cX12_finishResult 208 = .ok (.iload_n 1, 1) := by decide +kernel
theorem dX12_finishResult_209 : decode cX12_finishResult 209 = .ok (.bipush 8, 2) := by decide +kernel
theorem dX12_finishResult_211 : decode cX12_finishResult 211 = .ok (.invokestatic 43, 3) := by decide +kernel
theorem dX12_finishResult_214 : decode cX12_finishResult 214 = .ok (.iconst (-1), 1) := by decide +kernel
theorem dX12_finishResult_215 : decode cX12_finishResult 215 = .ok (.invokevirtual 162, 3) := by decide +kernel
theorem dX12_finishResult_218 : decode cX12_finishResult 218 = .ok (.aload_n 0, 1) := by decide +kernel
theorem dX12_finishResult_219 : decode cX12_finishResult 219 = .ok (.iload_n 1, 1) := by decide +kernel
theorem dX12_finishResult_220 : decode cX12_finishResult 220 = .ok (.bipush 8, 2) := by decide +kernel
theorem dX12_finishResult_222 : decode cX12_finishResult 222 = .ok (.invokestatic 43, 3) := by decide +kernel
theorem dX12_finishResult_225 : decode cX12_finishResult 225 = .ok (.invokevirtual 155, 3) := by decide +kernel
theorem dX12_finishResult_228 : decode cX12_finishResult 228 = .ok (.ifCond .ne 8, 3) := by decide +kernel
theorem dX12_finishResult_231 : decode cX12_finishResult 231 = .ok (.aload_n 0, 1) := by decide +kernel
theorem dX12_finishResult_232 : decode cX12_finishResult 232 = .ok (.iload_n 1, 1) := by decide +kernel
theorem dX12_finishResult_233 : decode cX12_finishResult 233 = .ok (.invokevirtual 211, 3) := by decide +kernel
theorem dX12_finishResult_236 : decode cX12_finishResult 236 = .ok (.return_, 1) := by decide +kernel
theorem dX12_startConversion_0 : decode cX12_startConversion 0 = .ok (.aload_n 0, 1) := by decide +kernel
theorem dX12_startConversion_1 : decode cX12_startConversion 1 = .ok (.iconst 1, 1) := by decide +kernel
theorem dX12_startConversion_2 : decode cX12_startConversion 2 = .ok (.iconst 0, 1) := by decide +kernel
theorem dX12_startConversion_3 : decode cX12_startConversion 3 = .ok (.invokestatic 43, 3) := by decide +kernel
theorem dX12_startConversion_6 : decode cX12_startConversion 6 = .ok (.invokevirtual 155, 3) := by decide +kernel
theorem dX12_startConversion_9 : decode cX12_startConversion 9 = .ok (.iconst 1, 1) := by decide +kernel
theorem dX12_startConversion_10 : decode cX12_startConversion 10 = .ok (.if_icmp .ne 7, 3) := by decide +kernel
theorem dX12_startConversion_13 : decode cX12_startConversion 13 = .ok (.iconst 1, 1) := by decide +kernel
theorem dX12_startConversion_14 : decode cX12_startConversion 14 = .ok (.goto 4, 3) := by decide +kernel
theorem dX12_startConversion_17 : decode cX12_startConversion 17 = .ok (.iconst 0, 1) := by decide +kernel
theorem dX12_startConversion_18 : decode cX12_startConversion 18 = .ok (.istore_n 1, 1) := by decide +kernel
theorem dX12_startConversion_19 : decode cX12_startConversion 19 = .ok (.aload_n 0, 1) := by decide +kernel
theorem dX12_startConversion_20 : decode cX12_startConversion 20 = .ok (.iconst 1, 1) := by decide +kernel
theorem dX12_startConversion_21 : decode cX12_startConversion 21 = .ok (.invokevirtual 155, 3) := by decide +kernel
theorem dX12_startConversion_24 : decode cX12_startConversion 24 = .ok (.ifCond .ne 15, 3) := by decide +kernel
theorem dX12_startConversion_27 : decode cX12_startConversion 27 = .ok (.aload_n 0, 1) := by decide +kernel
theorem dX12_startConversion_28 : decode cX12_startConversion 28 = .ok (.iload_n 1, 1) := by decide +kernel
theorem dX12_startConversion_29 : decode cX12_startConversion 29 = .ok (.iconst 0, 1) := by decide +kernel
theorem dX12_startConversion_30 : decode cX12_startConversion 30 = .ok (.invokestatic 43, 3) := by decide +kernel
theorem dX12_startConversion_33 : decode cX12_startConversion 33 = .ok (.invokevirtual 155, 3) := by decide +kernel
theorem dX12_startConversion_36 : decode cX12_startConversion 36 = .ok (.ifCond .ne 4, 3) := by decide +kernel
theorem dX12_startConversion_39 : decode cX12_startConversion 39 = .ok (.return_, 1) := by decide +kernel
theorem dX12_startConversion_40 : decode cX12_startConversion 40 = .ok (.aload_n 0, 1) := by decide +kernel
theorem dX12_startConversion_41 : decode cX12_startConversion 41 = .ok (.iload_n 1, 1) := by decide +kernel
theorem dX12_startConversion_42 : decode cX12_startConversion 42 = .ok (.aload_n 0, 1) := by decide +kernel
theorem dX12_startConversion_43 : decode cX12_startConversion 43 = .ok (.iload_n 1, 1) := by decide +kernel
theorem dX12_startConversion_44 : decode cX12_startConversion 44 = .ok (.iconst 1, 1) := by decide +kernel
theorem dX12_startConversion_45 : decode cX12_startConversion 45 = .ok (.invokestatic 43, 3) := by decide +kernel
theorem dX12_startConversion_48 : decode cX12_startConversion 48 = .ok (.invokevirtual 155, 3) := by decide +kernel
theorem dX12_startConversion_51 : decode cX12_startConversion 51 = .ok (.invokevirtual 214, 3) := by decide +kernel
theorem dX12_startConversion_54 : decode cX12_startConversion 54 = .ok (.istore_n 2, 1) := by decide +kernel
theorem dX12_startConversion_55 : decode cX12_startConversion 55 = .ok (.aload_n 0, 1) := by decide +kernel
theorem dX12_startConversion_56 : decode cX12_startConversion 56 = .ok (.iconst 1, 1) := by decide +kernel
theorem dX12_startConversion_57 : decode cX12_startConversion 57 = .ok (.iload_n 1, 1) := by decide +kernel
theorem dX12_startConversion_58 : decode cX12_startConversion 58 = .ok (.iconst 1, 1) := by decide +kernel
theorem dX12_startConversion_59 : decode cX12_startConversion 59 = .ok (.iadd, 1) := by decide +kernel
theorem dX12_startConversion_60 : decode cX12_startConversion 60 = .ok (.invokevirtual 39, 3) := by decide +kernel
theorem dX12_startConversion_63 : decode cX12_startConversion 63 = .ok (.aload_n 0, 1) := by decide +kernel
theorem dX12_startConversion_64 : decode cX12_startConversion 64 = .ok (.iconst 2, 1) := by decide +kernel
theorem dX12_startConversion_65 : decode cX12_startConversion 65 = .ok (.iload_n 2, 1) := by decide +kernel
theorem dX12_startConversion_66 : decode cX12_startConversion 66 = .ok (.invokevirtual 39, 3) := by decide +kernel
theorem dX12_startConversion_69 : decode cX12_startConversion 69 = .ok (.aload_n 0, 1) := by decide +kernel
theorem dX12_startConversion_70 : decode cX12_startConversion 70 = .ok (.iconst 4, 1) := by decide +kernel
theorem dX12_startConversion_71 : decode cX12_startConversion 71 = .ok (.aload_n 0, 1) := by decide +kernel
theorem dX12_startConversion_72 : decode cX12_startConversion 72 = .ok (.iload_n 2, 1) := by decide +kernel
theorem dX12_startConversion_73 : decode cX12_startConversion 73 = .ok (.iconst 0, 1) := by decide +kernel
theorem dX12_startConversion_74 : decode cX12_startConversion 74 = .ok (.invokestatic 47, 3) := by decide +kernel
theorem dX12_startConversion_77 : decode cX12_startConversion 77 = .ok (.invokevirtual 155, 3) := by decide +kernel
theorem dX12_startConversion_80 : decode cX12_startConversion 80 = .ok (.invokevirtual 39, 3) := by decide +kernel
theorem dX12_startConversion_83 : decode cX12_startConversion 83 = .ok (.aload_n 0, 1) := by decide +kernel
theorem dX12_startConversion_84 : decode cX12_startConversion 84 = .ok (.iconst 3, 1) := by decide +kernel
theorem dX12_startConversion_85 : decode cX12_startConversion 85 = .ok (.aload_n 0, 1) := by decide +kernel
theorem dX12_startConversion_86 : decode cX12_startConversion 86 = .ok (.iload_n 2, 1) := by decide +kernel
theorem dX12_startConversion_87 : decode cX12_startConversion 87 = .ok (.iconst 0, 1) := by decide +kernel
theorem dX12_startConversion_88 : decode cX12_startConversion 88 = .ok (.invokestatic 47, 3) := by decide +kernel
theorem dX12_startConversion_91 : decode cX12_startConversion 91 = .ok (.invokevirtual 155, 3) := by decide +kernel
theorem dX12_startConversion_94 : decode cX12_startConversion 94 = .ok (.bipush 12, 2) := by decide +kernel
theorem dX12_startConversion_96 : decode cX12_startConversion 96 = .ok (.iadd, 1) := by decide +kernel
theorem dX12_startConversion_97 : decode cX12_startConversion 97 = .ok (.invokevirtual 39, 3) := by decide +kernel
theorem dX12_startConversion_100 : decode cX12_startConversion 100 = .ok (.return_, 1) := by decide +kernel
theorem dX12_convert_0 : decode cX12_convert 0 = .ok (.aload_n 0, 1) := by decide +kernel
theorem dX12_convert_1 : decode cX12_convert 1 = .ok (.iconst 1, 1) := by decide +kernel
theorem dX12_convert_2 : decode cX12_convert 2 = .ok (.invokevirtual 155, 3) := by decide +kernel
theorem dX12_convert_5 : decode cX12_convert 5 = .ok (.ifCond .ne 4, 3) := by decide +kernel
theorem dX12_convert_8 : decode cX12_convert 8 = .ok (.return_, 1) := by decide +kernel
theorem dX12_convert_9 : decode cX12_convert 9 = .ok (.aload_n 0, 1) := by decide +kernel
theorem dX12_convert_10 : decode cX12_convert 10 = .ok (.iconst 1, 1) := by decide +kernel
theorem dX12_convert_11 : decode cX12_convert 11 = .ok (.invokevirtual 155, 3) := by decide +kernel
theorem dX12_convert_14 : decode cX12_convert 14 = .ok (.iconst 1, 1) := by decide +kernel
theorem dX12_convert_15 : decode cX12_convert 15 = .ok (.isub, 1) := by decide +kernel
theorem dX12_convert_16 : decode cX12_convert 16 = .ok (.istore_n 1, 1) := by decide +kernel
theorem dX12_convert_17 : decode cX12_convert 17 = .ok (.aload_n 0, 1) := by decide +kernel
theorem dX12_convert_18 : decode cX12_convert 18 = .ok (.iconst 2, 1) := by decide +kernel
theorem dX12_convert_19 : decode cX12_convert 19 = .ok (.invokevirtual 155, 3) := by decide +kernel
theorem dX12_convert_22 : decode cX12_convert 22 = .ok (.istore_n 2, 1) := by decide +kernel
theorem dX12_convert_23 : decode cX12_convert 23 = .ok (.aload_n 0, 1) := by decide +kernel
theorem dX12_convert_24 : decode cX12_convert 24 = .ok (.iconst 4, 1) := by decide +kernel
theorem dX12_convert_25 : decode cX12_convert 25 = .ok (.iconst (-1), 1) := by decide +kernel
theorem dX12_convert_26 : decode cX12_convert 26 = .ok (.invokevirtual 162, 3) := by decide +kernel
theorem dX12_convert_29 : decode cX12_convert 29 = .ok (.aload_n 0, 1) := by decide +kernel
theorem dX12_convert_30 : decode cX12_convert 30 = .ok (.iconst 4, 1) := by decide +kernel
theorem dX12_convert_31 : decode cX12_convert 31 = .ok (.invokevirtual 155, 3) := by decide +kernel
theorem dX12_convert_34 : decode cX12_convert 34 = .ok (.ifCond .ne 18, 3) := by decide +kernel
theorem dX12_convert_37 : decode cX12_convert 37 = .ok (.aload_n 0, 1) := by decide +kernel
theorem dX12_convert_38 : decode cX12_convert 38 = .ok (.iconst 5, 1) := by decide +kernel
theorem dX12_convert_39 : decode cX12_convert 39 = .ok (.aload_n 0, 1) := by decide +kernel
theorem dX12_convert_40 : decode cX12_convert 40 = .ok (.iload_n 2, 1) := by decide +kernel
theorem dX12_convert_41 : decode cX12_convert 41 = .ok (.aload_n 0, 1) := by decide +kernel
theorem dX12_convert_42 : decode cX12_convert 42 = .ok (.iconst 0, 1) := by decide +kernel
theorem dX12_convert_43 : decode cX12_convert 43 = .ok (.invokevirtual 155, 3) := by decide +kernel
theorem dX12_convert_46 : decode cX12_convert 46 = .ok (.invokevirtual 217, 3) := by decide +kernel
theorem dX12_convert_49 : decode cX12_convert 49 = .ok (.invokevirtual 39, 3) := by decide +kernel
theorem dX12_convert_52 : decode cX12_convert 52 = .ok (.aload_n 0, 1) := by decide +kernel
theorem dX12_convert_53 : decode cX12_convert 53 = .ok (.iconst 3, 1) := by decide +kernel
theorem dX12_convert_54 : decode cX12_convert 54 = .ok (.iconst (-1), 1) := by decide +kernel
theorem dX12_convert_55 : decode cX12_convert 55 = .ok (.invokevirtual 162, 3) := by decide +kernel
theorem dX12_convert_58 : decode cX12_convert 58 = .ok (.aload_n 0, 1) := by decide +kernel
theorem dX12_convert_59 : decode cX12_convert 59 = .ok (.iconst 3, 1) := by decide +kernel
theorem dX12_convert_60 : decode cX12_convert 60 = .ok (.invokevirtual 155, 3) := by decide +kernel
theorem dX12_convert_63 : decode cX12_convert 63 = .ok (.ifCond .le 4, 3) := by decide +kernel
theorem dX12_convert_66 : decode cX12_convert 66 = .ok (.return_, 1) := by decide +kernel
theorem dX12_convert_67 : decode cX12_convert 67 = .ok (.aload_n 0, 1) := by decide +kernel
theorem dX12_convert_68 : decode cX12_convert 68 = .ok (.iconst 1, 1) := by decide +kernel
theorem dX12_convert_69 : decode cX12_convert 69 = .ok (.iconst 0, 1) := by decide +kernel
theorem dX12_convert_70 : decode cX12_convert 70 = .ok (.invokevirtual 39, 3) := by decide +kernel
theorem dX12_convert_73 : decode cX12_convert 73 = .ok (.aload_n 0, 1) := by decide +kernel
theorem dX12_convert_74 : decode cX12_convert 74 = .ok (.bipush 6, 2) := by decide +kernel
theorem dX12_convert_76 : decode cX12_convert 76 = .ok (.iconst 1, 1) := by decide +kernel
theorem dX12_convert_77 : decode cX12_convert 77 = .ok (.invokevirtual 162, 3) := by decide +kernel
theorem dX12_convert_80 : decode cX12_convert 80 = .ok (.aload_n 0, 1) := by decide +kernel
theorem dX12_convert_81 : decode cX12_convert 81 = .ok (.iload_n 1, 1) := by decide +kernel
theorem dX12_convert_82 : decode cX12_convert 82 = .ok (.bipush 6, 2) := by decide +kernel
theorem dX12_convert_84 : decode cX12_convert 84 = .ok (.invokestatic 43, 3) := by decide +kernel
theorem dX12_convert_87 : decode cX12_convert 87 = .ok (.iconst 1, 1) := by decide +kernel
theorem dX12_convert_88 : decode cX12_convert 88 = .ok (.invokevirtual 162, 3) := by decide +kernel
theorem dX12_convert_91 : decode cX12_convert 91 = .ok (.aload_n 0, 1) := by decide +kernel
theorem dX12_convert_92 : decode cX12_convert 92 = .ok (.iload_n 1, 1) := by decide +kernel
theorem dX12_convert_93 : decode cX12_convert 93 = .ok (.bipush 7, 2) := by decide +kernel
theorem dX12_convert_95 : decode cX12_convert 95 = .ok (.invokestatic 43, 3) := by decide +kernel
theorem dX12_convert_98 : decode cX12_convert 98 = .ok (.aload_n 0, 1) := by decide +kernel
theorem dX12_convert_99 : decode cX12_convert 99 = .ok (.iconst 5, 1) := by decide +kernel
theorem dX12_convert_100 : decode cX12_convert 100 = .ok (.invokevirtual 155, 3) := by decide +kernel
theorem dX12_convert_103 : decode cX12_convert 103 = .ok (.invokevirtual 162, 3) := by decide +kernel
theorem dX12_convert_106 : decode cX12_convert 106 = .ok (.aload_n 0, 1) := by decide +kernel
theorem dX12_convert_107 : decode cX12_convert 107 = .ok (.iload_n 1, 1) := by decide +kernel
theorem dX12_convert_108 : decode cX12_convert 108 = .ok (.bipush 6, 2) := by decide +kernel
theorem dX12_convert_110 : decode cX12_convert 110 = .ok (.invokestatic 43, 3) := by decide +kernel
theorem dX12_convert_113 : decode cX12_convert 113 = .ok (.invokevirtual 155, 3) := by decide +kernel
theorem dX12_convert_116 : decode cX12_convert 116 = .ok (.iconst 1, 1) := by decide +kernel
theorem dX12_convert_117 : decode cX12_convert 117 = .ok (.aload_n 0, 1) := by decide +kernel
theorem dX12_convert_118 : decode cX12_convert 118 = .ok (.getfield 26, 3) := by decide +kernel
theorem dX12_convert_121 : decode cX12_convert 121 = .ok (.iconst 2, 1) := by decide +kernel
theorem dX12_convert_122 : decode cX12_convert 122 = .ok (.iaload, 1) := by decide +kernel
theorem dX12_convert_123 : decode cX12_convert 123 = .ok (.ishl, 1) := by decide +kernel
theorem dX12_convert_124 : decode cX12_convert 124 = .ok (.if_icmp .ne 9, 3) := by decide +kernel
theorem dX12_convert_127 : decode cX12_convert 127 = .ok (.aload_n 0, 1) := by decide +kernel
theorem dX12_convert_128 : decode cX12_convert 128 = .ok (.iload_n 1, 1) := by decide +kernel
theorem dX12_convert_129 : decode cX12_convert 129 = .ok (.iload_n 2, 1) := by decide +kernel
theorem dX12_convert_130 : decode cX12_convert 130 = .ok (.invokevirtual 220, 3) := by decide +kernel
theorem dX12_convert_133 : decode cX12_convert 133 = .ok (.return_, 1) := by decide +kernel
theorem dX12_passCycle_0 : decode cX12_passCycle 0 = .ok (.aload_n 0, 1) := by decide +kernel
theorem dX12_passCycle_1 : decode cX12_passCycle 1 = .ok (.invokevirtual 223, 3) := by decide +kernel
theorem dX12_passCycle_4 : decode cX12_passCycle 4 = .ok (.aload_n 0, 1) := by decide +kernel
theorem dX12_passCycle_5 : decode cX12_passCycle 5 = .ok (.invokevirtual 226, 3) := by decide +kernel
theorem dX12_passCycle_8 : decode cX12_passCycle 8 = .ok (.aload_n 0, 1) := by decide +kernel
theorem dX12_passCycle_9 : decode cX12_passCycle 9 = .ok (.invokevirtual 229, 3) := by decide +kernel
theorem dX12_passCycle_12 : decode cX12_passCycle 12 = .ok (.aload_n 0, 1) := by decide +kernel
theorem dX12_passCycle_13 : decode cX12_passCycle 13 = .ok (.invokevirtual 232, 3) := by decide +kernel
theorem dX12_passCycle_16 : decode cX12_passCycle 16 = .ok (.aload_n 0, 1) := by decide +kernel
theorem dX12_passCycle_17 : decode cX12_passCycle 17 = .ok (.iconst 0, 1) := by decide +kernel
theorem dX12_passCycle_18 : decode cX12_passCycle 18 = .ok (.iconst 1, 1) := by decide +kernel
theorem dX12_passCycle_19 : decode cX12_passCycle 19 = .ok (.invokevirtual 162, 3) := by decide +kernel
theorem dX12_passCycle_22 : decode cX12_passCycle 22 = .ok (.return_, 1) := by decide +kernel
theorem dX12_run_0 : decode cX12_run 0 = .ok (.aload_n 0, 1) := by decide +kernel
theorem dX12_run_1 : decode cX12_run 1 = .ok (.iload_n 1, 1) := by decide +kernel
theorem dX12_run_2 : decode cX12_run 2 = .ok (.iconst 1, 1) := by decide +kernel
theorem dX12_run_3 : decode cX12_run 3 = .ok (.sipush 5000, 3) := by decide +kernel
theorem dX12_run_6 : decode cX12_run 6 = .ok (.invokestatic 22, 3) := by decide +kernel
theorem dX12_run_9 : decode cX12_run 9 = .ok (.ifCond .ne 7, 3) := by decide +kernel
theorem dX12_run_12 : decode cX12_run 12 = .ok (.iconst 1, 1) := by decide +kernel
theorem dX12_run_13 : decode cX12_run 13 = .ok (.goto 4, 3) := by decide +kernel
theorem dX12_run_16 : decode cX12_run 16 = .ok (.iconst 0, 1) := by decide +kernel
theorem dX12_run_17 : decode cX12_run 17 = .ok (.iconst 0, 1) := by decide +kernel
theorem dX12_run_18 : decode cX12_run 18 = .ok (.iconst 0, 1) := by decide +kernel
theorem dX12_run_19 : decode cX12_run 19 = .ok (.invokevirtual 14, 3) := by decide +kernel
theorem dX12_run_22 : decode cX12_run 22 = .ok (.ifCond .eq 5, 3) := by decide +kernel
theorem dX12_run_25 : decode cX12_run 25 = .ok (.iconst 0, 1) := by decide +kernel
theorem dX12_run_26 : decode cX12_run 26 = .ok (.ireturn, 1) := by decide +kernel
theorem dX12_run_27 : decode cX12_run 27 = .ok (.aload_n 0, 1) := by decide +kernel
theorem dX12_run_28 : decode cX12_run 28 = .ok (.bipush 13, 2) := by decide +kernel
theorem dX12_run_30 : decode cX12_run 30 = .ok (.invokevirtual 155, 3) := by decide +kernel
theorem dX12_run_33 : decode cX12_run 33 = .ok (.istore_n 2, 1) := by decide +kernel
theorem dX12_run_34 : decode cX12_run 34 = .ok (.iconst 0, 1) := by decide +kernel
theorem dX12_run_35 : decode cX12_run 35 = .ok (.istore_n 3, 1) := by decide +kernel
theorem dX12_run_36 : decode cX12_run 36 = .ok (.iload_n 3, 1) := by decide +kernel
theorem dX12_run_37 : decode cX12_run 37 = .ok (.iload_n 1, 1) := by decide +kernel
theorem dX12_run_38 : decode cX12_run 38 = .ok (.if_icmp .ge 13, 3) := by decide +kernel
theorem dX12_run_41 : decode cX12_run 41 = .ok (.aload_n 0, 1) := by decide +kernel
theorem dX12_run_42 : decode cX12_run 42 = .ok (.invokevirtual 235, 3) := by decide +kernel
theorem dX12_run_45 : decode cX12_run 45 = .ok (.iinc 3 1, 3) := by decide +kernel
theorem dX12_run_48 : decode cX12_run 48 = .ok (.goto (-12), 3) := by decide +kernel
theorem dX12_run_51 : decode cX12_run 51 = .ok (.aload_n 0, 1) := by decide +kernel
theorem dX12_run_52 : decode cX12_run 52 = .ok (.bipush 13, 2) := by decide +kernel
theorem dX12_run_54 : decode cX12_run 54 = .ok (.invokevirtual 155, 3) := by decide +kernel
theorem dX12_run_57 : decode cX12_run 57 = .ok (.iload_n 2, 1) := by decide +kernel
theorem dX12_run_58 : decode cX12_run 58 = .ok (.isub, 1) := by decide +kernel
theorem dX12_run_59 : decode cX12_run 59 = .ok (.ireturn, 1) := by decide +kernel
theorem dX12_isTrigger_0 : decode cX12_isTrigger 0 = .ok (.iload_n 1, 1) := by decide +kernel
theorem dX12_isTrigger_1 : decode cX12_isTrigger 1 = .ok (.iconst 0, 1) := by decide +kernel
theorem dX12_isTrigger_2 : decode cX12_isTrigger 2 = .ok (.iconst 3, 1) := by decide +kernel
theorem dX12_isTrigger_3 : decode cX12_isTrigger 3 = .ok (.invokestatic 22, 3) := by decide +kernel
theorem dX12_isTrigger_6 : decode cX12_isTrigger 6 = .ok (.ireturn, 1) := by decide +kernel
theorem dX12_fire_0 : decode cX12_fire 0 = .ok (.aload_n 0, 1) := by decide +kernel
theorem dX12_fire_1 : decode cX12_fire 1 = .ok (.aload_n 0, 1) := by decide +kernel
theorem dX12_fire_2 : decode cX12_fire 2 = .ok (.iload_n 1, 1) := by decide +kernel
theorem dX12_fire_3 : decode cX12_fire 3 = .ok (.invokevirtual 238, 3) := by decide +kernel
theorem dX12_fire_6 : decode cX12_fire 6 = .ok (.ifCond .ne 7, 3) := by decide +kernel
theorem dX12_fire_9 : decode cX12_fire 9 = .ok (.iconst 1, 1) := by decide +kernel
theorem dX12_fire_10 : decode cX12_fire 10 = .ok (.goto 4, 3) := by decide +kernel
theorem dX12_fire_13 : decode cX12_fire 13 = .ok (.iconst 0, 1) := by decide +kernel
theorem dX12_fire_14 : decode cX12_fire 14 = .ok (.iconst 0, 1) := by decide +kernel
theorem dX12_fire_15 : decode cX12_fire 15 = .ok (.iconst 0, 1) := by decide +kernel
theorem dX12_fire_16 : decode cX12_fire 16 = .ok (.invokevirtual 14, 3) := by decide +kernel
theorem dX12_fire_19 : decode cX12_fire 19 = .ok (.ifCond .eq 5, 3) := by decide +kernel
theorem dX12_fire_22 : decode cX12_fire 22 = .ok (.iconst 0, 1) := by decide +kernel
theorem dX12_fire_23 : decode cX12_fire 23 = .ok (.ireturn, 1) := by decide +kernel
theorem dX12_fire_24 : decode cX12_fire 24 = .ok (.aload_n 0, 1) := by decide +kernel
theorem dX12_fire_25 : decode cX12_fire 25 = .ok (.iload_n 1, 1) := by decide +kernel
theorem dX12_fire_26 : decode cX12_fire 26 = .ok (.invokevirtual 183, 3) := by decide +kernel
theorem dX12_fire_29 : decode cX12_fire 29 = .ok (.ifCond .eq 7, 3) := by decide +kernel
theorem dX12_fire_32 : decode cX12_fire 32 = .ok (.iconst 1, 1) := by decide +kernel
theorem dX12_fire_33 : decode cX12_fire 33 = .ok (.goto 4, 3) := by decide +kernel
theorem dX12_fire_36 : decode cX12_fire 36 = .ok (.iconst 0, 1) := by decide +kernel
theorem dX12_fire_37 : decode cX12_fire 37 = .ok (.ireturn, 1) := by decide +kernel
theorem dX12_stop_0 : decode cX12_stop 0 = .ok (.aload_n 0, 1) := by decide +kernel
theorem dX12_stop_1 : decode cX12_stop 1 = .ok (.iconst 0, 1) := by decide +kernel
theorem dX12_stop_2 : decode cX12_stop 2 = .ok (.putfield 1, 3) := by decide +kernel
theorem dX12_stop_5 : decode cX12_stop 5 = .ok (.aload_n 0, 1) := by decide +kernel
theorem dX12_stop_6 : decode cX12_stop 6 = .ok (.iconst 0, 1) := by decide +kernel
theorem dX12_stop_7 : decode cX12_stop 7 = .ok (.iconst 0, 1) := by decide +kernel
theorem dX12_stop_8 : decode cX12_stop 8 = .ok (.invokestatic 43, 3) := by decide +kernel
theorem dX12_stop_11 : decode cX12_stop 11 = .ok (.invokevirtual 155, 3) := by decide +kernel
theorem dX12_stop_14 : decode cX12_stop 14 = .ok (.istore_n 1, 1) := by decide +kernel
theorem dX12_stop_15 : decode cX12_stop 15 = .ok (.aload_n 0, 1) := by decide +kernel
theorem dX12_stop_16 : decode cX12_stop 16 = .ok (.iconst 1, 1) := by decide +kernel
theorem dX12_stop_17 : decode cX12_stop 17 = .ok (.invokevirtual 155, 3) := by decide +kernel
theorem dX12_stop_20 : decode cX12_stop 20 = .ok (.iconst 1, 1) := by decide +kernel
theorem dX12_stop_21 : decode cX12_stop 21 = .ok (.if_icmp .ne 7, 3) := by decide +kernel
theorem dX12_stop_24 : decode cX12_stop 24 = .ok (.aload_n 0, 1) := by decide +kernel
theorem dX12_stop_25 : decode cX12_stop 25 = .ok (.invokevirtual 171, 3) := by decide +kernel
theorem dX12_stop_28 : decode cX12_stop 28 = .ok (.aload_n 0, 1) := by decide +kernel
theorem dX12_stop_29 : decode cX12_stop 29 = .ok (.iconst 0, 1) := by decide +kernel
theorem dX12_stop_30 : decode cX12_stop 30 = .ok (.invokevirtual 197, 3) := by decide +kernel
theorem dX12_stop_33 : decode cX12_stop 33 = .ok (.aload_n 0, 1) := by decide +kernel
theorem dX12_stop_34 : decode cX12_stop 34 = .ok (.iconst 0, 1) := by decide +kernel
theorem dX12_stop_35 : decode cX12_stop 35 = .ok (.iconst 1, 1) := by decide +kernel
theorem dX12_stop_36 : decode cX12_stop 36 = .ok (.invokestatic 43, 3) := by decide +kernel
theorem dX12_stop_39 : decode cX12_stop 39 = .ok (.iconst 0, 1) := by decide +kernel
theorem dX12_stop_40 : decode cX12_stop 40 = .ok (.invokevirtual 39, 3) := by decide +kernel
theorem dX12_stop_43 : decode cX12_stop 43 = .ok (.aload_n 0, 1) := by decide +kernel
theorem dX12_stop_44 : decode cX12_stop 44 = .ok (.iconst 0, 1) := by decide +kernel
theorem dX12_stop_45 : decode cX12_stop 45 = .ok (.invokevirtual 174, 3) := by decide +kernel
theorem dX12_stop_48 : decode cX12_stop 48 = .ok (.iload_n 1, 1) := by decide +kernel
theorem dX12_stop_49 : decode cX12_stop 49 = .ok (.ireturn, 1) := by decide +kernel
theorem dX12_take_0 : decode cX12_take 0 = .ok (.aload_n 0, 1) := by decide +kernel
theorem dX12_take_1 : decode cX12_take 1 = .ok (.aload_n 0, 1) := by decide +kernel
theorem dX12_take_2 : decode cX12_take 2 = .ok (.bipush 11, 2) := by decide +kernel
theorem dX12_take_4 : decode cX12_take 4 = .ok (.invokevirtual 155, 3) := by decide +kernel
theorem dX12_take_7 : decode cX12_take 7 = .ok (.ifCond .ne 7, 3) := by decide +kernel
theorem dX12_take_10 : decode cX12_take 10 = .ok (.iconst 1, 1) := by decide +kernel
theorem dX12_take_11 : decode cX12_take 11 = .ok (.goto 4, 3) := by decide +kernel
theorem dX12_take_14 : decode cX12_take 14 = .ok (.iconst 0, 1) := by decide +kernel
theorem dX12_take_15 : decode cX12_take 15 = .ok (.iconst 0, 1) := by decide +kernel
theorem dX12_take_16 : decode cX12_take 16 = .ok (.iconst 0, 1) := by decide +kernel
theorem dX12_take_17 : decode cX12_take 17 = .ok (.invokevirtual 14, 3) := by decide +kernel
theorem dX12_take_20 : decode cX12_take 20 = .ok (.ifCond .eq 5, 3) := by decide +kernel
theorem dX12_take_23 : decode cX12_take 23 = .ok (.iconst 0, 1) := by decide +kernel
theorem dX12_take_24 : decode cX12_take 24 = .ok (.ireturn, 1) := by decide +kernel
theorem dX12_take_25 : decode cX12_take 25 = .ok (.aload_n 0, 1) := by decide +kernel
theorem dX12_take_26 : decode cX12_take 26 = .ok (.sipush 155, 3) := by decide +kernel
theorem dX12_take_29 : decode cX12_take 29 = .ok (.invokevirtual 155, 3) := by decide +kernel
theorem dX12_take_32 : decode cX12_take 32 = .ok (.istore_n 1, 1) := by decide +kernel
theorem dX12_take_33 : decode cX12_take 33 = .ok (.aload_n 0, 1) := by decide +kernel
theorem dX12_take_34 : decode cX12_take 34 = .ok (.invokevirtual 190, 3) := by decide +kernel
theorem dX12_take_37 : decode cX12_take 37 = .ok (.iload_n 1, 1) := by decide +kernel
theorem dX12_take_38 : decode cX12_take 38 = .ok (.ireturn, 1) := by decide +kernel
theorem dX12_isWindow_0 : decode cX12_isWindow 0 = .ok (.iload_n 1, 1) := by decide +kernel
theorem dX12_isWindow_1 : decode cX12_isWindow 1 = .ok (.iconst 0, 1) := by decide +kernel
theorem dX12_isWindow_2 : decode cX12_isWindow 2 = .ok (.iconst 2, 1) := by decide +kernel
theorem dX12_isWindow_3 : decode cX12_isWindow 3 = .ok (.invokestatic 22, 3) := by decide +kernel
theorem dX12_isWindow_6 : decode cX12_isWindow 6 = .ok (.ifCond .eq 20, 3) := by decide +kernel
theorem dX12_isWindow_9 : decode cX12_isWindow 9 = .ok (.aload_n 0, 1) := by decide +kernel
theorem dX12_isWindow_10 : decode cX12_isWindow 10 = .ok (.getfield 26, 3) := by decide +kernel
theorem dX12_isWindow_13 : decode cX12_isWindow 13 = .ok (.bipush 48, 2) := by decide +kernel
theorem dX12_isWindow_15 : decode cX12_isWindow 15 = .ok (.iload_n 1, 1) := by decide +kernel
theorem dX12_isWindow_16 : decode cX12_isWindow 16 = .ok (.iadd, 1) := by decide +kernel
theorem dX12_isWindow_17 : decode cX12_isWindow 17 = .ok (.iaload, 1) := by decide +kernel
theorem dX12_isWindow_18 : decode cX12_isWindow 18 = .ok (.iconst 1, 1) := by decide +kernel
theorem dX12_isWindow_19 : decode cX12_isWindow 19 = .ok (.if_icmp .ne 7, 3) := by decide +kernel
theorem dX12_isWindow_22 : decode cX12_isWindow 22 = .ok (.iconst 1, 1) := by decide +kernel
theorem dX12_isWindow_23 : decode cX12_isWindow 23 = .ok (.goto 4, 3) := by decide +kernel
theorem dX12_isWindow_26 : decode cX12_isWindow 26 = .ok (.iconst 0, 1) := by decide +kernel
theorem dX12_isWindow_27 : decode cX12_isWindow 27 = .ok (.ireturn, 1) := by decide +kernel
theorem dX12_acknowledge_0 : decode cX12_acknowledge 0 = .ok (.aload_n 0, 1) := by decide +kernel
theorem dX12_acknowledge_1 : decode cX12_acknowledge 1 = .ok (.aload_n 0, 1) := by decide +kernel
theorem dX12_acknowledge_2 : decode cX12_acknowledge 2 = .ok (.iload_n 1, 1) := by decide +kernel
theorem dX12_acknowledge_3 : decode cX12_acknowledge 3 = .ok (.invokevirtual 241, 3) := by decide +kernel
theorem dX12_acknowledge_6 : decode cX12_acknowledge 6 = .ok (.ifCond .ne 7, 3) := by decide +kernel
theorem dX12_acknowledge_9 : decode cX12_acknowledge 9 = .ok (.iconst 1, 1) := by decide +kernel
theorem dX12_acknowledge_10 : decode cX12_acknowledge 10 = .ok (.goto 4, 3) := by decide +kernel
theorem dX12_acknowledge_13 : decode cX12_acknowledge 13 = .ok (.iconst 0, 1) := by decide +kernel
theorem dX12_acknowledge_14 : decode cX12_acknowledge 14 = .ok (.iconst 0, 1) := by decide +kernel
theorem dX12_acknowledge_15 : decode cX12_acknowledge 15 = .ok (.iconst 0, 1) := by decide +kernel
theorem dX12_acknowledge_16 : decode cX12_acknowledge 16 = .ok (.invokevirtual 14, 3) := by decide +kernel
theorem dX12_acknowledge_19 : decode cX12_acknowledge 19 = .ok (.ifCond .eq 5, 3) := by decide +kernel
theorem dX12_acknowledge_22 : decode cX12_acknowledge 22 = .ok (.iconst 0, 1) := by decide +kernel
theorem dX12_acknowledge_23 : decode cX12_acknowledge 23 = .ok (.ireturn, 1) := by decide +kernel
theorem dX12_acknowledge_24 : decode cX12_acknowledge 24 = .ok (.aload_n 0, 1) := by decide +kernel
theorem dX12_acknowledge_25 : decode cX12_acknowledge 25 = .ok (.iload_n 1, 1) := by decide +kernel
theorem dX12_acknowledge_26 : decode cX12_acknowledge 26 = .ok (.iconst 3, 1) := by decide +kernel
theorem dX12_acknowledge_27 : decode cX12_acknowledge 27 = .ok (.invokestatic 187, 3) := by decide +kernel
theorem dX12_acknowledge_30 : decode cX12_acknowledge 30 = .ok (.invokevirtual 155, 3) := by decide +kernel
theorem dX12_acknowledge_33 : decode cX12_acknowledge 33 = .ok (.istore_n 2, 1) := by decide +kernel
theorem dX12_acknowledge_34 : decode cX12_acknowledge 34 = .ok (.aload_n 0, 1) := by decide +kernel
theorem dX12_acknowledge_35 : decode cX12_acknowledge 35 = .ok (.iload_n 1, 1) := by decide +kernel
theorem dX12_acknowledge_36 : decode cX12_acknowledge 36 = .ok (.iconst 3, 1) := by decide +kernel
theorem dX12_acknowledge_37 : decode cX12_acknowledge 37 = .ok (.invokestatic 187, 3) := by decide +kernel
theorem dX12_acknowledge_40 : decode cX12_acknowledge 40 = .ok (.iconst 0, 1) := by decide +kernel
theorem dX12_acknowledge_41 : decode cX12_acknowledge 41 = .ok (.invokevirtual 39, 3) := by decide +kernel
theorem dX12_acknowledge_44 : decode cX12_acknowledge 44 = .ok (.aload_n 0, 1) := by decide +kernel
theorem dX12_acknowledge_45 : decode cX12_acknowledge 45 = .ok (.iload_n 1, 1) := by decide +kernel
theorem dX12_acknowledge_46 : decode cX12_acknowledge 46 = .ok (.iconst 2, 1) := by decide +kernel
theorem dX12_acknowledge_47 : decode cX12_acknowledge 47 = .ok (.invokestatic 187, 3) := by decide +kernel
theorem dX12_acknowledge_50 : decode cX12_acknowledge 50 = .ok (.iconst 0, 1) := by decide +kernel
theorem dX12_acknowledge_51 : decode cX12_acknowledge 51 = .ok (.invokevirtual 39, 3) := by decide +kernel
theorem dX12_acknowledge_54 : decode cX12_acknowledge 54 = .ok (.iload_n 2, 1) := by decide +kernel
theorem dX12_acknowledge_55 : decode cX12_acknowledge 55 = .ok (.ireturn, 1) := by decide +kernel
theorem dX12_setSignal_0 : decode cX12_setSignal 0 = .ok (.aload_n 0, 1) := by decide +kernel
theorem dX12_setSignal_1 : decode cX12_setSignal 1 = .ok (.aload_n 0, 1) := by decide +kernel
theorem dX12_setSignal_2 : decode cX12_setSignal 2 = .ok (.iload_n 1, 1) := by decide +kernel
theorem dX12_setSignal_3 : decode cX12_setSignal 3 = .ok (.invokevirtual 244, 3) := by decide +kernel
theorem dX12_setSignal_6 : decode cX12_setSignal 6 = .ok (.ifCond .ne 7, 3) := by decide +kernel
theorem dX12_setSignal_9 : decode cX12_setSignal 9 = .ok (.iconst 1, 1) := by decide +kernel
theorem dX12_setSignal_10 : decode cX12_setSignal 10 = .ok (.goto 4, 3) := by decide +kernel
theorem dX12_setSignal_13 : decode cX12_setSignal 13 = .ok (.iconst 0, 1) := by decide +kernel
theorem dX12_setSignal_14 : decode cX12_setSignal 14 = .ok (.iload_n 2, 1) := by decide +kernel
theorem dX12_setSignal_15 : decode cX12_setSignal 15 = .ok (.iconst 0, 1) := by decide +kernel
theorem dX12_setSignal_16 : decode cX12_setSignal 16 = .ok (.sipush 4095, 3) := by decide +kernel
theorem dX12_setSignal_19 : decode cX12_setSignal 19 = .ok (.invokestatic 22, 3) := by decide +kernel
theorem dX12_setSignal_22 : decode cX12_setSignal 22 = .ok (.ifCond .eq 26, 3) := by decide +kernel
theorem dX12_setSignal_25 : decode cX12_setSignal 25 = .ok (.iload_n 3, 1) := by decide +kernel
theorem dX12_setSignal_26 : decode cX12_setSignal 26 = .ok (.bipush (-99), 2) := by decide +kernel
theorem dX12_setSignal_28 : decode cX12_setSignal 28 = .ok (.bipush 99, 2) := by decide +kernel
theorem dX12_setSignal_30 : decode cX12_setSignal 30 = .ok (.invokestatic 22, 3) := by decide +kernel
theorem dX12_setSignal_33 : decode cX12_setSignal 33 = .ok (.ifCond .eq 15, 3) := by decide +kernel
theorem dX12_setSignal_36 : decode cX12_setSignal 36 = .ok (.iload 4, 2) := by decide +kernel
theorem dX12_setSignal_38 : decode cX12_setSignal 38 = .ok (.iconst 1, 1) := by decide +kernel
theorem dX12_setSignal_39 : decode cX12_setSignal 39 = .ok (.sipush 9999, 3) := by decide +kernel
theorem dX12_setSignal_42 : decode cX12_setSignal 42 = .ok (.invokestatic 22, 3) := by decide +kernel
theorem dX12_setSignal_45 : decode cX12_setSignal 45 = .ok (.ifCond .ne 7, 3) := by decide +kernel
theorem dX12_setSignal_48 : decode cX12_setSignal 48 = .ok (.iconst 1, 1) := by decide +kernel
theorem dX12_setSignal_49 : decode cX12_setSignal 49 = .ok (.goto 4, 3) := by decide +kernel
theorem dX12_setSignal_52 : decode cX12_setSignal 52 = .ok (.iconst 0, 1) := by decide +kernel
theorem dX12_setSignal_53 : decode cX12_setSignal 53 = .ok (.iconst 0, 1) := by decide +kernel
theorem dX12_setSignal_54 : decode cX12_setSignal 54 = .ok (.invokevirtual 14, 3) := by decide +kernel
theorem dX12_setSignal_57 : decode cX12_setSignal 57 = .ok (.ifCond .eq 5, 3) := by decide +kernel
theorem dX12_setSignal_60 : decode cX12_setSignal 60 = .ok (.iconst 0, 1) := by decide +kernel
theorem dX12_setSignal_61 : decode cX12_setSignal 61 = .ok (.ireturn, 1) := by decide +kernel
theorem dX12_setSignal_62 : decode cX12_setSignal 62 = .ok (.aload_n 0, 1) := by decide +kernel
theorem dX12_setSignal_63 : decode cX12_setSignal 63 = .ok (.iload_n 1, 1) := by decide +kernel
theorem dX12_setSignal_64 : decode cX12_setSignal 64 = .ok (.iconst 1, 1) := by decide +kernel
theorem dX12_setSignal_65 : decode cX12_setSignal 65 = .ok (.invokestatic 47, 3) := by decide +kernel
theorem dX12_setSignal_68 : decode cX12_setSignal 68 = .ok (.iload_n 2, 1) := by decide +kernel
theorem dX12_setSignal_69 : decode cX12_setSignal 69 = .ok (.invokevirtual 39, 3) := by decide +kernel
theorem dX12_setSignal_72 : decode cX12_setSignal 72 = .ok (.aload_n 0, 1) := by decide +kernel
theorem dX12_setSignal_73 : decode cX12_setSignal 73 = .ok (.iload_n 1, 1) := by decide +kernel
theorem dX12_setSignal_74 : decode cX12_setSignal 74 = .ok (.iconst 2, 1) := by decide +kernel
theorem dX12_setSignal_75 : decode cX12_setSignal 75 = .ok (.invokestatic 47, 3) := by decide +kernel
theorem dX12_setSignal_78 : decode cX12_setSignal 78 = .ok (.iload_n 3, 1) := by decide +kernel
theorem dX12_setSignal_79 : decode cX12_setSignal 79 = .ok (.invokevirtual 39, 3) := by decide +kernel
theorem dX12_setSignal_82 : decode cX12_setSignal 82 = .ok (.aload_n 0, 1) := by decide +kernel
theorem dX12_setSignal_83 : decode cX12_setSignal 83 = .ok (.iload_n 1, 1) := by decide +kernel
theorem dX12_setSignal_84 : decode cX12_setSignal 84 = .ok (.iconst 3, 1) := by decide +kernel
theorem dX12_setSignal_85 : decode cX12_setSignal 85 = .ok (.invokestatic 47, 3) := by decide +kernel
theorem dX12_setSignal_88 : decode cX12_setSignal 88 = .ok (.iload 4, 2) := by decide +kernel
theorem dX12_setSignal_90 : decode cX12_setSignal 90 = .ok (.invokevirtual 39, 3) := by decide +kernel
theorem dX12_setSignal_93 : decode cX12_setSignal 93 = .ok (.aload_n 0, 1) := by decide +kernel
theorem dX12_setSignal_94 : decode cX12_setSignal 94 = .ok (.iload_n 1, 1) := by decide +kernel
theorem dX12_setSignal_95 : decode cX12_setSignal 95 = .ok (.aload_n 0, 1) := by decide +kernel
theorem dX12_setSignal_96 : decode cX12_setSignal 96 = .ok (.iconst 0, 1) := by decide +kernel
theorem dX12_setSignal_97 : decode cX12_setSignal 97 = .ok (.invokevirtual 155, 3) := by decide +kernel
theorem dX12_setSignal_100 : decode cX12_setSignal 100 = .ok (.invokevirtual 217, 3) := by decide +kernel
theorem dX12_setSignal_103 : decode cX12_setSignal 103 = .ok (.ireturn, 1) := by decide +kernel
theorem dX12_setSample_0 : decode cX12_setSample 0 = .ok (.aload_n 0, 1) := by decide +kernel
theorem dX12_setSample_1 : decode cX12_setSample 1 = .ok (.aload_n 0, 1) := by decide +kernel
theorem dX12_setSample_2 : decode cX12_setSample 2 = .ok (.iload_n 1, 1) := by decide +kernel
theorem dX12_setSample_3 : decode cX12_setSample 3 = .ok (.invokevirtual 244, 3) := by decide +kernel
theorem dX12_setSample_6 : decode cX12_setSample 6 = .ok (.ifCond .ne 7, 3) := by decide +kernel
theorem dX12_setSample_9 : decode cX12_setSample 9 = .ok (.iconst 1, 1) := by decide +kernel
theorem dX12_setSample_10 : decode cX12_setSample 10 = .ok (.goto 4, 3) := by decide +kernel
theorem dX12_setSample_13 : decode cX12_setSample 13 = .ok (.iconst 0, 1) := by decide +kernel
theorem dX12_setSample_14 : decode cX12_setSample 14 = .ok (.iload_n 2, 1) := by decide +kernel
theorem dX12_setSample_15 : decode cX12_setSample 15 = .ok (.iconst 1, 1) := by decide +kernel
theorem dX12_setSample_16 : decode cX12_setSample 16 = .ok (.bipush 99, 2) := by decide +kernel
theorem dX12_setSample_18 : decode cX12_setSample 18 = .ok (.invokestatic 22, 3) := by decide +kernel
theorem dX12_setSample_21 : decode cX12_setSample 21 = .ok (.ifCond .ne 7, 3) := by decide +kernel
theorem dX12_setSample_24 : decode cX12_setSample 24 = .ok (.iconst 1, 1) := by decide +kernel
theorem dX12_setSample_25 : decode cX12_setSample 25 = .ok (.goto 4, 3) := by decide +kernel
theorem dX12_setSample_28 : decode cX12_setSample 28 = .ok (.iconst 0, 1) := by decide +kernel
theorem dX12_setSample_29 : decode cX12_setSample 29 = .ok (.iconst 0, 1) := by decide +kernel
theorem dX12_setSample_30 : decode cX12_setSample 30 = .ok (.invokevirtual 14, 3) := by decide +kernel
theorem dX12_setSample_33 : decode cX12_setSample 33 = .ok (.ifCond .eq 5, 3) := by decide +kernel
theorem dX12_setSample_36 : decode cX12_setSample 36 = .ok (.iconst 0, 1) := by decide +kernel
theorem dX12_setSample_37 : decode cX12_setSample 37 = .ok (.ireturn, 1) := by decide +kernel
theorem dX12_setSample_38 : decode cX12_setSample 38 = .ok (.aload_n 0, 1) := by decide +kernel
theorem dX12_setSample_39 : decode cX12_setSample 39 = .ok (.iload_n 1, 1) := by decide +kernel
theorem dX12_setSample_40 : decode cX12_setSample 40 = .ok (.iconst 0, 1) := by decide +kernel
theorem dX12_setSample_41 : decode cX12_setSample 41 = .ok (.invokestatic 47, 3) := by decide +kernel
theorem dX12_setSample_44 : decode cX12_setSample 44 = .ok (.invokevirtual 155, 3) := by decide +kernel
theorem dX12_setSample_47 : decode cX12_setSample 47 = .ok (.istore_n 3, 1) := by decide +kernel
theorem dX12_setSample_48 : decode cX12_setSample 48 = .ok (.aload_n 0, 1) := by decide +kernel
theorem dX12_setSample_49 : decode cX12_setSample 49 = .ok (.iload_n 1, 1) := by decide +kernel
theorem dX12_setSample_50 : decode cX12_setSample 50 = .ok (.iconst 0, 1) := by decide +kernel
theorem dX12_setSample_51 : decode cX12_setSample 51 = .ok (.invokestatic 47, 3) := by decide +kernel
theorem dX12_setSample_54 : decode cX12_setSample 54 = .ok (.iload_n 2, 1) := by decide +kernel
theorem dX12_setSample_55 : decode cX12_setSample 55 = .ok (.invokevirtual 39, 3) := by decide +kernel
theorem dX12_setSample_58 : decode cX12_setSample 58 = .ok (.iload_n 3, 1) := by decide +kernel
theorem dX12_setSample_59 : decode cX12_setSample 59 = .ok (.ireturn, 1) := by decide +kernel
theorem dX12_setWindow_0 : decode cX12_setWindow 0 = .ok (.aload_n 0, 1) := by decide +kernel
theorem dX12_setWindow_1 : decode cX12_setWindow 1 = .ok (.aload_n 0, 1) := by decide +kernel
theorem dX12_setWindow_2 : decode cX12_setWindow 2 = .ok (.iload_n 1, 1) := by decide +kernel
theorem dX12_setWindow_3 : decode cX12_setWindow 3 = .ok (.invokevirtual 241, 3) := by decide +kernel
theorem dX12_setWindow_6 : decode cX12_setWindow 6 = .ok (.ifCond .ne 7, 3) := by decide +kernel
theorem dX12_setWindow_9 : decode cX12_setWindow 9 = .ok (.iconst 1, 1) := by decide +kernel
theorem dX12_setWindow_10 : decode cX12_setWindow 10 = .ok (.goto 4, 3) := by decide +kernel
theorem dX12_setWindow_13 : decode cX12_setWindow 13 = .ok (.iconst 0, 1) := by decide +kernel
theorem dX12_setWindow_14 : decode cX12_setWindow 14 = .ok (.iload_n 2, 1) := by decide +kernel
theorem dX12_setWindow_15 : decode cX12_setWindow 15 = .ok (.iconst 0, 1) := by decide +kernel
theorem dX12_setWindow_16 : decode cX12_setWindow 16 = .ok (.ldc 247, 2) := by decide +kernel
theorem dX12_setWindow_18 : decode cX12_setWindow 18 = .ok (.invokestatic 22, 3) := by decide +kernel
theorem dX12_setWindow_21 : decode cX12_setWindow 21 = .ok (.ifCond .eq 13, 3) := by decide +kernel
theorem dX12_setWindow_24 : decode cX12_setWindow 24 = .ok (.iload_n 3, 1) := by decide +kernel
theorem dX12_setWindow_25 : decode cX12_setWindow 25 = .ok (.iload_n 2, 1) := by decide +kernel
theorem dX12_setWindow_26 : decode cX12_setWindow 26 = .ok (.ldc 247, 2) := by decide +kernel
theorem dX12_setWindow_28 : decode cX12_setWindow 28 = .ok (.invokestatic 22, 3) := by decide +kernel
theorem dX12_setWindow_31 : decode cX12_setWindow 31 = .ok (.ifCond .ne 7, 3) := by decide +kernel
theorem dX12_setWindow_34 : decode cX12_setWindow 34 = .ok (.iconst 1, 1) := by decide +kernel
theorem dX12_setWindow_35 : decode cX12_setWindow 35 = .ok (.goto 4, 3) := by decide +kernel
theorem dX12_setWindow_38 : decode cX12_setWindow 38 = .ok (.iconst 0, 1) := by decide +kernel
theorem dX12_setWindow_39 : decode cX12_setWindow 39 = .ok (.iconst 0, 1) := by decide +kernel
theorem dX12_setWindow_40 : decode cX12_setWindow 40 = .ok (.invokevirtual 14, 3) := by decide +kernel
theorem dX12_setWindow_43 : decode cX12_setWindow 43 = .ok (.ifCond .eq 5, 3) := by decide +kernel
theorem dX12_setWindow_46 : decode cX12_setWindow 46 = .ok (.iconst 0, 1) := by decide +kernel
theorem dX12_setWindow_47 : decode cX12_setWindow 47 = .ok (.ireturn, 1) := by decide +kernel
theorem dX12_setWindow_48 : decode cX12_setWindow 48 = .ok (.aload_n 0, 1) := by decide +kernel
theorem dX12_setWindow_49 : decode cX12_setWindow 49 = .ok (.iload_n 1, 1) := by decide +kernel
theorem dX12_setWindow_50 : decode cX12_setWindow 50 = .ok (.iconst 0, 1) := by decide +kernel
theorem dX12_setWindow_51 : decode cX12_setWindow 51 = .ok (.invokestatic 187, 3) := by decide +kernel
theorem dX12_setWindow_54 : decode cX12_setWindow 54 = .ok (.iload_n 2, 1) := by decide +kernel
theorem dX12_setWindow_55 : decode cX12_setWindow 55 = .ok (.invokevirtual 39, 3) := by decide +kernel
theorem dX12_setWindow_58 : decode cX12_setWindow 58 = .ok (.aload_n 0, 1) := by decide +kernel
theorem dX12_setWindow_59 : decode cX12_setWindow 59 = .ok (.iload_n 1, 1) := by decide +kernel
theorem dX12_setWindow_60 : decode cX12_setWindow 60 = .ok (.iconst 1, 1) := by decide +kernel
theorem dX12_setWindow_61 : decode cX12_setWindow 61 = .ok (.invokestatic 187, 3) := by decide +kernel
theorem dX12_setWindow_64 : decode cX12_setWindow 64 = .ok (.iload_n 3, 1) := by decide +kernel
theorem dX12_setWindow_65 : decode cX12_setWindow 65 = .ok (.invokevirtual 39, 3) := by decide +kernel
theorem dX12_setWindow_68 : decode cX12_setWindow 68 = .ok (.aload_n 0, 1) := by decide +kernel
theorem dX12_setWindow_69 : decode cX12_setWindow 69 = .ok (.iload_n 1, 1) := by decide +kernel
theorem dX12_setWindow_70 : decode cX12_setWindow 70 = .ok (.iconst 3, 1) := by decide +kernel
theorem dX12_setWindow_71 : decode cX12_setWindow 71 = .ok (.invokestatic 187, 3) := by decide +kernel
theorem dX12_setWindow_74 : decode cX12_setWindow 74 = .ok (.invokevirtual 155, 3) := by decide +kernel
theorem dX12_setWindow_77 : decode cX12_setWindow 77 = .ok (.ireturn, 1) := by decide +kernel
theorem dX12_setPace_0 : decode cX12_setPace 0 = .ok (.aload_n 0, 1) := by decide +kernel
theorem dX12_setPace_1 : decode cX12_setPace 1 = .ok (.iload_n 1, 1) := by decide +kernel
theorem dX12_setPace_2 : decode cX12_setPace 2 = .ok (.iconst 0, 1) := by decide +kernel
theorem dX12_setPace_3 : decode cX12_setPace 3 = .ok (.sipush 999, 3) := by decide +kernel
theorem dX12_setPace_6 : decode cX12_setPace 6 = .ok (.invokestatic 22, 3) := by decide +kernel
theorem dX12_setPace_9 : decode cX12_setPace 9 = .ok (.ifCond .ne 7, 3) := by decide +kernel
theorem dX12_setPace_12 : decode cX12_setPace 12 = .ok (.iconst 1, 1) := by decide +kernel
theorem dX12_setPace_13 : decode cX12_setPace 13 = .ok (.goto 4, 3) := by decide +kernel
theorem dX12_setPace_16 : decode cX12_setPace 16 = .ok (.iconst 0, 1) := by decide +kernel
theorem dX12_setPace_17 : decode cX12_setPace 17 = .ok (.iconst 0, 1) := by decide +kernel
theorem dX12_setPace_18 : decode cX12_setPace 18 = .ok (.iconst 0, 1) := by decide +kernel
theorem dX12_setPace_19 : decode cX12_setPace 19 = .ok (.invokevirtual 14, 3) := by decide +kernel
theorem dX12_setPace_22 : decode cX12_setPace 22 = .ok (.ifCond .eq 5, 3) := by decide +kernel
theorem dX12_setPace_25 : decode cX12_setPace 25 = .ok (.iconst 0, 1) := by decide +kernel
theorem dX12_setPace_26 : decode cX12_setPace 26 = .ok (.ireturn, 1) := by decide +kernel
theorem dX12_setPace_27 : decode cX12_setPace 27 = .ok (.aload_n 0, 1) := by decide +kernel
theorem dX12_setPace_28 : decode cX12_setPace 28 = .ok (.bipush 10, 2) := by decide +kernel
theorem dX12_setPace_30 : decode cX12_setPace 30 = .ok (.invokevirtual 155, 3) := by decide +kernel
theorem dX12_setPace_33 : decode cX12_setPace 33 = .ok (.istore_n 2, 1) := by decide +kernel
theorem dX12_setPace_34 : decode cX12_setPace 34 = .ok (.aload_n 0, 1) := by decide +kernel
theorem dX12_setPace_35 : decode cX12_setPace 35 = .ok (.bipush 10, 2) := by decide +kernel
theorem dX12_setPace_37 : decode cX12_setPace 37 = .ok (.iload_n 1, 1) := by decide +kernel
theorem dX12_setPace_38 : decode cX12_setPace 38 = .ok (.invokevirtual 39, 3) := by decide +kernel
theorem dX12_setPace_41 : decode cX12_setPace 41 = .ok (.iload_n 2, 1) := by decide +kernel
theorem dX12_setPace_42 : decode cX12_setPace 42 = .ok (.ireturn, 1) := by decide +kernel
theorem dX12_state_0 : decode cX12_state 0 = .ok (.aload_n 0, 1) := by decide +kernel
theorem dX12_state_1 : decode cX12_state 1 = .ok (.iload_n 1, 1) := by decide +kernel
theorem dX12_state_2 : decode cX12_state 2 = .ok (.iconst 0, 1) := by decide +kernel
theorem dX12_state_3 : decode cX12_state 3 = .ok (.bipush 10, 2) := by decide +kernel
theorem dX12_state_5 : decode cX12_state 5 = .ok (.invokestatic 22, 3) := by decide +kernel
theorem dX12_state_8 : decode cX12_state 8 = .ok (.ifCond .ne 7, 3) := by decide +kernel
theorem dX12_state_11 : decode cX12_state 11 = .ok (.iconst 1, 1) := by decide +kernel
theorem dX12_state_12 : decode cX12_state 12 = .ok (.goto 4, 3) := by decide +kernel
theorem dX12_state_15 : decode cX12_state 15 = .ok (.iconst 0, 1) := by decide +kernel
theorem dX12_state_16 : decode cX12_state 16 = .ok (.iconst 0, 1) := by decide +kernel
theorem dX12_state_17 : decode cX12_state 17 = .ok (.iconst 0, 1) := by decide +kernel
theorem dX12_state_18 : decode cX12_state 18 = .ok (.invokevirtual 14, 3) := by decide +kernel
theorem dX12_state_21 : decode cX12_state 21 = .ok (.ifCond .eq 5, 3) := by decide +kernel
theorem dX12_state_24 : decode cX12_state 24 = .ok (.iconst 0, 1) := by decide +kernel
theorem dX12_state_25 : decode cX12_state 25 = .ok (.ireturn, 1) := by decide +kernel
theorem dX12_state_26 : decode cX12_state 26 = .ok (.iload_n 1, 1) := by decide +kernel
theorem dX12_state_27 : decode cX12_state 27 = .ok (.tableswitch 143 0 9 #[53, 59, 65, 83, 101, 108, 115, 122, 129, 136], 53) := by decide +kernel
theorem dX12_state_80 : decode cX12_state 80 = .ok (.aload_n 0, 1) := by decide +kernel
theorem dX12_state_81 : decode cX12_state 81 = .ok (.iconst 0, 1) := by decide +kernel
theorem dX12_state_82 : decode cX12_state 82 = .ok (.invokevirtual 155, 3) := by decide +kernel
theorem dX12_state_85 : decode cX12_state 85 = .ok (.ireturn, 1) := by decide +kernel
theorem dX12_state_86 : decode cX12_state 86 = .ok (.aload_n 0, 1) := by decide +kernel
theorem dX12_state_87 : decode cX12_state 87 = .ok (.iconst 1, 1) := by decide +kernel
theorem dX12_state_88 : decode cX12_state 88 = .ok (.invokevirtual 155, 3) := by decide +kernel
theorem dX12_state_91 : decode cX12_state 91 = .ok (.ireturn, 1) := by decide +kernel
theorem dX12_state_92 : decode cX12_state 92 = .ok (.aload_n 0, 1) := by decide +kernel
theorem dX12_state_93 : decode cX12_state 93 = .ok (.iconst 1, 1) := by decide +kernel
theorem dX12_state_94 : decode cX12_state 94 = .ok (.invokevirtual 155, 3) := by decide +kernel
theorem dX12_state_97 : decode cX12_state 97 = .ok (.ifCond .ne 7, 3) := by decide +kernel
theorem dX12_state_100 : decode cX12_state 100 = .ok (.iconst (-1), 1) := by decide +kernel
theorem dX12_state_101 : decode cX12_state 101 = .ok (.goto 8, 3) := by decide +kernel
theorem dX12_state_104 : decode cX12_state 104 = .ok (.aload_n 0, 1) := by decide +kernel
theorem dX12_state_105 : decode cX12_state 105 = .ok (.iconst 2, 1) := by decide +kernel
theorem dX12_state_106 : decode cX12_state 106 = .ok (.invokevirtual 155, 3) := by decide +kernel
theorem dX12_state_109 : decode cX12_state 109 = .ok (.ireturn, 1) := by decide +kernel
theorem dX12_state_110 : decode cX12_state 110 = .ok (.aload_n 0, 1) := by decide +kernel
theorem dX12_state_111 : decode cX12_state 111 = .ok (.iconst 1, 1) := by decide +kernel
theorem dX12_state_112 : decode cX12_state 112 = .ok (.invokevirtual 155, 3) := by decide +kernel
theorem dX12_state_115 : decode cX12_state 115 = .ok (.ifCond .ne 7, 3) := by decide +kernel
theorem dX12_state_118 : decode cX12_state 118 = .ok (.iconst (-1), 1) := by decide +kernel
theorem dX12_state_119 : decode cX12_state 119 = .ok (.goto 8, 3) := by decide +kernel
theorem dX12_state_122 : decode cX12_state 122 = .ok (.aload_n 0, 1) := by decide +kernel
theorem dX12_state_123 : decode cX12_state 123 = .ok (.iconst 3, 1) := by decide +kernel
theorem dX12_state_124 : decode cX12_state 124 = .ok (.invokevirtual 155, 3) := by decide +kernel
theorem dX12_state_127 : decode cX12_state 127 = .ok (.ireturn, 1) := by decide +kernel
theorem dX12_state_128 : decode cX12_state 128 = .ok (.aload_n 0, 1) := by decide +kernel
theorem dX12_state_129 : decode cX12_state 129 = .ok (.bipush 6, 2) := by decide +kernel
theorem dX12_state_131 : decode cX12_state 131 = .ok (.invokevirtual 155, 3) := by decide +kernel
theorem dX12_state_134 : decode cX12_state 134 = .ok (.ireturn, 1) := by decide +kernel
theorem dX12_state_135 : decode cX12_state 135 = .ok (.aload_n 0, 1) := by decide +kernel
theorem dX12_state_136 : decode cX12_state 136 = .ok (.bipush 7, 2) := by decide +kernel
theorem dX12_state_138 : decode cX12_state 138 = .ok (.invokevirtual 155, 3) := by decide +kernel
theorem dX12_state_141 : decode cX12_state 141 = .ok (.ireturn, 1) := by decide +kernel
theorem dX12_state_142 : decode cX12_state 142 = .ok (.aload_n 0, 1) := by decide +kernel
theorem dX12_state_143 : decode cX12_state 143 = .ok (.bipush 8, 2) := by decide +kernel
theorem dX12_state_145 : decode cX12_state 145 = .ok (.invokevirtual 155, 3) := by decide +kernel
theorem dX12_state_148 : decode cX12_state 148 = .ok (.ireturn, 1) := by decide +kernel
theorem dX12_state_149 : decode cX12_state 149 = .ok (.aload_n 0, 1) := by decide +kernel
theorem dX12_state_150 : decode cX12_state 150 = .ok (.bipush 9, 2) := by decide +kernel
theorem dX12_state_152 : decode cX12_state 152 = .ok (.invokevirtual 155, 3) := by decide +kernel
theorem dX12_state_155 : decode cX12_state 155 = .ok (.ireturn, 1) := by decide +kernel
theorem dX12_state_156 : decode cX12_state 156 = .ok (.aload_n 0, 1) := by decide +kernel
theorem dX12_state_157 : decode cX12_state 157 = .ok (.bipush 10, 2) := by decide +kernel
theorem dX12_state_159 : decode cX12_state 159 = .ok (.invokevirtual 155, 3) := by decide +kernel
theorem dX12_state_162 : decode cX12_state 162 = .ok (.ireturn, 1) := by decide +kernel
theorem dX12_state_163 : decode cX12_state 163 = .ok (.aload_n 0, 1) := by decide +kernel
theorem dX12_state_164 : decode cX12_state 164 = .ok (.bipush 11, 2) := by decide +kernel
theorem dX12_state_166 : decode cX12_state 166 = .ok (.invokevirtual 155, 3) := by decide +kernel
theorem dX12_state_169 : decode cX12_state 169 = .ok (.ireturn, 1) := by decide +kernel
theorem dX12_state_170 : decode cX12_state 170 = .ok (.aload_n 0, 1) := by decide +kernel
theorem dX12_state_171 : decode cX12_state 171 = .ok (.getfield 26, 3) := by decide +kernel
theorem dX12_state_174 : decode cX12_state 174 = .ok (.bipush 8, 2) := by decide +kernel
theorem dX12_state_176 : decode cX12_state 176 = .ok (.iaload, 1) := by decide +kernel
theorem dX12_state_177 : decode cX12_state 177 = .ok (.ireturn, 1) := by decide +kernel
theorem dX12_sequence_0 : decode cX12_sequence 0 = .ok (.aload_n 0, 1) := by decide +kernel
theorem dX12_sequence_1 : decode cX12_sequence 1 = .ok (.iload_n 2, 1) := by decide +kernel
theorem dX12_sequence_2 : decode cX12_sequence 2 = .ok (.iconst 0, 1) := by decide +kernel
theorem dX12_sequence_3 : decode cX12_sequence 3 = .ok (.bipush 7, 2) := by decide +kernel
theorem dX12_sequence_5 : decode cX12_sequence 5 = .ok (.invokestatic 22, 3) := by decide +kernel
theorem dX12_sequence_8 : decode cX12_sequence 8 = .ok (.ifCond .ne 7, 3) := by decide +kernel
theorem dX12_sequence_11 : decode cX12_sequence 11 = .ok (.iconst 1, 1) := by decide +kernel
theorem dX12_sequence_12 : decode cX12_sequence 12 = .ok (.goto 4, 3) := by decide +kernel
theorem dX12_sequence_15 : decode cX12_sequence 15 = .ok (.iconst 0, 1) := by decide +kernel
theorem dX12_sequence_16 : decode cX12_sequence 16 = .ok (.iconst 0, 1) := by decide +kernel
theorem dX12_sequence_17 : decode cX12_sequence 17 = .ok (.iconst 0, 1) := by decide +kernel
theorem dX12_sequence_18 : decode cX12_sequence 18 = .ok (.invokevirtual 14, 3) := by decide +kernel
theorem dX12_sequence_21 : decode cX12_sequence 21 = .ok (.ifCond .eq 5, 3) := by decide +kernel
theorem dX12_sequence_24 : decode cX12_sequence 24 = .ok (.iconst 0, 1) := by decide +kernel
theorem dX12_sequence_25 : decode cX12_sequence 25 = .ok (.ireturn, 1) := by decide +kernel
theorem dX12_sequence_26 : decode cX12_sequence 26 = .ok (.iload_n 1, 1) := by decide +kernel
theorem dX12_sequence_27 : decode cX12_sequence 27 = .ok (.ifCond .eq 7, 3) := by decide +kernel
theorem dX12_sequence_30 : decode cX12_sequence 30 = .ok (.iconst 1, 1) := by decide +kernel
theorem dX12_sequence_31 : decode cX12_sequence 31 = .ok (.goto 4, 3) := by decide +kernel
theorem dX12_sequence_34 : decode cX12_sequence 34 = .ok (.iconst 0, 1) := by decide +kernel
theorem dX12_sequence_35 : decode cX12_sequence 35 = .ok (.istore_n 3, 1) := by decide +kernel
theorem dX12_sequence_36 : decode cX12_sequence 36 = .ok (.iload_n 2, 1) := by decide +kernel
theorem dX12_sequence_37 : decode cX12_sequence 37 = .ok (.ifCond .ne 11, 3) := by decide +kernel
theorem dX12_sequence_40 : decode cX12_sequence 40 = .ok (.aload_n 0, 1) := by decide +kernel
theorem dX12_sequence_41 : decode cX12_sequence 41 = .ok (.iload_n 3, 1) := by decide +kernel
theorem dX12_sequence_42 : decode cX12_sequence 42 = .ok (.invokevirtual 165, 3) := by decide +kernel
theorem dX12_sequence_45 : decode cX12_sequence 45 = .ok (.goto 14, 3) := by decide +kernel
theorem dX12_sequence_48 : decode cX12_sequence 48 = .ok (.aload_n 0, 1) := by decide +kernel
theorem dX12_sequence_49 : decode cX12_sequence 49 = .ok (.iload_n 3, 1) := by decide +kernel
theorem dX12_sequence_50 : decode cX12_sequence 50 = .ok (.iload_n 2, 1) := by decide +kernel
theorem dX12_sequence_51 : decode cX12_sequence 51 = .ok (.iconst 1, 1) := by decide +kernel
theorem dX12_sequence_52 : decode cX12_sequence 52 = .ok (.isub, 1) := by decide +kernel
theorem dX12_sequence_53 : decode cX12_sequence 53 = .ok (.invokestatic 43, 3) := by decide +kernel
theorem dX12_sequence_56 : decode cX12_sequence 56 = .ok (.invokevirtual 155, 3) := by decide +kernel
theorem dX12_sequence_59 : decode cX12_sequence 59 = .ok (.ireturn, 1) := by decide +kernel
theorem dX12_entry_0 : decode cX12_entry 0 = .ok (.iload_n 1, 1) := by decide +kernel
theorem dX12_entry_1 : decode cX12_entry 1 = .ok (.ifCond .eq 7, 3) := by decide +kernel
theorem dX12_entry_4 : decode cX12_entry 4 = .ok (.iconst 1, 1) := by decide +kernel
theorem dX12_entry_5 : decode cX12_entry 5 = .ok (.goto 4, 3) := by decide +kernel
theorem dX12_entry_8 : decode cX12_entry 8 = .ok (.iconst 0, 1) := by decide +kernel
theorem dX12_entry_9 : decode cX12_entry 9 = .ok (.istore_n 3, 1) := by decide +kernel
theorem dX12_entry_10 : decode cX12_entry 10 = .ok (.aload_n 0, 1) := by decide +kernel
theorem dX12_entry_11 : decode cX12_entry 11 = .ok (.iload_n 2, 1) := by decide +kernel
theorem dX12_entry_12 : decode cX12_entry 12 = .ok (.iconst 0, 1) := by decide +kernel
theorem dX12_entry_13 : decode cX12_entry 13 = .ok (.aload_n 0, 1) := by decide +kernel
theorem dX12_entry_14 : decode cX12_entry 14 = .ok (.iload_n 3, 1) := by decide +kernel
theorem dX12_entry_15 : decode cX12_entry 15 = .ok (.invokevirtual 165, 3) := by decide +kernel
theorem dX12_entry_18 : decode cX12_entry 18 = .ok (.iconst 1, 1) := by decide +kernel
theorem dX12_entry_19 : decode cX12_entry 19 = .ok (.isub, 1) := by decide +kernel
theorem dX12_entry_20 : decode cX12_entry 20 = .ok (.invokestatic 22, 3) := by decide +kernel
theorem dX12_entry_23 : decode cX12_entry 23 = .ok (.ifCond .ne 7, 3) := by decide +kernel
theorem dX12_entry_26 : decode cX12_entry 26 = .ok (.iconst 1, 1) := by decide +kernel
theorem dX12_entry_27 : decode cX12_entry 27 = .ok (.goto 4, 3) := by decide +kernel
theorem dX12_entry_30 : decode cX12_entry 30 = .ok (.iconst 0, 1) := by decide +kernel
theorem dX12_entry_31 : decode cX12_entry 31 = .ok (.iconst 0, 1) := by decide +kernel
theorem dX12_entry_32 : decode cX12_entry 32 = .ok (.iconst 0, 1) := by decide +kernel
theorem dX12_entry_33 : decode cX12_entry 33 = .ok (.invokevirtual 14, 3) := by decide +kernel
theorem dX12_entry_36 : decode cX12_entry 36 = .ok (.ifCond .eq 7, 3) := by decide +kernel
theorem dX12_entry_39 : decode cX12_entry 39 = .ok (.iconst 0, 1) := by decide +kernel
theorem dX12_entry_40 : decode cX12_entry 40 = .ok (.goto 9, 3) := by decide +kernel
theorem dX12_entry_43 : decode cX12_entry 43 = .ok (.aload_n 0, 1) := by decide +kernel
theorem dX12_entry_44 : decode cX12_entry 44 = .ok (.iload_n 3, 1) := by decide +kernel
theorem dX12_entry_45 : decode cX12_entry 45 = .ok (.iload_n 2, 1) := by decide +kernel
theorem dX12_entry_46 : decode cX12_entry 46 = .ok (.invokevirtual 214, 3) := by decide +kernel
theorem dX12_entry_49 : decode cX12_entry 49 = .ok (.ireturn, 1) := by decide +kernel
theorem dX12_channel_0 : decode cX12_channel 0 = .ok (.aload_n 0, 1) := by decide +kernel
theorem dX12_channel_1 : decode cX12_channel 1 = .ok (.aload_n 0, 1) := by decide +kernel
theorem dX12_channel_2 : decode cX12_channel 2 = .ok (.iload_n 1, 1) := by decide +kernel
theorem dX12_channel_3 : decode cX12_channel 3 = .ok (.invokevirtual 244, 3) := by decide +kernel
theorem dX12_channel_6 : decode cX12_channel 6 = .ok (.ifCond .ne 7, 3) := by decide +kernel
theorem dX12_channel_9 : decode cX12_channel 9 = .ok (.iconst 1, 1) := by decide +kernel
theorem dX12_channel_10 : decode cX12_channel 10 = .ok (.goto 4, 3) := by decide +kernel
theorem dX12_channel_13 : decode cX12_channel 13 = .ok (.iconst 0, 1) := by decide +kernel
theorem dX12_channel_14 : decode cX12_channel 14 = .ok (.iload_n 2, 1) := by decide +kernel
theorem dX12_channel_15 : decode cX12_channel 15 = .ok (.iconst 0, 1) := by decide +kernel
theorem dX12_channel_16 : decode cX12_channel 16 = .ok (.bipush 7, 2) := by decide +kernel
theorem dX12_channel_18 : decode cX12_channel 18 = .ok (.invokestatic 22, 3) := by decide +kernel
theorem dX12_channel_21 : decode cX12_channel 21 = .ok (.ifCond .ne 7, 3) := by decide +kernel
theorem dX12_channel_24 : decode cX12_channel 24 = .ok (.iconst 1, 1) := by decide +kernel
theorem dX12_channel_25 : decode cX12_channel 25 = .ok (.goto 4, 3) := by decide +kernel
theorem dX12_channel_28 : decode cX12_channel 28 = .ok (.iconst 0, 1) := by decide +kernel
theorem dX12_channel_29 : decode cX12_channel 29 = .ok (.iconst 0, 1) := by decide +kernel
theorem dX12_channel_30 : decode cX12_channel 30 = .ok (.invokevirtual 14, 3) := by decide +kernel
theorem dX12_channel_33 : decode cX12_channel 33 = .ok (.ifCond .eq 5, 3) := by decide +kernel
theorem dX12_channel_36 : decode cX12_channel 36 = .ok (.iconst 0, 1) := by decide +kernel
theorem dX12_channel_37 : decode cX12_channel 37 = .ok (.ireturn, 1) := by decide +kernel
theorem dX12_channel_38 : decode cX12_channel 38 = .ok (.iload_n 2, 1) := by decide +kernel
theorem dX12_channel_39 : decode cX12_channel 39 = .ok (.iconst 1, 1) := by decide +kernel
theorem dX12_channel_40 : decode cX12_channel 40 = .ok (.if_icmp .ne 13, 3) := by decide +kernel
theorem dX12_channel_43 : decode cX12_channel 43 = .ok (.aload_n 0, 1) := by decide +kernel
theorem dX12_channel_44 : decode cX12_channel 44 = .ok (.getfield 26, 3) := by decide +kernel
theorem dX12_channel_47 : decode cX12_channel 47 = .ok (.bipush 22, 2) := by decide +kernel
theorem dX12_channel_49 : decode cX12_channel 49 = .ok (.iload_n 1, 1) := by decide +kernel
theorem dX12_channel_50 : decode cX12_channel 50 = .ok (.iadd, 1) := by decide +kernel
theorem dX12_channel_51 : decode cX12_channel 51 = .ok (.iaload, 1) := by decide +kernel
theorem dX12_channel_52 : decode cX12_channel 52 = .ok (.ireturn, 1) := by decide +kernel
theorem dX12_channel_53 : decode cX12_channel 53 = .ok (.aload_n 0, 1) := by decide +kernel
theorem dX12_channel_54 : decode cX12_channel 54 = .ok (.iload_n 1, 1) := by decide +kernel
theorem dX12_channel_55 : decode cX12_channel 55 = .ok (.iload_n 2, 1) := by decide +kernel
theorem dX12_channel_56 : decode cX12_channel 56 = .ok (.ifCond .ne 7, 3) := by decide +kernel
theorem dX12_channel_59 : decode cX12_channel 59 = .ok (.iconst 0, 1) := by decide +kernel
theorem dX12_channel_60 : decode cX12_channel 60 = .ok (.goto 6, 3) := by decide +kernel
theorem dX12_channel_63 : decode cX12_channel 63 = .ok (.iload_n 2, 1) := by decide +kernel
theorem dX12_channel_64 : decode cX12_channel 64 = .ok (.iconst 1, 1) := by decide +kernel
theorem dX12_channel_65 : decode cX12_channel 65 = .ok (.isub, 1) := by decide +kernel
theorem dX12_channel_66 : decode cX12_channel 66 = .ok (.invokestatic 47, 3) := by decide +kernel
theorem dX12_channel_69 : decode cX12_channel 69 = .ok (.invokevirtual 155, 3) := by decide +kernel
theorem dX12_channel_72 : decode cX12_channel 72 = .ok (.ireturn, 1) := by decide +kernel
theorem dX12_sum_0 : decode cX12_sum 0 = .ok (.aload_n 0, 1) := by decide +kernel
theorem dX12_sum_1 : decode cX12_sum 1 = .ok (.aload_n 0, 1) := by decide +kernel
theorem dX12_sum_2 : decode cX12_sum 2 = .ok (.iload_n 1, 1) := by decide +kernel
theorem dX12_sum_3 : decode cX12_sum 3 = .ok (.invokevirtual 244, 3) := by decide +kernel
theorem dX12_sum_6 : decode cX12_sum 6 = .ok (.ifCond .ne 7, 3) := by decide +kernel
theorem dX12_sum_9 : decode cX12_sum 9 = .ok (.iconst 1, 1) := by decide +kernel
theorem dX12_sum_10 : decode cX12_sum 10 = .ok (.goto 4, 3) := by decide +kernel
theorem dX12_sum_13 : decode cX12_sum 13 = .ok (.iconst 0, 1) := by decide +kernel
theorem dX12_sum_14 : decode cX12_sum 14 = .ok (.iconst 0, 1) := by decide +kernel
theorem dX12_sum_15 : decode cX12_sum 15 = .ok (.iconst 0, 1) := by decide +kernel
theorem dX12_sum_16 : decode cX12_sum 16 = .ok (.invokevirtual 14, 3) := by decide +kernel
theorem dX12_sum_19 : decode cX12_sum 19 = .ok (.ifCond .eq 7, 3) := by decide +kernel
theorem dX12_sum_22 : decode cX12_sum 22 = .ok (.lconst 0, 1) := by decide +kernel
theorem dX12_sum_23 : decode cX12_sum 23 = .ok (.goto 19, 3) := by decide +kernel
theorem dX12_sum_26 : decode cX12_sum 26 = .ok (.aload_n 0, 1) := by decide +kernel
theorem dX12_sum_27 : decode cX12_sum 27 = .ok (.getfield 35, 3) := by decide +kernel
theorem dX12_sum_30 : decode cX12_sum 30 = .ok (.bipush 10, 2) := by decide +kernel
theorem dX12_sum_32 : decode cX12_sum 32 = .ok (.aload_n 0, 1) := by decide +kernel
theorem dX12_sum_33 : decode cX12_sum 33 = .ok (.getfield 32, 3) := by decide +kernel
theorem dX12_sum_36 : decode cX12_sum 36 = .ok (.imul, 1) := by decide +kernel
theorem dX12_sum_37 : decode cX12_sum 37 = .ok (.iconst 2, 1) := by decide +kernel
theorem dX12_sum_38 : decode cX12_sum 38 = .ok (.iadd, 1) := by decide +kernel
theorem dX12_sum_39 : decode cX12_sum 39 = .ok (.iload_n 1, 1) := by decide +kernel
theorem dX12_sum_40 : decode cX12_sum 40 = .ok (.iadd, 1) := by decide +kernel
theorem dX12_sum_41 : decode cX12_sum 41 = .ok (.laload, 1) := by decide +kernel
theorem dX12_sum_42 : decode cX12_sum 42 = .ok (.lreturn, 1) := by decide +kernel
theorem dX12_mean_0 : decode cX12_mean 0 = .ok (.aload_n 0, 1) := by decide +kernel
theorem dX12_mean_1 : decode cX12_mean 1 = .ok (.iload_n 1, 1) := by decide +kernel
theorem dX12_mean_2 : decode cX12_mean 2 = .ok (.invokevirtual 244, 3) := by decide +kernel
theorem dX12_mean_5 : decode cX12_mean 5 = .ok (.istore_n 2, 1) := by decide +kernel
theorem dX12_mean_6 : decode cX12_mean 6 = .ok (.iload_n 2, 1) := by decide +kernel
theorem dX12_mean_7 : decode cX12_mean 7 = .ok (.ifCond .eq 15, 3) := by decide +kernel
theorem dX12_mean_10 : decode cX12_mean 10 = .ok (.aload_n 0, 1) := by decide +kernel
theorem dX12_mean_11 : decode cX12_mean 11 = .ok (.iload_n 1, 1) := by decide +kernel
theorem dX12_mean_12 : decode cX12_mean 12 = .ok (.iconst 4, 1) := by decide +kernel
theorem dX12_mean_13 : decode cX12_mean 13 = .ok (.invokestatic 47, 3) := by decide +kernel
theorem dX12_mean_16 : decode cX12_mean 16 = .ok (.invokevirtual 155, 3) := by decide +kernel
theorem dX12_mean_19 : decode cX12_mean 19 = .ok (.goto 4, 3) := by decide +kernel
theorem dX12_mean_22 : decode cX12_mean 22 = .ok (.iconst 0, 1) := by decide +kernel
theorem dX12_mean_23 : decode cX12_mean 23 = .ok (.istore_n 3, 1) := by decide +kernel
theorem dX12_mean_24 : decode cX12_mean 24 = .ok (.aload_n 0, 1) := by decide +kernel
theorem dX12_mean_25 : decode cX12_mean 25 = .ok (.iload_n 2, 1) := by decide +kernel
theorem dX12_mean_26 : decode cX12_mean 26 = .ok (.ifCond .ne 7, 3) := by decide +kernel
theorem dX12_mean_29 : decode cX12_mean 29 = .ok (.iconst 1, 1) := by decide +kernel
theorem dX12_mean_30 : decode cX12_mean 30 = .ok (.goto 4, 3) := by decide +kernel
theorem dX12_mean_33 : decode cX12_mean 33 = .ok (.iconst 0, 1) := by decide +kernel
theorem dX12_mean_34 : decode cX12_mean 34 = .ok (.iload_n 3, 1) := by decide +kernel
theorem dX12_mean_35 : decode cX12_mean 35 = .ok (.ifCond .ne 7, 3) := by decide +kernel
theorem dX12_mean_38 : decode cX12_mean 38 = .ok (.iconst 1, 1) := by decide +kernel
theorem dX12_mean_39 : decode cX12_mean 39 = .ok (.goto 4, 3) := by decide +kernel
theorem dX12_mean_42 : decode cX12_mean 42 = .ok (.iconst 0, 1) := by decide +kernel
theorem dX12_mean_43 : decode cX12_mean 43 = .ok (.iconst 0, 1) := by decide +kernel
theorem dX12_mean_44 : decode cX12_mean 44 = .ok (.invokevirtual 14, 3) := by decide +kernel
theorem dX12_mean_47 : decode cX12_mean 47 = .ok (.ifCond .eq 7, 3) := by decide +kernel
theorem dX12_mean_50 : decode cX12_mean 50 = .ok (.dconst 0, 1) := by decide +kernel
theorem dX12_mean_51 : decode cX12_mean 51 = .ok (.goto 23, 3) := by decide +kernel
theorem dX12_mean_54 : decode cX12_mean 54 = .ok (.aload_n 0, 1) := by decide +kernel
theorem dX12_mean_55 : decode cX12_mean 55 = .ok (.getfield 35, 3) := by decide +kernel
theorem dX12_mean_58 : decode cX12_mean 58 = .ok (.bipush 10, 2) := by decide +kernel
theorem dX12_mean_60 : decode cX12_mean 60 = .ok (.aload_n 0, 1) := by decide +kernel
theorem dX12_mean_61 : decode cX12_mean 61 = .ok (.getfield 32, 3) := by decide +kernel
theorem dX12_mean_64 : decode cX12_mean 64 = .ok (.imul, 1) := by decide +kernel
theorem dX12_mean_65 : decode cX12_mean 65 = .ok (.iconst 2, 1) := by decide +kernel
theorem dX12_mean_66 : decode cX12_mean 66 = .ok (.iadd, 1) := by decide +kernel
theorem dX12_mean_67 : decode cX12_mean 67 = .ok (.iload_n 1, 1) := by decide +kernel
theorem dX12_mean_68 : decode cX12_mean 68 = .ok (.iadd, 1) := by decide +kernel
theorem dX12_mean_69 : decode cX12_mean 69 = .ok (.laload, 1) := by decide +kernel
theorem dX12_mean_70 : decode cX12_mean 70 = .ok (.l2d, 1) := by decide +kernel
theorem dX12_mean_71 : decode cX12_mean 71 = .ok (.iload_n 3, 1) := by decide +kernel
theorem dX12_mean_72 : decode cX12_mean 72 = .ok (.i2d, 1) := by decide +kernel
theorem dX12_mean_73 : decode cX12_mean 73 = .ok (.ddiv, 1) := by decide +kernel
theorem dX12_mean_74 : decode cX12_mean 74 = .ok (.dreturn, 1) := by decide +kernel
theorem dX12_trigger_0 : decode cX12_trigger 0 = .ok (.aload_n 0, 1) := by decide +kernel
theorem dX12_trigger_1 : decode cX12_trigger 1 = .ok (.aload_n 0, 1) := by decide +kernel
theorem dX12_trigger_2 : decode cX12_trigger 2 = .ok (.iload_n 1, 1) := by decide +kernel
theorem dX12_trigger_3 : decode cX12_trigger 3 = .ok (.invokevirtual 238, 3) := by decide +kernel
theorem dX12_trigger_6 : decode cX12_trigger 6 = .ok (.ifCond .ne 7, 3) := by decide +kernel
theorem dX12_trigger_9 : decode cX12_trigger 9 = .ok (.iconst 1, 1) := by decide +kernel
theorem dX12_trigger_10 : decode cX12_trigger 10 = .ok (.goto 4, 3) := by decide +kernel
theorem dX12_trigger_13 : decode cX12_trigger 13 = .ok (.iconst 0, 1) := by decide +kernel
theorem dX12_trigger_14 : decode cX12_trigger 14 = .ok (.iload_n 2, 1) := by decide +kernel
theorem dX12_trigger_15 : decode cX12_trigger 15 = .ok (.iconst 0, 1) := by decide +kernel
theorem dX12_trigger_16 : decode cX12_trigger 16 = .ok (.iconst 4, 1) := by decide +kernel
theorem dX12_trigger_17 : decode cX12_trigger 17 = .ok (.invokestatic 22, 3) := by decide +kernel
theorem dX12_trigger_20 : decode cX12_trigger 20 = .ok (.ifCond .ne 7, 3) := by decide +kernel
theorem dX12_trigger_23 : decode cX12_trigger 23 = .ok (.iconst 1, 1) := by decide +kernel
theorem dX12_trigger_24 : decode cX12_trigger 24 = .ok (.goto 4, 3) := by decide +kernel
theorem dX12_trigger_27 : decode cX12_trigger 27 = .ok (.iconst 0, 1) := by decide +kernel
theorem dX12_trigger_28 : decode cX12_trigger 28 = .ok (.iconst 0, 1) := by decide +kernel
theorem dX12_trigger_29 : decode cX12_trigger 29 = .ok (.invokevirtual 14, 3) := by decide +kernel
theorem dX12_trigger_32 : decode cX12_trigger 32 = .ok (.ifCond .eq 5, 3) := by decide +kernel
theorem dX12_trigger_35 : decode cX12_trigger 35 = .ok (.iconst 0, 1) := by decide +kernel
theorem dX12_trigger_36 : decode cX12_trigger 36 = .ok (.ireturn, 1) := by decide +kernel
theorem dX12_trigger_37 : decode cX12_trigger 37 = .ok (.iload_n 2, 1) := by decide +kernel
theorem dX12_trigger_38 : decode cX12_trigger 38 = .ok (.tableswitch 56 0 2 #[26, 36, 46], 26) := by decide +kernel
theorem dX12_trigger_64 : decode cX12_trigger 64 = .ok (.aload_n 0, 1) := by decide +kernel
theorem dX12_trigger_65 : decode cX12_trigger 65 = .ok (.getfield 26, 3) := by decide +kernel
theorem dX12_trigger_68 : decode cX12_trigger 68 = .ok (.bipush 30, 2) := by decide +kernel
theorem dX12_trigger_70 : decode cX12_trigger 70 = .ok (.iload_n 1, 1) := by decide +kernel
theorem dX12_trigger_71 : decode cX12_trigger 71 = .ok (.iadd, 1) := by decide +kernel
theorem dX12_trigger_72 : decode cX12_trigger 72 = .ok (.iaload, 1) := by decide +kernel
theorem dX12_trigger_73 : decode cX12_trigger 73 = .ok (.ireturn, 1) := by decide +kernel
theorem dX12_trigger_74 : decode cX12_trigger 74 = .ok (.aload_n 0, 1) := by decide +kernel
theorem dX12_trigger_75 : decode cX12_trigger 75 = .ok (.getfield 26, 3) := by decide +kernel
theorem dX12_trigger_78 : decode cX12_trigger 78 = .ok (.bipush 34, 2) := by decide +kernel
theorem dX12_trigger_80 : decode cX12_trigger 80 = .ok (.iload_n 1, 1) := by decide +kernel
theorem dX12_trigger_81 : decode cX12_trigger 81 = .ok (.iadd, 1) := by decide +kernel
theorem dX12_trigger_82 : decode cX12_trigger 82 = .ok (.iaload, 1) := by decide +kernel
theorem dX12_trigger_83 : decode cX12_trigger 83 = .ok (.ireturn, 1) := by decide +kernel
theorem dX12_trigger_84 : decode cX12_trigger 84 = .ok (.aload_n 0, 1) := by decide +kernel
theorem dX12_trigger_85 : decode cX12_trigger 85 = .ok (.getfield 26, 3) := by decide +kernel
theorem dX12_trigger_88 : decode cX12_trigger 88 = .ok (.bipush 38, 2) := by decide +kernel
theorem dX12_trigger_90 : decode cX12_trigger 90 = .ok (.iload_n 1, 1) := by decide +kernel
theorem dX12_trigger_91 : decode cX12_trigger 91 = .ok (.iadd, 1) := by decide +kernel
theorem dX12_trigger_92 : decode cX12_trigger 92 = .ok (.iaload, 1) := by decide +kernel
theorem dX12_trigger_93 : decode cX12_trigger 93 = .ok (.ireturn, 1) := by decide +kernel
theorem dX12_trigger_94 : decode cX12_trigger 94 = .ok (.aload_n 0, 1) := by decide +kernel
theorem dX12_trigger_95 : decode cX12_trigger 95 = .ok (.iload_n 1, 1) := by decide +kernel
theorem dX12_trigger_96 : decode cX12_trigger 96 = .ok (.iload_n 2, 1) := by decide +kernel
theorem dX12_trigger_97 : decode cX12_trigger 97 = .ok (.iconst 3, 1) := by decide +kernel
theorem dX12_trigger_98 : decode cX12_trigger 98 = .ok (.isub, 1) := by decide +kernel
theorem dX12_trigger_99 : decode cX12_trigger 99 = .ok (.invokestatic 177, 3) := by decide +kernel
theorem dX12_trigger_102 : decode cX12_trigger 102 = .ok (.invokevirtual 155, 3) := by decide +kernel
theorem dX12_trigger_105 : decode cX12_trigger 105 = .ok (.ireturn, 1) := by decide +kernel
theorem dX12_window_0 : decode cX12_window 0 = .ok (.aload_n 0, 1) := by decide +kernel
theorem dX12_window_1 : decode cX12_window 1 = .ok (.aload_n 0, 1) := by decide +kernel
theorem dX12_window_2 : decode cX12_window 2 = .ok (.iload_n 1, 1) := by decide +kernel
theorem dX12_window_3 : decode cX12_window 3 = .ok (.invokevirtual 241, 3) := by decide +kernel
theorem dX12_window_6 : decode cX12_window 6 = .ok (.ifCond .ne 7, 3) := by decide +kernel
theorem dX12_window_9 : decode cX12_window 9 = .ok (.iconst 1, 1) := by decide +kernel
theorem dX12_window_10 : decode cX12_window 10 = .ok (.goto 4, 3) := by decide +kernel
theorem dX12_window_13 : decode cX12_window 13 = .ok (.iconst 0, 1) := by decide +kernel
theorem dX12_window_14 : decode cX12_window 14 = .ok (.iload_n 2, 1) := by decide +kernel
theorem dX12_window_15 : decode cX12_window 15 = .ok (.iconst 0, 1) := by decide +kernel
theorem dX12_window_16 : decode cX12_window 16 = .ok (.bipush 8, 2) := by decide +kernel
theorem dX12_window_18 : decode cX12_window 18 = .ok (.invokestatic 22, 3) := by decide +kernel
theorem dX12_window_21 : decode cX12_window 21 = .ok (.ifCond .ne 7, 3) := by decide +kernel
theorem dX12_window_24 : decode cX12_window 24 = .ok (.iconst 1, 1) := by decide +kernel
theorem dX12_window_25 : decode cX12_window 25 = .ok (.goto 4, 3) := by decide +kernel
theorem dX12_window_28 : decode cX12_window 28 = .ok (.iconst 0, 1) := by decide +kernel
theorem dX12_window_29 : decode cX12_window 29 = .ok (.iconst 0, 1) := by decide +kernel
theorem dX12_window_30 : decode cX12_window 30 = .ok (.invokevirtual 14, 3) := by decide +kernel
theorem dX12_window_33 : decode cX12_window 33 = .ok (.ifCond .eq 5, 3) := by decide +kernel
theorem dX12_window_36 : decode cX12_window 36 = .ok (.iconst 0, 1) := by decide +kernel
theorem dX12_window_37 : decode cX12_window 37 = .ok (.ireturn, 1) := by decide +kernel
theorem dX12_window_38 : decode cX12_window 38 = .ok (.aload_n 0, 1) := by decide +kernel
theorem dX12_window_39 : decode cX12_window 39 = .ok (.iload_n 1, 1) := by decide +kernel
theorem dX12_window_40 : decode cX12_window 40 = .ok (.iconst 3, 1) := by decide +kernel
theorem dX12_window_41 : decode cX12_window 41 = .ok (.invokestatic 187, 3) := by decide +kernel
theorem dX12_window_44 : decode cX12_window 44 = .ok (.invokevirtual 155, 3) := by decide +kernel
theorem dX12_window_47 : decode cX12_window 47 = .ok (.iconst 1, 1) := by decide +kernel
theorem dX12_window_48 : decode cX12_window 48 = .ok (.if_icmp .ne 7, 3) := by decide +kernel
theorem dX12_window_51 : decode cX12_window 51 = .ok (.iconst 1, 1) := by decide +kernel
theorem dX12_window_52 : decode cX12_window 52 = .ok (.goto 4, 3) := by decide +kernel
theorem dX12_window_55 : decode cX12_window 55 = .ok (.iconst 0, 1) := by decide +kernel
theorem dX12_window_56 : decode cX12_window 56 = .ok (.istore_n 3, 1) := by decide +kernel
theorem dX12_window_57 : decode cX12_window 57 = .ok (.iload_n 2, 1) := by decide +kernel
theorem dX12_window_58 : decode cX12_window 58 = .ok (.tableswitch 88 0 5 #[38, 38, 48, 58, 68, 78], 38) := by decide +kernel
theorem dX12_window_96 : decode cX12_window 96 = .ok (.aload_n 0, 1) := by decide +kernel
theorem dX12_window_97 : decode cX12_window 97 = .ok (.iload_n 1, 1) := by decide +kernel
theorem dX12_window_98 : decode cX12_window 98 = .ok (.iload_n 2, 1) := by decide +kernel
theorem dX12_window_99 : decode cX12_window 99 = .ok (.invokestatic 187, 3) := by decide +kernel
theorem dX12_window_102 : decode cX12_window 102 = .ok (.invokevirtual 155, 3) := by decide +kernel
theorem dX12_window_105 : decode cX12_window 105 = .ok (.ireturn, 1) := by decide +kernel
theorem dX12_window_106 : decode cX12_window 106 = .ok (.aload_n 0, 1) := by decide +kernel
theorem dX12_window_107 : decode cX12_window 107 = .ok (.getfield 26, 3) := by decide +kernel
theorem dX12_window_110 : decode cX12_window 110 = .ok (.bipush 42, 2) := by decide +kernel
theorem dX12_window_112 : decode cX12_window 112 = .ok (.iload_n 1, 1) := by decide +kernel
theorem dX12_window_113 : decode cX12_window 113 = .ok (.iadd, 1) := by decide +kernel
theorem dX12_window_114 : decode cX12_window 114 = .ok (.iaload, 1) := by decide +kernel
theorem dX12_window_115 : decode cX12_window 115 = .ok (.ireturn, 1) := by decide +kernel
theorem dX12_window_116 : decode cX12_window 116 = .ok (.aload_n 0, 1) := by decide +kernel
theorem dX12_window_117 : decode cX12_window 117 = .ok (.getfield 26, 3) := by decide +kernel
theorem dX12_window_120 : decode cX12_window 120 = .ok (.bipush 45, 2) := by decide +kernel
theorem dX12_window_122 : decode cX12_window 122 = .ok (.iload_n 1, 1) := by decide +kernel
theorem dX12_window_123 : decode cX12_window 123 = .ok (.iadd, 1) := by decide +kernel
theorem dX12_window_124 : decode cX12_window 124 = .ok (.iaload, 1) := by decide +kernel
theorem dX12_window_125 : decode cX12_window 125 = .ok (.ireturn, 1) := by decide +kernel
theorem dX12_window_126 : decode cX12_window 126 = .ok (.aload_n 0, 1) := by decide +kernel
theorem dX12_window_127 : decode cX12_window 127 = .ok (.iload_n 1, 1) := by decide +kernel
theorem dX12_window_128 : decode cX12_window 128 = .ok (.iconst 2, 1) := by decide +kernel
theorem dX12_window_129 : decode cX12_window 129 = .ok (.invokestatic 187, 3) := by decide +kernel
theorem dX12_window_132 : decode cX12_window 132 = .ok (.invokevirtual 155, 3) := by decide +kernel
theorem dX12_window_135 : decode cX12_window 135 = .ok (.ireturn, 1) := by decide +kernel
theorem dX12_window_136 : decode cX12_window 136 = .ok (.iload_n 3, 1) := by decide +kernel
theorem dX12_window_137 : decode cX12_window 137 = .ok (.ifCond .eq 7, 3) := by decide +kernel
theorem dX12_window_140 : decode cX12_window 140 = .ok (.iconst 1, 1) := by decide +kernel
theorem dX12_window_141 : decode cX12_window 141 = .ok (.goto 4, 3) := by decide +kernel
theorem dX12_window_144 : decode cX12_window 144 = .ok (.iconst 0, 1) := by decide +kernel
theorem dX12_window_145 : decode cX12_window 145 = .ok (.ireturn, 1) := by decide +kernel
theorem dX12_window_146 : decode cX12_window 146 = .ok (.iload_n 3, 1) := by decide +kernel
theorem dX12_window_147 : decode cX12_window 147 = .ok (.ifCond .eq 20, 3) := by decide +kernel
theorem dX12_window_150 : decode cX12_window 150 = .ok (.aload_n 0, 1) := by decide +kernel
theorem dX12_window_151 : decode cX12_window 151 = .ok (.iload_n 1, 1) := by decide +kernel
theorem dX12_window_152 : decode cX12_window 152 = .ok (.iconst 4, 1) := by decide +kernel
theorem dX12_window_153 : decode cX12_window 153 = .ok (.iload_n 2, 1) := by decide +kernel
theorem dX12_window_154 : decode cX12_window 154 = .ok (.iadd, 1) := by decide +kernel
theorem dX12_window_155 : decode cX12_window 155 = .ok (.bipush 6, 2) := by decide +kernel
theorem dX12_window_157 : decode cX12_window 157 = .ok (.isub, 1) := by decide +kernel
theorem dX12_window_158 : decode cX12_window 158 = .ok (.invokestatic 187, 3) := by decide +kernel
theorem dX12_window_161 : decode cX12_window 161 = .ok (.invokevirtual 155, 3) := by decide +kernel
theorem dX12_window_164 : decode cX12_window 164 = .ok (.goto 4, 3) := by decide +kernel
theorem dX12_window_167 : decode cX12_window 167 = .ok (.iconst (-1), 1) := by decide +kernel
theorem dX12_window_168 : decode cX12_window 168 = .ok (.ireturn, 1) := by decide +kernel
theorem dX12_signal_0 : decode cX12_signal 0 = .ok (.aload_n 0, 1) := by decide +kernel
theorem dX12_signal_1 : decode cX12_signal 1 = .ok (.aload_n 0, 1) := by decide +kernel
theorem dX12_signal_2 : decode cX12_signal 2 = .ok (.iload_n 1, 1) := by decide +kernel
theorem dX12_signal_3 : decode cX12_signal 3 = .ok (.invokevirtual 244, 3) := by decide +kernel
theorem dX12_signal_6 : decode cX12_signal 6 = .ok (.ifCond .ne 7, 3) := by decide +kernel
theorem dX12_signal_9 : decode cX12_signal 9 = .ok (.iconst 1, 1) := by decide +kernel
theorem dX12_signal_10 : decode cX12_signal 10 = .ok (.goto 4, 3) := by decide +kernel
theorem dX12_signal_13 : decode cX12_signal 13 = .ok (.iconst 0, 1) := by decide +kernel
theorem dX12_signal_14 : decode cX12_signal 14 = .ok (.iload_n 2, 1) := by decide +kernel
theorem dX12_signal_15 : decode cX12_signal 15 = .ok (.ifCond .ge 7, 3) := by decide +kernel
theorem dX12_signal_18 : decode cX12_signal 18 = .ok (.iconst 1, 1) := by decide +kernel
theorem dX12_signal_19 : decode cX12_signal 19 = .ok (.goto 4, 3) := by decide +kernel
theorem dX12_signal_22 : decode cX12_signal 22 = .ok (.iconst 0, 1) := by decide +kernel
theorem dX12_signal_23 : decode cX12_signal 23 = .ok (.iconst 0, 1) := by decide +kernel
theorem dX12_signal_24 : decode cX12_signal 24 = .ok (.invokevirtual 14, 3) := by decide +kernel
theorem dX12_signal_27 : decode cX12_signal 27 = .ok (.ifCond .eq 7, 3) := by decide +kernel
theorem dX12_signal_30 : decode cX12_signal 30 = .ok (.iconst 0, 1) := by decide +kernel
theorem dX12_signal_31 : decode cX12_signal 31 = .ok (.goto 9, 3) := by decide +kernel
theorem dX12_signal_34 : decode cX12_signal 34 = .ok (.aload_n 0, 1) := by decide +kernel
theorem dX12_signal_35 : decode cX12_signal 35 = .ok (.iload_n 1, 1) := by decide +kernel
theorem dX12_signal_36 : decode cX12_signal 36 = .ok (.iload_n 2, 1) := by decide +kernel
theorem dX12_signal_37 : decode cX12_signal 37 = .ok (.invokevirtual 217, 3) := by decide +kernel
theorem dX12_signal_40 : decode cX12_signal 40 = .ok (.ireturn, 1) := by decide +kernel
theorem dX12_queued_0 : decode cX12_queued 0 = .ok (.aload_n 0, 1) := by decide +kernel
theorem dX12_queued_1 : decode cX12_queued 1 = .ok (.iload_n 1, 1) := by decide +kernel
theorem dX12_queued_2 : decode cX12_queued 2 = .ok (.iconst 0, 1) := by decide +kernel
theorem dX12_queued_3 : decode cX12_queued 3 = .ok (.aload_n 0, 1) := by decide +kernel
theorem dX12_queued_4 : decode cX12_queued 4 = .ok (.bipush 11, 2) := by decide +kernel
theorem dX12_queued_6 : decode cX12_queued 6 = .ok (.invokevirtual 155, 3) := by decide +kernel
theorem dX12_queued_9 : decode cX12_queued 9 = .ok (.iconst 1, 1) := by decide +kernel
theorem dX12_queued_10 : decode cX12_queued 10 = .ok (.isub, 1) := by decide +kernel
theorem dX12_queued_11 : decode cX12_queued 11 = .ok (.invokestatic 22, 3) := by decide +kernel
theorem dX12_queued_14 : decode cX12_queued 14 = .ok (.ifCond .ne 7, 3) := by decide +kernel
theorem dX12_queued_17 : decode cX12_queued 17 = .ok (.iconst 1, 1) := by decide +kernel
theorem dX12_queued_18 : decode cX12_queued 18 = .ok (.goto 4, 3) := by decide +kernel
theorem dX12_queued_21 : decode cX12_queued 21 = .ok (.iconst 0, 1) := by decide +kernel
theorem dX12_queued_22 : decode cX12_queued 22 = .ok (.iload_n 2, 1) := by decide +kernel
theorem dX12_queued_23 : decode cX12_queued 23 = .ok (.iconst 0, 1) := by decide +kernel
theorem dX12_queued_24 : decode cX12_queued 24 = .ok (.iconst 3, 1) := by decide +kernel
theorem dX12_queued_25 : decode cX12_queued 25 = .ok (.invokestatic 22, 3) := by decide +kernel
theorem dX12_queued_28 : decode cX12_queued 28 = .ok (.ifCond .ne 7, 3) := by decide +kernel
theorem dX12_queued_31 : decode cX12_queued 31 = .ok (.iconst 1, 1) := by decide +kernel
theorem dX12_queued_32 : decode cX12_queued 32 = .ok (.goto 4, 3) := by decide +kernel
theorem dX12_queued_35 : decode cX12_queued 35 = .ok (.iconst 0, 1) := by decide +kernel
theorem dX12_queued_36 : decode cX12_queued 36 = .ok (.iconst 0, 1) := by decide +kernel
theorem dX12_queued_37 : decode cX12_queued 37 = .ok (.invokevirtual 14, 3) := by decide +kernel
theorem dX12_queued_40 : decode cX12_queued 40 = .ok (.ifCond .eq 5, 3) := by decide +kernel
theorem dX12_queued_43 : decode cX12_queued 43 = .ok (.iconst 0, 1) := by decide +kernel
theorem dX12_queued_44 : decode cX12_queued 44 = .ok (.ireturn, 1) := by decide +kernel
theorem dX12_queued_45 : decode cX12_queued 45 = .ok (.aload_n 0, 1) := by decide +kernel
theorem dX12_queued_46 : decode cX12_queued 46 = .ok (.sipush 152, 3) := by decide +kernel
theorem dX12_queued_49 : decode cX12_queued 49 = .ok (.iconst 4, 1) := by decide +kernel
theorem dX12_queued_50 : decode cX12_queued 50 = .ok (.iload_n 1, 1) := by decide +kernel
theorem dX12_queued_51 : decode cX12_queued 51 = .ok (.imul, 1) := by decide +kernel
theorem dX12_queued_52 : decode cX12_queued 52 = .ok (.iadd, 1) := by decide +kernel
theorem dX12_queued_53 : decode cX12_queued 53 = .ok (.iload_n 2, 1) := by decide +kernel
theorem dX12_queued_54 : decode cX12_queued 54 = .ok (.iadd, 1) := by decide +kernel
theorem dX12_queued_55 : decode cX12_queued 55 = .ok (.invokevirtual 155, 3) := by decide +kernel
theorem dX12_queued_58 : decode cX12_queued 58 = .ok (.ireturn, 1) := by decide +kernel
theorem dX12_stored_0 : decode cX12_stored 0 = .ok (.aload_n 0, 1) := by decide +kernel
theorem dX12_stored_1 : decode cX12_stored 1 = .ok (.iload_n 1, 1) := by decide +kernel
theorem dX12_stored_2 : decode cX12_stored 2 = .ok (.iconst 0, 1) := by decide +kernel
theorem dX12_stored_3 : decode cX12_stored 3 = .ok (.aload_n 0, 1) := by decide +kernel
theorem dX12_stored_4 : decode cX12_stored 4 = .ok (.bipush 12, 2) := by decide +kernel
theorem dX12_stored_6 : decode cX12_stored 6 = .ok (.invokevirtual 155, 3) := by decide +kernel
theorem dX12_stored_9 : decode cX12_stored 9 = .ok (.iconst 1, 1) := by decide +kernel
theorem dX12_stored_10 : decode cX12_stored 10 = .ok (.isub, 1) := by decide +kernel
theorem dX12_stored_11 : decode cX12_stored 11 = .ok (.invokestatic 22, 3) := by decide +kernel
theorem dX12_stored_14 : decode cX12_stored 14 = .ok (.ifCond .ne 7, 3) := by decide +kernel
theorem dX12_stored_17 : decode cX12_stored 17 = .ok (.iconst 1, 1) := by decide +kernel
theorem dX12_stored_18 : decode cX12_stored 18 = .ok (.goto 4, 3) := by decide +kernel
theorem dX12_stored_21 : decode cX12_stored 21 = .ok (.iconst 0, 1) := by decide +kernel
theorem dX12_stored_22 : decode cX12_stored 22 = .ok (.iload_n 2, 1) := by decide +kernel
theorem dX12_stored_23 : decode cX12_stored 23 = .ok (.iconst 0, 1) := by decide +kernel
theorem dX12_stored_24 : decode cX12_stored 24 = .ok (.iconst 3, 1) := by decide +kernel
theorem dX12_stored_25 : decode cX12_stored 25 = .ok (.invokestatic 22, 3) := by decide +kernel
theorem dX12_stored_28 : decode cX12_stored 28 = .ok (.ifCond .ne 7, 3) := by decide +kernel
theorem dX12_stored_31 : decode cX12_stored 31 = .ok (.iconst 1, 1) := by decide +kernel
theorem dX12_stored_32 : decode cX12_stored 32 = .ok (.goto 4, 3) := by decide +kernel
theorem dX12_stored_35 : decode cX12_stored 35 = .ok (.iconst 0, 1) := by decide +kernel
theorem dX12_stored_36 : decode cX12_stored 36 = .ok (.iconst 0, 1) := by decide +kernel
theorem dX12_stored_37 : decode cX12_stored 37 = .ok (.invokevirtual 14, 3) := by decide +kernel
theorem dX12_stored_40 : decode cX12_stored 40 = .ok (.ifCond .eq 5, 3) := by decide +kernel
theorem dX12_stored_43 : decode cX12_stored 43 = .ok (.iconst 0, 1) := by decide +kernel
theorem dX12_stored_44 : decode cX12_stored 44 = .ok (.ireturn, 1) := by decide +kernel
theorem dX12_stored_45 : decode cX12_stored 45 = .ok (.aload_n 0, 1) := by decide +kernel
theorem dX12_stored_46 : decode cX12_stored 46 = .ok (.sipush 216, 3) := by decide +kernel
theorem dX12_stored_49 : decode cX12_stored 49 = .ok (.iconst 4, 1) := by decide +kernel
theorem dX12_stored_50 : decode cX12_stored 50 = .ok (.iload_n 1, 1) := by decide +kernel
theorem dX12_stored_51 : decode cX12_stored 51 = .ok (.imul, 1) := by decide +kernel
theorem dX12_stored_52 : decode cX12_stored 52 = .ok (.iadd, 1) := by decide +kernel
theorem dX12_stored_53 : decode cX12_stored 53 = .ok (.iload_n 2, 1) := by decide +kernel
theorem dX12_stored_54 : decode cX12_stored 54 = .ok (.iadd, 1) := by decide +kernel
theorem dX12_stored_55 : decode cX12_stored 55 = .ok (.invokevirtual 155, 3) := by decide +kernel
theorem dX12_stored_58 : decode cX12_stored 58 = .ok (.ireturn, 1) := by decide +kernel
theorem dX12_memorySize_0 : decode cX12_memorySize 0 = .ok (.aload_n 0, 1) := by decide +kernel
theorem dX12_memorySize_1 : decode cX12_memorySize 1 = .ok (.iconst 0, 1) := by decide +kernel
theorem dX12_memorySize_2 : decode cX12_memorySize 2 = .ok (.putfield 1, 3) := by decide +kernel
theorem dX12_memorySize_5 : decode cX12_memorySize 5 = .ok (.aload_n 0, 1) := by decide +kernel
theorem dX12_memorySize_6 : decode cX12_memorySize 6 = .ok (.bipush 12, 2) := by decide +kernel
theorem dX12_memorySize_8 : decode cX12_memorySize 8 = .ok (.invokevirtual 155, 3) := by decide +kernel
theorem dX12_memorySize_11 : decode cX12_memorySize 11 = .ok (.ireturn, 1) := by decide +kernel
theorem dX12_injected_0 : decode cX12_injected 0 = .ok (.iload_n 1, 1) := by decide +kernel
theorem dX12_injected_1 : decode cX12_injected 1 = .ok (.iconst 0, 1) := by decide +kernel
theorem dX12_injected_2 : decode cX12_injected 2 = .ok (.aload_n 0, 1) := by decide +kernel
theorem dX12_injected_3 : decode cX12_injected 3 = .ok (.iconst 1, 1) := by decide +kernel
theorem dX12_injected_4 : decode cX12_injected 4 = .ok (.invokevirtual 165, 3) := by decide +kernel
theorem dX12_injected_7 : decode cX12_injected 7 = .ok (.iconst 1, 1) := by decide +kernel
theorem dX12_injected_8 : decode cX12_injected 8 = .ok (.isub, 1) := by decide +kernel
theorem dX12_injected_9 : decode cX12_injected 9 = .ok (.invokestatic 22, 3) := by decide +kernel
theorem dX12_injected_12 : decode cX12_injected 12 = .ok (.istore_n 3, 1) := by decide +kernel
theorem dX12_injected_13 : decode cX12_injected 13 = .ok (.aload_n 0, 1) := by decide +kernel
theorem dX12_injected_14 : decode cX12_injected 14 = .ok (.iload_n 3, 1) := by decide +kernel
theorem dX12_injected_15 : decode cX12_injected 15 = .ok (.ifCond .ne 7, 3) := by decide +kernel
theorem dX12_injected_18 : decode cX12_injected 18 = .ok (.iconst 1, 1) := by decide +kernel
theorem dX12_injected_19 : decode cX12_injected 19 = .ok (.goto 4, 3) := by decide +kernel
theorem dX12_injected_22 : decode cX12_injected 22 = .ok (.iconst 0, 1) := by decide +kernel
theorem dX12_injected_23 : decode cX12_injected 23 = .ok (.iload_n 2, 1) := by decide +kernel
theorem dX12_injected_24 : decode cX12_injected 24 = .ok (.iconst 0, 1) := by decide +kernel
theorem dX12_injected_25 : decode cX12_injected 25 = .ok (.iconst 3, 1) := by decide +kernel
theorem dX12_injected_26 : decode cX12_injected 26 = .ok (.invokestatic 22, 3) := by decide +kernel
theorem dX12_injected_29 : decode cX12_injected 29 = .ok (.ifCond .ne 7, 3) := by decide +kernel
theorem dX12_injected_32 : decode cX12_injected 32 = .ok (.iconst 1, 1) := by decide +kernel
theorem dX12_injected_33 : decode cX12_injected 33 = .ok (.goto 4, 3) := by decide +kernel
theorem dX12_injected_36 : decode cX12_injected 36 = .ok (.iconst 0, 1) := by decide +kernel
theorem dX12_injected_37 : decode cX12_injected 37 = .ok (.iload_n 3, 1) := by decide +kernel
theorem dX12_injected_38 : decode cX12_injected 38 = .ok (.ifCond .eq 21, 3) := by decide +kernel
theorem dX12_injected_41 : decode cX12_injected 41 = .ok (.aload_n 0, 1) := by decide +kernel
theorem dX12_injected_42 : decode cX12_injected 42 = .ok (.sipush 132, 3) := by decide +kernel
theorem dX12_injected_45 : decode cX12_injected 45 = .ok (.iconst 5, 1) := by decide +kernel
theorem dX12_injected_46 : decode cX12_injected 46 = .ok (.iload_n 1, 1) := by decide +kernel
theorem dX12_injected_47 : decode cX12_injected 47 = .ok (.imul, 1) := by decide +kernel
theorem dX12_injected_48 : decode cX12_injected 48 = .ok (.iadd, 1) := by decide +kernel
theorem dX12_injected_49 : decode cX12_injected 49 = .ok (.invokevirtual 155, 3) := by decide +kernel
theorem dX12_injected_52 : decode cX12_injected 52 = .ok (.ifCond .ne 7, 3) := by decide +kernel
theorem dX12_injected_55 : decode cX12_injected 55 = .ok (.iconst 1, 1) := by decide +kernel
theorem dX12_injected_56 : decode cX12_injected 56 = .ok (.goto 4, 3) := by decide +kernel
theorem dX12_injected_59 : decode cX12_injected 59 = .ok (.iconst 0, 1) := by decide +kernel
theorem dX12_injected_60 : decode cX12_injected 60 = .ok (.invokevirtual 14, 3) := by decide +kernel
theorem dX12_injected_63 : decode cX12_injected 63 = .ok (.ifCond .eq 5, 3) := by decide +kernel
theorem dX12_injected_66 : decode cX12_injected 66 = .ok (.iconst 0, 1) := by decide +kernel
theorem dX12_injected_67 : decode cX12_injected 67 = .ok (.ireturn, 1) := by decide +kernel
theorem dX12_injected_68 : decode cX12_injected 68 = .ok (.aload_n 0, 1) := by decide +kernel
theorem dX12_injected_69 : decode cX12_injected 69 = .ok (.sipush 132, 3) := by decide +kernel
theorem dX12_injected_72 : decode cX12_injected 72 = .ok (.iconst 5, 1) := by decide +kernel
theorem dX12_injected_73 : decode cX12_injected 73 = .ok (.iload_n 1, 1) := by decide +kernel
theorem dX12_injected_74 : decode cX12_injected 74 = .ok (.imul, 1) := by decide +kernel
theorem dX12_injected_75 : decode cX12_injected 75 = .ok (.iadd, 1) := by decide +kernel
theorem dX12_injected_76 : decode cX12_injected 76 = .ok (.iconst 1, 1) := by decide +kernel
theorem dX12_injected_77 : decode cX12_injected 77 = .ok (.iadd, 1) := by decide +kernel
theorem dX12_injected_78 : decode cX12_injected 78 = .ok (.iload_n 2, 1) := by decide +kernel
theorem dX12_injected_79 : decode cX12_injected 79 = .ok (.iadd, 1) := by decide +kernel
theorem dX12_injected_80 : decode cX12_injected 80 = .ok (.invokevirtual 155, 3) := by decide +kernel
theorem dX12_injected_83 : decode cX12_injected 83 = .ok (.ireturn, 1) := by decide +kernel
theorem dX12_latency_0 : decode cX12_latency 0 = .ok (.iload_n 1, 1) := by decide +kernel
theorem dX12_latency_1 : decode cX12_latency 1 = .ok (.ifCond .eq 7, 3) := by decide +kernel
theorem dX12_latency_4 : decode cX12_latency 4 = .ok (.iconst 1, 1) := by decide +kernel
theorem dX12_latency_5 : decode cX12_latency 5 = .ok (.goto 4, 3) := by decide +kernel
theorem dX12_latency_8 : decode cX12_latency 8 = .ok (.iconst 0, 1) := by decide +kernel
theorem dX12_latency_9 : decode cX12_latency 9 = .ok (.istore_n 2, 1) := by decide +kernel
theorem dX12_latency_10 : decode cX12_latency 10 = .ok (.aload_n 0, 1) := by decide +kernel
theorem dX12_latency_11 : decode cX12_latency 11 = .ok (.iload_n 2, 1) := by decide +kernel
theorem dX12_latency_12 : decode cX12_latency 12 = .ok (.iconst 4, 1) := by decide +kernel
theorem dX12_latency_13 : decode cX12_latency 13 = .ok (.invokestatic 43, 3) := by decide +kernel
theorem dX12_latency_16 : decode cX12_latency 16 = .ok (.invokevirtual 155, 3) := by decide +kernel
theorem dX12_latency_19 : decode cX12_latency 19 = .ok (.istore_n 3, 1) := by decide +kernel
theorem dX12_latency_20 : decode cX12_latency 20 = .ok (.aload_n 0, 1) := by decide +kernel
theorem dX12_latency_21 : decode cX12_latency 21 = .ok (.iload_n 3, 1) := by decide +kernel
theorem dX12_latency_22 : decode cX12_latency 22 = .ok (.ifCond .ne 7, 3) := by decide +kernel
theorem dX12_latency_25 : decode cX12_latency 25 = .ok (.iconst 1, 1) := by decide +kernel
theorem dX12_latency_26 : decode cX12_latency 26 = .ok (.goto 4, 3) := by decide +kernel
theorem dX12_latency_29 : decode cX12_latency 29 = .ok (.iconst 0, 1) := by decide +kernel
theorem dX12_latency_30 : decode cX12_latency 30 = .ok (.iconst 0, 1) := by decide +kernel
theorem dX12_latency_31 : decode cX12_latency 31 = .ok (.iconst 0, 1) := by decide +kernel
theorem dX12_latency_32 : decode cX12_latency 32 = .ok (.invokevirtual 14, 3) := by decide +kernel
theorem dX12_latency_35 : decode cX12_latency 35 = .ok (.ifCond .eq 7, 3) := by decide +kernel
theorem dX12_latency_38 : decode cX12_latency 38 = .ok (.dconst 0, 1) := by decide +kernel
theorem dX12_latency_39 : decode cX12_latency 39 = .ok (.goto 21, 3) := by decide +kernel
theorem dX12_latency_42 : decode cX12_latency 42 = .ok (.aload_n 0, 1) := by decide +kernel
theorem dX12_latency_43 : decode cX12_latency 43 = .ok (.getfield 35, 3) := by decide +kernel
theorem dX12_latency_46 : decode cX12_latency 46 = .ok (.bipush 10, 2) := by decide +kernel
theorem dX12_latency_48 : decode cX12_latency 48 = .ok (.aload_n 0, 1) := by decide +kernel
theorem dX12_latency_49 : decode cX12_latency 49 = .ok (.getfield 32, 3) := by decide +kernel
theorem dX12_latency_52 : decode cX12_latency 52 = .ok (.imul, 1) := by decide +kernel
theorem dX12_latency_53 : decode cX12_latency 53 = .ok (.iload_n 2, 1) := by decide +kernel
theorem dX12_latency_54 : decode cX12_latency 54 = .ok (.iadd, 1) := by decide +kernel
theorem dX12_latency_55 : decode cX12_latency 55 = .ok (.laload, 1) := by decide +kernel
theorem dX12_latency_56 : decode cX12_latency 56 = .ok (.l2d, 1) := by decide +kernel
theorem dX12_latency_57 : decode cX12_latency 57 = .ok (.iload_n 3, 1) := by decide +kernel
theorem dX12_latency_58 : decode cX12_latency 58 = .ok (.i2d, 1) := by decide +kernel
theorem dX12_latency_59 : decode cX12_latency 59 = .ok (.ddiv, 1) := by decide +kernel
theorem dX12_latency_60 : decode cX12_latency 60 = .ok (.dreturn, 1) := by decide +kernel
theorem dX12_beginTrial_0 : decode cX12_beginTrial 0 = .ok (.aload_n 0, 1) := by decide +kernel
theorem dX12_beginTrial_1 : decode cX12_beginTrial 1 = .ok (.iconst 0, 1) := by decide +kernel
theorem dX12_beginTrial_2 : decode cX12_beginTrial 2 = .ok (.iconst 3, 1) := by decide +kernel
theorem dX12_beginTrial_3 : decode cX12_beginTrial 3 = .ok (.invokevirtual 248, 3) := by decide +kernel
theorem dX12_beginTrial_6 : decode cX12_beginTrial 6 = .ok (.aload_n 0, 1) := by decide +kernel
theorem dX12_beginTrial_7 : decode cX12_beginTrial 7 = .ok (.iconst 3, 1) := by decide +kernel
theorem dX12_beginTrial_8 : decode cX12_beginTrial 8 = .ok (.putfield 32, 3) := by decide +kernel
theorem dX12_beginTrial_11 : decode cX12_beginTrial 11 = .ok (.return_, 1) := by decide +kernel
theorem dX12_endTrial_0 : decode cX12_endTrial 0 = .ok (.aload_n 0, 1) := by decide +kernel
theorem dX12_endTrial_1 : decode cX12_endTrial 1 = .ok (.iconst 0, 1) := by decide +kernel
theorem dX12_endTrial_2 : decode cX12_endTrial 2 = .ok (.putfield 32, 3) := by decide +kernel
theorem dX12_endTrial_5 : decode cX12_endTrial 5 = .ok (.iload_n 1, 1) := by decide +kernel
theorem dX12_endTrial_6 : decode cX12_endTrial 6 = .ok (.ireturn, 1) := by decide +kernel
theorem dX12_nextResult_0 : decode cX12_nextResult 0 = .ok (.aload_n 0, 1) := by decide +kernel
theorem dX12_nextResult_1 : decode cX12_nextResult 1 = .ok (.iload_n 1, 1) := by decide +kernel
theorem dX12_nextResult_2 : decode cX12_nextResult 2 = .ok (.iconst 1, 1) := by decide +kernel
theorem dX12_nextResult_3 : decode cX12_nextResult 3 = .ok (.sipush 5000, 3) := by decide +kernel
theorem dX12_nextResult_6 : decode cX12_nextResult 6 = .ok (.invokestatic 22, 3) := by decide +kernel
theorem dX12_nextResult_9 : decode cX12_nextResult 9 = .ok (.ifCond .ne 7, 3) := by decide +kernel
theorem dX12_nextResult_12 : decode cX12_nextResult 12 = .ok (.iconst 1, 1) := by decide +kernel
theorem dX12_nextResult_13 : decode cX12_nextResult 13 = .ok (.goto 4, 3) := by decide +kernel
theorem dX12_nextResult_16 : decode cX12_nextResult 16 = .ok (.iconst 0, 1) := by decide +kernel
theorem dX12_nextResult_17 : decode cX12_nextResult 17 = .ok (.iconst 0, 1) := by decide +kernel
theorem dX12_nextResult_18 : decode cX12_nextResult 18 = .ok (.iconst 0, 1) := by decide +kernel
theorem dX12_nextResult_19 : decode cX12_nextResult 19 = .ok (.invokevirtual 14, 3) := by decide +kernel
theorem dX12_nextResult_22 : decode cX12_nextResult 22 = .ok (.ifCond .eq 5, 3) := by decide +kernel
theorem dX12_nextResult_25 : decode cX12_nextResult 25 = .ok (.iconst 0, 1) := by decide +kernel
theorem dX12_nextResult_26 : decode cX12_nextResult 26 = .ok (.ireturn, 1) := by decide +kernel
theorem dX12_nextResult_27 : decode cX12_nextResult 27 = .ok (.aload_n 0, 1) := by decide +kernel
theorem dX12_nextResult_28 : decode cX12_nextResult 28 = .ok (.invokevirtual 251, 3) := by decide +kernel
theorem dX12_nextResult_31 : decode cX12_nextResult 31 = .ok (.aload_n 0, 1) := by decide +kernel
theorem dX12_nextResult_32 : decode cX12_nextResult 32 = .ok (.bipush 13, 2) := by decide +kernel
theorem dX12_nextResult_34 : decode cX12_nextResult 34 = .ok (.invokevirtual 155, 3) := by decide +kernel
theorem dX12_nextResult_37 : decode cX12_nextResult 37 = .ok (.istore_n 2, 1) := by decide +kernel
theorem dX12_nextResult_38 : decode cX12_nextResult 38 = .ok (.iconst 0, 1) := by decide +kernel
theorem dX12_nextResult_39 : decode cX12_nextResult 39 = .ok (.istore_n 3, 1) := by decide +kernel
theorem dX12_nextResult_40 : decode cX12_nextResult 40 = .ok (.iload_n 3, 1) := by decide +kernel
theorem dX12_nextResult_41 : decode cX12_nextResult 41 = .ok (.iload_n 1, 1) := by decide +kernel
theorem dX12_nextResult_42 : decode cX12_nextResult 42 = .ok (.if_icmp .ge 23, 3) := by decide +kernel
theorem dX12_nextResult_45 : decode cX12_nextResult 45 = .ok (.aload_n 0, 1) := by decide +kernel
theorem dX12_nextResult_46 : decode cX12_nextResult 46 = .ok (.bipush 13, 2) := by decide +kernel
theorem dX12_nextResult_48 : decode cX12_nextResult 48 = .ok (.invokevirtual 155, 3) := by decide +kernel
theorem dX12_nextResult_51 : decode cX12_nextResult 51 = .ok (.iload_n 2, 1) := by decide +kernel
theorem dX12_nextResult_52 : decode cX12_nextResult 52 = .ok (.if_icmp .ne 13, 3) := by decide +kernel
theorem dX12_nextResult_55 : decode cX12_nextResult 55 = .ok (.aload_n 0, 1) := by decide +kernel
theorem dX12_nextResult_56 : decode cX12_nextResult 56 = .ok (.invokevirtual 235, 3) := by decide +kernel
theorem dX12_nextResult_59 : decode cX12_nextResult 59 = .ok (.iinc 3 1, 3) := by decide +kernel
theorem dX12_nextResult_62 : decode cX12_nextResult 62 = .ok (.goto (-22), 3) := by decide +kernel
theorem dX12_nextResult_65 : decode cX12_nextResult 65 = .ok (.aload_n 0, 1) := by decide +kernel
theorem dX12_nextResult_66 : decode cX12_nextResult 66 = .ok (.aload_n 0, 1) := by decide +kernel
theorem dX12_nextResult_67 : decode cX12_nextResult 67 = .ok (.bipush 13, 2) := by decide +kernel
theorem dX12_nextResult_69 : decode cX12_nextResult 69 = .ok (.invokevirtual 155, 3) := by decide +kernel
theorem dX12_nextResult_72 : decode cX12_nextResult 72 = .ok (.iload_n 2, 1) := by decide +kernel
theorem dX12_nextResult_73 : decode cX12_nextResult 73 = .ok (.if_icmp .ne 7, 3) := by decide +kernel
theorem dX12_nextResult_76 : decode cX12_nextResult 76 = .ok (.iconst (-1), 1) := by decide +kernel
theorem dX12_nextResult_77 : decode cX12_nextResult 77 = .ok (.goto 10, 3) := by decide +kernel
theorem dX12_nextResult_80 : decode cX12_nextResult 80 = .ok (.aload_n 0, 1) := by decide +kernel
theorem dX12_nextResult_81 : decode cX12_nextResult 81 = .ok (.iconst 0, 1) := by decide +kernel
theorem dX12_nextResult_82 : decode cX12_nextResult 82 = .ok (.invokevirtual 155, 3) := by decide +kernel
theorem dX12_nextResult_85 : decode cX12_nextResult 85 = .ok (.iconst 1, 1) := by decide +kernel
theorem dX12_nextResult_86 : decode cX12_nextResult 86 = .ok (.isub, 1) := by decide +kernel
theorem dX12_nextResult_87 : decode cX12_nextResult 87 = .ok (.invokevirtual 254, 3) := by decide +kernel
theorem dX12_nextResult_90 : decode cX12_nextResult 90 = .ok (.ireturn, 1) := by decide +kernel
theorem dX12_whenRaised_0 : decode cX12_whenRaised 0 = .ok (.aload_n 0, 1) := by decide +kernel
theorem dX12_whenRaised_1 : decode cX12_whenRaised 1 = .ok (.aload_n 0, 1) := by decide +kernel
theorem dX12_whenRaised_2 : decode cX12_whenRaised 2 = .ok (.iload_n 1, 1) := by decide +kernel
theorem dX12_whenRaised_3 : decode cX12_whenRaised 3 = .ok (.invokevirtual 241, 3) := by decide +kernel
theorem dX12_whenRaised_6 : decode cX12_whenRaised 6 = .ok (.ifCond .ne 7, 3) := by decide +kernel
theorem dX12_whenRaised_9 : decode cX12_whenRaised 9 = .ok (.iconst 1, 1) := by decide +kernel
theorem dX12_whenRaised_10 : decode cX12_whenRaised 10 = .ok (.goto 4, 3) := by decide +kernel
theorem dX12_whenRaised_13 : decode cX12_whenRaised 13 = .ok (.iconst 0, 1) := by decide +kernel
theorem dX12_whenRaised_14 : decode cX12_whenRaised 14 = .ok (.iload_n 2, 1) := by decide +kernel
theorem dX12_whenRaised_15 : decode cX12_whenRaised 15 = .ok (.iconst 1, 1) := by decide +kernel
theorem dX12_whenRaised_16 : decode cX12_whenRaised 16 = .ok (.sipush 5000, 3) := by decide +kernel
theorem dX12_whenRaised_19 : decode cX12_whenRaised 19 = .ok (.invokestatic 22, 3) := by decide +kernel
theorem dX12_whenRaised_22 : decode cX12_whenRaised 22 = .ok (.ifCond .ne 7, 3) := by decide +kernel
theorem dX12_whenRaised_25 : decode cX12_whenRaised 25 = .ok (.iconst 1, 1) := by decide +kernel
theorem dX12_whenRaised_26 : decode cX12_whenRaised 26 = .ok (.goto 4, 3) := by decide +kernel
theorem dX12_whenRaised_29 : decode cX12_whenRaised 29 = .ok (.iconst 0, 1) := by decide +kernel
theorem dX12_whenRaised_30 : decode cX12_whenRaised 30 = .ok (.iconst 0, 1) := by decide +kernel
theorem dX12_whenRaised_31 : decode cX12_whenRaised 31 = .ok (.invokevirtual 14, 3) := by decide +kernel
theorem dX12_whenRaised_34 : decode cX12_whenRaised 34 = .ok (.ifCond .eq 5, 3) := by decide +kernel
theorem dX12_whenRaised_37 : decode cX12_whenRaised 37 = .ok (.iconst 0, 1) := by decide +kernel
theorem dX12_whenRaised_38 : decode cX12_whenRaised 38 = .ok (.ireturn, 1) := by decide +kernel
theorem dX12_whenRaised_39 : decode cX12_whenRaised 39 = .ok (.aload_n 0, 1) := by decide +kernel
theorem dX12_whenRaised_40 : decode cX12_whenRaised 40 = .ok (.iload_n 1, 1) := by decide +kernel
theorem dX12_whenRaised_41 : decode cX12_whenRaised 41 = .ok (.iconst 3, 1) := by decide +kernel
theorem dX12_whenRaised_42 : decode cX12_whenRaised 42 = .ok (.invokestatic 187, 3) := by decide +kernel
theorem dX12_whenRaised_45 : decode cX12_whenRaised 45 = .ok (.invokevirtual 155, 3) := by decide +kernel
theorem dX12_whenRaised_48 : decode cX12_whenRaised 48 = .ok (.iconst 1, 1) := by decide +kernel
theorem dX12_whenRaised_49 : decode cX12_whenRaised 49 = .ok (.if_icmp .ne 5, 3) := by decide +kernel
theorem dX12_whenRaised_52 : decode cX12_whenRaised 52 = .ok (.iconst (-1), 1) := by decide +kernel
theorem dX12_whenRaised_53 : decode cX12_whenRaised 53 = .ok (.ireturn, 1) := by decide +kernel
theorem dX12_whenRaised_54 : decode cX12_whenRaised 54 = .ok (.aload_n 0, 1) := by decide +kernel
theorem dX12_whenRaised_55 : decode cX12_whenRaised 55 = .ok (.invokevirtual 251, 3) := by decide +kernel
theorem dX12_whenRaised_58 : decode cX12_whenRaised 58 = .ok (.iconst 0, 1) := by decide +kernel
theorem dX12_whenRaised_59 : decode cX12_whenRaised 59 = .ok (.istore_n 3, 1) := by decide +kernel
theorem dX12_whenRaised_60 : decode cX12_whenRaised 60 = .ok (.iload_n 3, 1) := by decide +kernel
theorem dX12_whenRaised_61 : decode cX12_whenRaised 61 = .ok (.iload_n 2, 1) := by decide +kernel
theorem dX12_whenRaised_62 : decode cX12_whenRaised 62 = .ok (.if_icmp .ge 25, 3) := by decide +kernel
theorem dX12_whenRaised_65 : decode cX12_whenRaised 65 = .ok (.aload_n 0, 1) := by decide +kernel
theorem dX12_whenRaised_66 : decode cX12_whenRaised 66 = .ok (.iload_n 1, 1) := by decide +kernel
theorem dX12_whenRaised_67 : decode cX12_whenRaised 67 = .ok (.iconst 3, 1) := by decide +kernel
theorem dX12_whenRaised_68 : decode cX12_whenRaised 68 = .ok (.invokestatic 187, 3) := by decide +kernel
theorem dX12_whenRaised_71 : decode cX12_whenRaised 71 = .ok (.invokevirtual 155, 3) := by decide +kernel
theorem dX12_whenRaised_74 : decode cX12_whenRaised 74 = .ok (.ifCond .ne 13, 3) := by decide +kernel
theorem dX12_whenRaised_77 : decode cX12_whenRaised 77 = .ok (.aload_n 0, 1) := by decide +kernel
theorem dX12_whenRaised_78 : decode cX12_whenRaised 78 = .ok (.invokevirtual 235, 3) := by decide +kernel
theorem dX12_whenRaised_81 : decode cX12_whenRaised 81 = .ok (.iinc 3 1, 3) := by decide +kernel
theorem dX12_whenRaised_84 : decode cX12_whenRaised 84 = .ok (.goto (-24), 3) := by decide +kernel
theorem dX12_whenRaised_87 : decode cX12_whenRaised 87 = .ok (.aload_n 0, 1) := by decide +kernel
theorem dX12_whenRaised_88 : decode cX12_whenRaised 88 = .ok (.aload_n 0, 1) := by decide +kernel
theorem dX12_whenRaised_89 : decode cX12_whenRaised 89 = .ok (.iload_n 1, 1) := by decide +kernel
theorem dX12_whenRaised_90 : decode cX12_whenRaised 90 = .ok (.iconst 3, 1) := by decide +kernel
theorem dX12_whenRaised_91 : decode cX12_whenRaised 91 = .ok (.invokestatic 187, 3) := by decide +kernel
theorem dX12_whenRaised_94 : decode cX12_whenRaised 94 = .ok (.invokevirtual 155, 3) := by decide +kernel
theorem dX12_whenRaised_97 : decode cX12_whenRaised 97 = .ok (.ifCond .ne 7, 3) := by decide +kernel
theorem dX12_whenRaised_100 : decode cX12_whenRaised 100 = .ok (.iconst (-1), 1) := by decide +kernel
theorem dX12_whenRaised_101 : decode cX12_whenRaised 101 = .ok (.goto 12, 3) := by decide +kernel
theorem dX12_whenRaised_104 : decode cX12_whenRaised 104 = .ok (.aload_n 0, 1) := by decide +kernel
theorem dX12_whenRaised_105 : decode cX12_whenRaised 105 = .ok (.iload_n 1, 1) := by decide +kernel
theorem dX12_whenRaised_106 : decode cX12_whenRaised 106 = .ok (.iconst 4, 1) := by decide +kernel
theorem dX12_whenRaised_107 : decode cX12_whenRaised 107 = .ok (.invokestatic 187, 3) := by decide +kernel
theorem dX12_whenRaised_110 : decode cX12_whenRaised 110 = .ok (.invokevirtual 155, 3) := by decide +kernel
theorem dX12_whenRaised_113 : decode cX12_whenRaised 113 = .ok (.invokevirtual 254, 3) := by decide +kernel
theorem dX12_whenRaised_116 : decode cX12_whenRaised 116 = .ok (.ireturn, 1) := by decide +kernel
theorem dX12_overrunsAt_0 : decode cX12_overrunsAt 0 = .ok (.aload_n 0, 1) := by decide +kernel
theorem dX12_overrunsAt_1 : decode cX12_overrunsAt 1 = .ok (.invokevirtual 251, 3) := by decide +kernel
theorem dX12_overrunsAt_4 : decode cX12_overrunsAt 4 = .ok (.aload_n 0, 1) := by decide +kernel
theorem dX12_overrunsAt_5 : decode cX12_overrunsAt 5 = .ok (.bipush 8, 2) := by decide +kernel
theorem dX12_overrunsAt_7 : decode cX12_overrunsAt 7 = .ok (.invokevirtual 155, 3) := by decide +kernel
theorem dX12_overrunsAt_10 : decode cX12_overrunsAt 10 = .ok (.istore_n 3, 1) := by decide +kernel
theorem dX12_overrunsAt_11 : decode cX12_overrunsAt 11 = .ok (.aload_n 0, 1) := by decide +kernel
theorem dX12_overrunsAt_12 : decode cX12_overrunsAt 12 = .ok (.bipush 10, 2) := by decide +kernel
theorem dX12_overrunsAt_14 : decode cX12_overrunsAt 14 = .ok (.iload_n 1, 1) := by decide +kernel
theorem dX12_overrunsAt_15 : decode cX12_overrunsAt 15 = .ok (.invokevirtual 39, 3) := by decide +kernel
theorem dX12_overrunsAt_18 : decode cX12_overrunsAt 18 = .ok (.iconst 0, 1) := by decide +kernel
theorem dX12_overrunsAt_19 : decode cX12_overrunsAt 19 = .ok (.istore 4, 2) := by decide +kernel
theorem dX12_overrunsAt_21 : decode cX12_overrunsAt 21 = .ok (.iload 4, 2) := by decide +kernel
theorem dX12_overrunsAt_23 : decode cX12_overrunsAt 23 = .ok (.iload_n 2, 1) := by decide +kernel
theorem dX12_overrunsAt_24 : decode cX12_overrunsAt 24 = .ok (.if_icmp .ge 13, 3) := by decide +kernel
theorem dX12_overrunsAt_27 : decode cX12_overrunsAt 27 = .ok (.aload_n 0, 1) := by decide +kernel
theorem dX12_overrunsAt_28 : decode cX12_overrunsAt 28 = .ok (.invokevirtual 235, 3) := by decide +kernel
theorem dX12_overrunsAt_31 : decode cX12_overrunsAt 31 = .ok (.iinc 4 1, 3) := by decide +kernel
theorem dX12_overrunsAt_34 : decode cX12_overrunsAt 34 = .ok (.goto (-13), 3) := by decide +kernel
theorem dX12_overrunsAt_37 : decode cX12_overrunsAt 37 = .ok (.aload_n 0, 1) := by decide +kernel
theorem dX12_overrunsAt_38 : decode cX12_overrunsAt 38 = .ok (.aload_n 0, 1) := by decide +kernel
theorem dX12_overrunsAt_39 : decode cX12_overrunsAt 39 = .ok (.bipush 8, 2) := by decide +kernel
theorem dX12_overrunsAt_41 : decode cX12_overrunsAt 41 = .ok (.invokevirtual 155, 3) := by decide +kernel
theorem dX12_overrunsAt_44 : decode cX12_overrunsAt 44 = .ok (.iload_n 3, 1) := by decide +kernel
theorem dX12_overrunsAt_45 : decode cX12_overrunsAt 45 = .ok (.isub, 1) := by decide +kernel
theorem dX12_overrunsAt_46 : decode cX12_overrunsAt 46 = .ok (.invokevirtual 254, 3) := by decide +kernel
theorem dX12_overrunsAt_49 : decode cX12_overrunsAt 49 = .ok (.ireturn, 1) := by decide +kernel
theorem dX12_overrunsWith_0 : decode cX12_overrunsWith 0 = .ok (.aload_n 0, 1) := by decide +kernel
theorem dX12_overrunsWith_1 : decode cX12_overrunsWith 1 = .ok (.iload_n 1, 1) := by decide +kernel
theorem dX12_overrunsWith_2 : decode cX12_overrunsWith 2 = .ok (.iconst 0, 1) := by decide +kernel
theorem dX12_overrunsWith_3 : decode cX12_overrunsWith 3 = .ok (.sipush 999, 3) := by decide +kernel
theorem dX12_overrunsWith_6 : decode cX12_overrunsWith 6 = .ok (.invokestatic 22, 3) := by decide +kernel
theorem dX12_overrunsWith_9 : decode cX12_overrunsWith 9 = .ok (.ifCond .eq 14, 3) := by decide +kernel
theorem dX12_overrunsWith_12 : decode cX12_overrunsWith 12 = .ok (.iload_n 2, 1) := by decide +kernel
theorem dX12_overrunsWith_13 : decode cX12_overrunsWith 13 = .ok (.iconst 1, 1) := by decide +kernel
theorem dX12_overrunsWith_14 : decode cX12_overrunsWith 14 = .ok (.sipush 5000, 3) := by decide +kernel
theorem dX12_overrunsWith_17 : decode cX12_overrunsWith 17 = .ok (.invokestatic 22, 3) := by decide +kernel
theorem dX12_overrunsWith_20 : decode cX12_overrunsWith 20 = .ok (.ifCond .ne 7, 3) := by decide +kernel
theorem dX12_overrunsWith_23 : decode cX12_overrunsWith 23 = .ok (.iconst 1, 1) := by decide +kernel
theorem dX12_overrunsWith_24 : decode cX12_overrunsWith 24 = .ok (.goto 4, 3) := by decide +kernel
theorem dX12_overrunsWith_27 : decode cX12_overrunsWith 27 = .ok (.iconst 0, 1) := by decide +kernel
theorem dX12_overrunsWith_28 : decode cX12_overrunsWith 28 = .ok (.iconst 0, 1) := by decide +kernel
theorem dX12_overrunsWith_29 : decode cX12_overrunsWith 29 = .ok (.iconst 0, 1) := by decide +kernel
theorem dX12_overrunsWith_30 : decode cX12_overrunsWith 30 = .ok (.invokevirtual 14, 3) := by decide +kernel
theorem dX12_overrunsWith_33 : decode cX12_overrunsWith 33 = .ok (.ifCond .eq 5, 3) := by decide +kernel
theorem dX12_overrunsWith_36 : decode cX12_overrunsWith 36 = .ok (.iconst 0, 1) := by decide +kernel
theorem dX12_overrunsWith_37 : decode cX12_overrunsWith 37 = .ok (.ireturn, 1) := by decide +kernel
theorem dX12_overrunsWith_38 : decode cX12_overrunsWith 38 = .ok (.aload_n 0, 1) := by decide +kernel
theorem dX12_overrunsWith_39 : decode cX12_overrunsWith 39 = .ok (.iload_n 1, 1) := by decide +kernel
theorem dX12_overrunsWith_40 : decode cX12_overrunsWith 40 = .ok (.iload_n 2, 1) := by decide +kernel
theorem dX12_overrunsWith_41 : decode cX12_overrunsWith 41 = .ok (.invokevirtual 257, 3) := by decide +kernel
theorem dX12_overrunsWith_44 : decode cX12_overrunsWith 44 = .ok (.ireturn, 1) := by decide +kernel
theorem dX12_slowestPace_0 : decode cX12_slowestPace 0 = .ok (.aload_n 0, 1) := by decide +kernel
theorem dX12_slowestPace_1 : decode cX12_slowestPace 1 = .ok (.iload_n 1, 1) := by decide +kernel
theorem dX12_slowestPace_2 : decode cX12_slowestPace 2 = .ok (.iconst 1, 1) := by decide +kernel
theorem dX12_slowestPace_3 : decode cX12_slowestPace 3 = .ok (.sipush 500, 3) := by decide +kernel
theorem dX12_slowestPace_6 : decode cX12_slowestPace 6 = .ok (.invokestatic 22, 3) := by decide +kernel
theorem dX12_slowestPace_9 : decode cX12_slowestPace 9 = .ok (.ifCond .ne 7, 3) := by decide +kernel
theorem dX12_slowestPace_12 : decode cX12_slowestPace 12 = .ok (.iconst 1, 1) := by decide +kernel
theorem dX12_slowestPace_13 : decode cX12_slowestPace 13 = .ok (.goto 4, 3) := by decide +kernel
theorem dX12_slowestPace_16 : decode cX12_slowestPace 16 = .ok (.iconst 0, 1) := by decide +kernel
theorem dX12_slowestPace_17 : decode cX12_slowestPace 17 = .ok (.iconst 0, 1) := by decide +kernel
theorem dX12_slowestPace_18 : decode cX12_slowestPace 18 = .ok (.iconst 0, 1) := by decide +kernel
theorem dX12_slowestPace_19 : decode cX12_slowestPace 19 = .ok (.invokevirtual 14, 3) := by decide +kernel
theorem dX12_slowestPace_22 : decode cX12_slowestPace 22 = .ok (.ifCond .eq 5, 3) := by decide +kernel
theorem dX12_slowestPace_25 : decode cX12_slowestPace 25 = .ok (.iconst 0, 1) := by decide +kernel
theorem dX12_slowestPace_26 : decode cX12_slowestPace 26 = .ok (.ireturn, 1) := by decide +kernel
theorem dX12_slowestPace_27 : decode cX12_slowestPace 27 = .ok (.bipush 60, 2) := by decide +kernel
theorem dX12_slowestPace_29 : decode cX12_slowestPace 29 = .ok (.istore_n 2, 1) := by decide +kernel
theorem dX12_slowestPace_30 : decode cX12_slowestPace 30 = .ok (.iload_n 2, 1) := by decide +kernel
theorem dX12_slowestPace_31 : decode cX12_slowestPace 31 = .ok (.iconst 1, 1) := by decide +kernel
theorem dX12_slowestPace_32 : decode cX12_slowestPace 32 = .ok (.if_icmp .lt 20, 3) := by decide +kernel
theorem dX12_slowestPace_35 : decode cX12_slowestPace 35 = .ok (.aload_n 0, 1) := by decide +kernel
theorem dX12_slowestPace_36 : decode cX12_slowestPace 36 = .ok (.iload_n 2, 1) := by decide +kernel
theorem dX12_slowestPace_37 : decode cX12_slowestPace 37 = .ok (.iload_n 1, 1) := by decide +kernel
theorem dX12_slowestPace_38 : decode cX12_slowestPace 38 = .ok (.invokevirtual 257, 3) := by decide +kernel
theorem dX12_slowestPace_41 : decode cX12_slowestPace 41 = .ok (.ifCond .ne 5, 3) := by decide +kernel
theorem dX12_slowestPace_44 : decode cX12_slowestPace 44 = .ok (.iload_n 2, 1) := by decide +kernel
theorem dX12_slowestPace_45 : decode cX12_slowestPace 45 = .ok (.ireturn, 1) := by decide +kernel
theorem dX12_slowestPace_46 : decode cX12_slowestPace 46 = .ok (.iinc 2 (-1), 3) := by decide +kernel
theorem dX12_slowestPace_49 : decode cX12_slowestPace 49 = .ok (.goto (-19), 3) := by decide +kernel
theorem dX12_slowestPace_52 : decode cX12_slowestPace 52 = .ok (.iconst (-1), 1) := by decide +kernel
theorem dX12_slowestPace_53 : decode cX12_slowestPace 53 = .ok (.ireturn, 1) := by decide +kernel
theorem dX12_passLength_0 : decode cX12_passLength 0 = .ok (.aload_n 0, 1) := by decide +kernel
theorem dX12_passLength_1 : decode cX12_passLength 1 = .ok (.iconst 0, 1) := by decide +kernel
theorem dX12_passLength_2 : decode cX12_passLength 2 = .ok (.putfield 1, 3) := by decide +kernel
theorem dX12_passLength_5 : decode cX12_passLength 5 = .ok (.iload_n 1, 1) := by decide +kernel
theorem dX12_passLength_6 : decode cX12_passLength 6 = .ok (.ifCond .eq 7, 3) := by decide +kernel
theorem dX12_passLength_9 : decode cX12_passLength 9 = .ok (.iconst 1, 1) := by decide +kernel
theorem dX12_passLength_10 : decode cX12_passLength 10 = .ok (.goto 4, 3) := by decide +kernel
theorem dX12_passLength_13 : decode cX12_passLength 13 = .ok (.iconst 0, 1) := by decide +kernel
theorem dX12_passLength_14 : decode cX12_passLength 14 = .ok (.istore_n 2, 1) := by decide +kernel
theorem dX12_passLength_15 : decode cX12_passLength 15 = .ok (.iconst 0, 1) := by decide +kernel
theorem dX12_passLength_16 : decode cX12_passLength 16 = .ok (.istore_n 3, 1) := by decide +kernel
theorem dX12_passLength_17 : decode cX12_passLength 17 = .ok (.iconst 0, 1) := by decide +kernel
theorem dX12_passLength_18 : decode cX12_passLength 18 = .ok (.istore 4, 2) := by decide +kernel
theorem dX12_passLength_20 : decode cX12_passLength 20 = .ok (.iload 4, 2) := by decide +kernel
theorem dX12_passLength_22 : decode cX12_passLength 22 = .ok (.aload_n 0, 1) := by decide +kernel
theorem dX12_passLength_23 : decode cX12_passLength 23 = .ok (.iload_n 2, 1) := by decide +kernel
theorem dX12_passLength_24 : decode cX12_passLength 24 = .ok (.invokevirtual 165, 3) := by decide +kernel
theorem dX12_passLength_27 : decode cX12_passLength 27 = .ok (.if_icmp .ge 37, 3) := by decide +kernel
theorem dX12_passLength_30 : decode cX12_passLength 30 = .ok (.iload_n 3, 1) := by decide +kernel
theorem dX12_passLength_31 : decode cX12_passLength 31 = .ok (.aload_n 0, 1) := by decide +kernel
theorem dX12_passLength_32 : decode cX12_passLength 32 = .ok (.aload_n 0, 1) := by decide +kernel
theorem dX12_passLength_33 : decode cX12_passLength 33 = .ok (.iload_n 2, 1) := by decide +kernel
theorem dX12_passLength_34 : decode cX12_passLength 34 = .ok (.iload 4, 2) := by decide +kernel
theorem dX12_passLength_36 : decode cX12_passLength 36 = .ok (.invokevirtual 214, 3) := by decide +kernel
theorem dX12_passLength_39 : decode cX12_passLength 39 = .ok (.iconst 0, 1) := by decide +kernel
theorem dX12_passLength_40 : decode cX12_passLength 40 = .ok (.invokestatic 47, 3) := by decide +kernel
theorem dX12_passLength_43 : decode cX12_passLength 43 = .ok (.invokevirtual 155, 3) := by decide +kernel
theorem dX12_passLength_46 : decode cX12_passLength 46 = .ok (.bipush 12, 2) := by decide +kernel
theorem dX12_passLength_48 : decode cX12_passLength 48 = .ok (.iadd, 1) := by decide +kernel
theorem dX12_passLength_49 : decode cX12_passLength 49 = .ok (.aload_n 0, 1) := by decide +kernel
theorem dX12_passLength_50 : decode cX12_passLength 50 = .ok (.getfield 26, 3) := by decide +kernel
theorem dX12_passLength_53 : decode cX12_passLength 53 = .ok (.iconst 2, 1) := by decide +kernel
theorem dX12_passLength_54 : decode cX12_passLength 54 = .ok (.iaload, 1) := by decide +kernel
theorem dX12_passLength_55 : decode cX12_passLength 55 = .ok (.ishl, 1) := by decide +kernel
theorem dX12_passLength_56 : decode cX12_passLength 56 = .ok (.iadd, 1) := by decide +kernel
theorem dX12_passLength_57 : decode cX12_passLength 57 = .ok (.istore_n 3, 1) := by decide +kernel
theorem dX12_passLength_58 : decode cX12_passLength 58 = .ok (.iinc 4 1, 3) := by decide +kernel
theorem dX12_passLength_61 : decode cX12_passLength 61 = .ok (.goto (-41), 3) := by decide +kernel
theorem dX12_passLength_64 : decode cX12_passLength 64 = .ok (.iload_n 3, 1) := by decide +kernel
theorem dX12_passLength_65 : decode cX12_passLength 65 = .ok (.ireturn, 1) := by decide +kernel
theorem dX12_save_0 : decode cX12_save 0 = .ok (.aload_n 0, 1) := by decide +kernel
theorem dX12_save_1 : decode cX12_save 1 = .ok (.iload_n 1, 1) := by decide +kernel
theorem dX12_save_2 : decode cX12_save 2 = .ok (.iconst 0, 1) := by decide +kernel
theorem dX12_save_3 : decode cX12_save 3 = .ok (.iconst 1, 1) := by decide +kernel
theorem dX12_save_4 : decode cX12_save 4 = .ok (.invokestatic 22, 3) := by decide +kernel
theorem dX12_save_7 : decode cX12_save 7 = .ok (.ifCond .ne 7, 3) := by decide +kernel
theorem dX12_save_10 : decode cX12_save 10 = .ok (.iconst 1, 1) := by decide +kernel
theorem dX12_save_11 : decode cX12_save 11 = .ok (.goto 4, 3) := by decide +kernel
theorem dX12_save_14 : decode cX12_save 14 = .ok (.iconst 0, 1) := by decide +kernel
theorem dX12_save_15 : decode cX12_save 15 = .ok (.iconst 0, 1) := by decide +kernel
theorem dX12_save_16 : decode cX12_save 16 = .ok (.iconst 0, 1) := by decide +kernel
theorem dX12_save_17 : decode cX12_save 17 = .ok (.invokevirtual 14, 3) := by decide +kernel
theorem dX12_save_20 : decode cX12_save 20 = .ok (.ifCond .eq 5, 3) := by decide +kernel
theorem dX12_save_23 : decode cX12_save 23 = .ok (.iconst 0, 1) := by decide +kernel
theorem dX12_save_24 : decode cX12_save 24 = .ok (.ireturn, 1) := by decide +kernel
theorem dX12_save_25 : decode cX12_save 25 = .ok (.aload_n 0, 1) := by decide +kernel
theorem dX12_save_26 : decode cX12_save 26 = .ok (.getfield 56, 3) := by decide +kernel
theorem dX12_save_29 : decode cX12_save 29 = .ok (.iload_n 1, 1) := by decide +kernel
theorem dX12_save_30 : decode cX12_save 30 = .ok (.iconst 1, 1) := by decide +kernel
theorem dX12_save_31 : decode cX12_save 31 = .ok (.bastore, 1) := by decide +kernel
theorem dX12_save_32 : decode cX12_save 32 = .ok (.aload_n 0, 1) := by decide +kernel
theorem dX12_save_33 : decode cX12_save 33 = .ok (.iconst 0, 1) := by decide +kernel
theorem dX12_save_34 : decode cX12_save 34 = .ok (.iconst 1, 1) := by decide +kernel
theorem dX12_save_35 : decode cX12_save 35 = .ok (.iload_n 1, 1) := by decide +kernel
theorem dX12_save_36 : decode cX12_save 36 = .ok (.iadd, 1) := by decide +kernel
theorem dX12_save_37 : decode cX12_save 37 = .ok (.invokevirtual 248, 3) := by decide +kernel
theorem dX12_save_40 : decode cX12_save 40 = .ok (.aload_n 0, 1) := by decide +kernel
theorem dX12_save_41 : decode cX12_save 41 = .ok (.iconst 0, 1) := by decide +kernel
theorem dX12_save_42 : decode cX12_save 42 = .ok (.invokevirtual 155, 3) := by decide +kernel
theorem dX12_save_45 : decode cX12_save 45 = .ok (.ireturn, 1) := by decide +kernel
theorem dX12_restore_0 : decode cX12_restore 0 = .ok (.iload_n 1, 1) := by decide +kernel
theorem dX12_restore_1 : decode cX12_restore 1 = .ok (.iconst 0, 1) := by decide +kernel
theorem dX12_restore_2 : decode cX12_restore 2 = .ok (.iconst 1, 1) := by decide +kernel
theorem dX12_restore_3 : decode cX12_restore 3 = .ok (.invokestatic 22, 3) := by decide +kernel
theorem dX12_restore_6 : decode cX12_restore 6 = .ok (.istore_n 2, 1) := by decide +kernel
theorem dX12_restore_7 : decode cX12_restore 7 = .ok (.aload_n 0, 1) := by decide +kernel
theorem dX12_restore_8 : decode cX12_restore 8 = .ok (.iload_n 2, 1) := by decide +kernel
theorem dX12_restore_9 : decode cX12_restore 9 = .ok (.ifCond .ne 7, 3) := by decide +kernel
theorem dX12_restore_12 : decode cX12_restore 12 = .ok (.iconst 1, 1) := by decide +kernel
theorem dX12_restore_13 : decode cX12_restore 13 = .ok (.goto 4, 3) := by decide +kernel
theorem dX12_restore_16 : decode cX12_restore 16 = .ok (.iconst 0, 1) := by decide +kernel
theorem dX12_restore_17 : decode cX12_restore 17 = .ok (.iload_n 2, 1) := by decide +kernel
theorem dX12_restore_18 : decode cX12_restore 18 = .ok (.ifCond .eq 16, 3) := by decide +kernel
theorem dX12_restore_21 : decode cX12_restore 21 = .ok (.aload_n 0, 1) := by decide +kernel
theorem dX12_restore_22 : decode cX12_restore 22 = .ok (.getfield 56, 3) := by decide +kernel
theorem dX12_restore_25 : decode cX12_restore 25 = .ok (.iload_n 1, 1) := by decide +kernel
theorem dX12_restore_26 : decode cX12_restore 26 = .ok (.baload, 1) := by decide +kernel
theorem dX12_restore_27 : decode cX12_restore 27 = .ok (.ifCond .ne 7, 3) := by decide +kernel
theorem dX12_restore_30 : decode cX12_restore 30 = .ok (.iconst 1, 1) := by decide +kernel
theorem dX12_restore_31 : decode cX12_restore 31 = .ok (.goto 4, 3) := by decide +kernel
theorem dX12_restore_34 : decode cX12_restore 34 = .ok (.iconst 0, 1) := by decide +kernel
theorem dX12_restore_35 : decode cX12_restore 35 = .ok (.iconst 0, 1) := by decide +kernel
theorem dX12_restore_36 : decode cX12_restore 36 = .ok (.invokevirtual 14, 3) := by decide +kernel
theorem dX12_restore_39 : decode cX12_restore 39 = .ok (.ifCond .eq 5, 3) := by decide +kernel
theorem dX12_restore_42 : decode cX12_restore 42 = .ok (.iconst 0, 1) := by decide +kernel
theorem dX12_restore_43 : decode cX12_restore 43 = .ok (.ireturn, 1) := by decide +kernel
theorem dX12_restore_44 : decode cX12_restore 44 = .ok (.aload_n 0, 1) := by decide +kernel
theorem dX12_restore_45 : decode cX12_restore 45 = .ok (.iconst 1, 1) := by decide +kernel
theorem dX12_restore_46 : decode cX12_restore 46 = .ok (.iload_n 1, 1) := by decide +kernel
theorem dX12_restore_47 : decode cX12_restore 47 = .ok (.iadd, 1) := by decide +kernel
theorem dX12_restore_48 : decode cX12_restore 48 = .ok (.iconst 0, 1) := by decide +kernel
theorem dX12_restore_49 : decode cX12_restore 49 = .ok (.invokevirtual 248, 3) := by decide +kernel
theorem dX12_restore_52 : decode cX12_restore 52 = .ok (.aload_n 0, 1) := by decide +kernel
theorem dX12_restore_53 : decode cX12_restore 53 = .ok (.iconst 0, 1) := by decide +kernel
theorem dX12_restore_54 : decode cX12_restore 54 = .ok (.invokevirtual 155, 3) := by decide +kernel
theorem dX12_restore_57 : decode cX12_restore 57 = .ok (.ireturn, 1) := by decide +kernel
theorem dX12_byteAt_0 : decode cX12_byteAt 0 = .ok (.iload_n 1, 1) := by decide +kernel
theorem dX12_byteAt_1 : decode cX12_byteAt 1 = .ok (.aload_n 0, 1) := by decide +kernel
theorem dX12_byteAt_2 : decode cX12_byteAt 2 = .ok (.getfield 113, 3) := by decide +kernel
theorem dX12_byteAt_5 : decode cX12_byteAt 5 = .ok (.if_icmp .ge 12, 3) := by decide +kernel
theorem dX12_byteAt_8 : decode cX12_byteAt 8 = .ok (.aload_n 0, 1) := by decide +kernel
theorem dX12_byteAt_9 : decode cX12_byteAt 9 = .ok (.getfield 7, 3) := by decide +kernel
theorem dX12_byteAt_12 : decode cX12_byteAt 12 = .ok (.iload_n 1, 1) := by decide +kernel
theorem dX12_byteAt_13 : decode cX12_byteAt 13 = .ok (.iaload, 1) := by decide +kernel
theorem dX12_byteAt_14 : decode cX12_byteAt 14 = .ok (.goto 4, 3) := by decide +kernel
theorem dX12_byteAt_17 : decode cX12_byteAt 17 = .ok (.iconst (-1), 1) := by decide +kernel
theorem dX12_byteAt_18 : decode cX12_byteAt 18 = .ok (.ireturn, 1) := by decide +kernel
theorem dX12_isLetter_0 : decode cX12_isLetter 0 = .ok (.aload_n 0, 1) := by decide +kernel
theorem dX12_isLetter_1 : decode cX12_isLetter 1 = .ok (.iload_n 1, 1) := by decide +kernel
theorem dX12_isLetter_2 : decode cX12_isLetter 2 = .ok (.invokevirtual 260, 3) := by decide +kernel
theorem dX12_isLetter_5 : decode cX12_isLetter 5 = .ok (.bipush 97, 2) := by decide +kernel
theorem dX12_isLetter_7 : decode cX12_isLetter 7 = .ok (.bipush 122, 2) := by decide +kernel
theorem dX12_isLetter_9 : decode cX12_isLetter 9 = .ok (.invokestatic 22, 3) := by decide +kernel
theorem dX12_isLetter_12 : decode cX12_isLetter 12 = .ok (.ireturn, 1) := by decide +kernel
theorem dX12_isDigit_0 : decode cX12_isDigit 0 = .ok (.aload_n 0, 1) := by decide +kernel
theorem dX12_isDigit_1 : decode cX12_isDigit 1 = .ok (.iload_n 1, 1) := by decide +kernel
theorem dX12_isDigit_2 : decode cX12_isDigit 2 = .ok (.invokevirtual 260, 3) := by decide +kernel
theorem dX12_isDigit_5 : decode cX12_isDigit 5 = .ok (.bipush 48, 2) := by decide +kernel
theorem dX12_isDigit_7 : decode cX12_isDigit 7 = .ok (.bipush 57, 2) := by decide +kernel
theorem dX12_isDigit_9 : decode cX12_isDigit 9 = .ok (.invokestatic 22, 3) := by decide +kernel
theorem dX12_isDigit_12 : decode cX12_isDigit 12 = .ok (.ireturn, 1) := by decide +kernel
theorem dX12_scanWord_0 : decode cX12_scanWord 0 = .ok (.aload_n 0, 1) := by decide +kernel
theorem dX12_scanWord_1 : decode cX12_scanWord 1 = .ok (.iconst 1, 1) := by decide +kernel
theorem dX12_scanWord_2 : decode cX12_scanWord 2 = .ok (.putfield 119, 3) := by decide +kernel
theorem dX12_scanWord_5 : decode cX12_scanWord 5 = .ok (.lconst 0, 1) := by decide +kernel
theorem dX12_scanWord_6 : decode cX12_scanWord 6 = .ok (.lstore_n 1, 1) := by decide +kernel
theorem dX12_scanWord_7 : decode cX12_scanWord 7 = .ok (.aload_n 0, 1) := by decide +kernel
theorem dX12_scanWord_8 : decode cX12_scanWord 8 = .ok (.aload_n 0, 1) := by decide +kernel
theorem dX12_scanWord_9 : decode cX12_scanWord 9 = .ok (.getfield 116, 3) := by decide +kernel
theorem dX12_scanWord_12 : decode cX12_scanWord 12 = .ok (.invokevirtual 263, 3) := by decide +kernel
theorem dX12_scanWord_15 : decode cX12_scanWord 15 = .ok (.ifCond .eq 50, 3) := by decide +kernel
theorem dX12_scanWord_18 : decode cX12_scanWord 18 = .ok (.aload_n 0, 1) := by decide +kernel
theorem dX12_scanWord_19 : decode cX12_scanWord 19 = .ok (.getfield 116, 3) := by decide +kernel
theorem dX12_scanWord_22 : decode cX12_scanWord 22 = .ok (.aload_n 0, 1) := by decide +kernel
theorem dX12_scanWord_23 : decode cX12_scanWord 23 = .ok (.getfield 122, 3) := by decide +kernel
theorem dX12_scanWord_26 : decode cX12_scanWord 26 = .ok (.isub, 1) := by decide +kernel
theorem dX12_scanWord_27 : decode cX12_scanWord 27 = .ok (.bipush 10, 2) := by decide +kernel
theorem dX12_scanWord_29 : decode cX12_scanWord 29 = .ok (.if_icmp .ge 23, 3) := by decide +kernel
theorem dX12_scanWord_32 : decode cX12_scanWord 32 = .ok (.lload_n 1, 1) := by decide +kernel
theorem dX12_scanWord_33 : decode cX12_scanWord 33 = .ok (.ldc2_w 266, 3) := by decide +kernel
theorem dX12_scanWord_36 : decode cX12_scanWord 36 = .ok (.lmul, 1) := by decide +kernel
theorem dX12_scanWord_37 : decode cX12_scanWord 37 = .ok (.aload_n 0, 1) := by decide +kernel
theorem dX12_scanWord_38 : decode cX12_scanWord 38 = .ok (.aload_n 0, 1) := by decide +kernel
theorem dX12_scanWord_39 : decode cX12_scanWord 39 = .ok (.getfield 116, 3) := by decide +kernel
theorem dX12_scanWord_42 : decode cX12_scanWord 42 = .ok (.invokevirtual 260, 3) := by decide +kernel
theorem dX12_scanWord_45 : decode cX12_scanWord 45 = .ok (.i2l, 1) := by decide +kernel
theorem dX12_scanWord_46 : decode cX12_scanWord 46 = .ok (.ladd, 1) := by decide +kernel
theorem dX12_scanWord_47 : decode cX12_scanWord 47 = .ok (.ldc2_w 268, 3) := by decide +kernel
theorem dX12_scanWord_50 : decode cX12_scanWord 50 = .ok (.lsub, 1) := by decide +kernel
theorem dX12_scanWord_51 : decode cX12_scanWord 51 = .ok (.lstore_n 1, 1) := by decide +kernel
theorem dX12_scanWord_52 : decode cX12_scanWord 52 = .ok (.aload_n 0, 1) := by decide +kernel
theorem dX12_scanWord_53 : decode cX12_scanWord 53 = .ok (.dup, 1) := by decide +kernel
theorem dX12_scanWord_54 : decode cX12_scanWord 54 = .ok (.getfield 116, 3) := by decide +kernel
theorem dX12_scanWord_57 : decode cX12_scanWord 57 = .ok (.iconst 1, 1) := by decide +kernel
theorem dX12_scanWord_58 : decode cX12_scanWord 58 = .ok (.iadd, 1) := by decide +kernel
theorem dX12_scanWord_59 : decode cX12_scanWord 59 = .ok (.putfield 116, 3) := by decide +kernel
theorem dX12_scanWord_62 : decode cX12_scanWord 62 = .ok (.goto (-55), 3) := by decide +kernel
theorem dX12_scanWord_65 : decode cX12_scanWord 65 = .ok (.aload_n 0, 1) := by decide +kernel
theorem dX12_scanWord_66 : decode cX12_scanWord 66 = .ok (.getfield 116, 3) := by decide +kernel
theorem dX12_scanWord_69 : decode cX12_scanWord 69 = .ok (.aload_n 0, 1) := by decide +kernel
theorem dX12_scanWord_70 : decode cX12_scanWord 70 = .ok (.getfield 122, 3) := by decide +kernel
theorem dX12_scanWord_73 : decode cX12_scanWord 73 = .ok (.isub, 1) := by decide +kernel
theorem dX12_scanWord_74 : decode cX12_scanWord 74 = .ok (.bipush 10, 2) := by decide +kernel
theorem dX12_scanWord_76 : decode cX12_scanWord 76 = .ok (.if_icmp .le 8, 3) := by decide +kernel
theorem dX12_scanWord_79 : decode cX12_scanWord 79 = .ok (.aload_n 0, 1) := by decide +kernel
theorem dX12_scanWord_80 : decode cX12_scanWord 80 = .ok (.iconst 4, 1) := by decide +kernel
theorem dX12_scanWord_81 : decode cX12_scanWord 81 = .ok (.putfield 119, 3) := by decide +kernel
theorem dX12_scanWord_84 : decode cX12_scanWord 84 = .ok (.iconst 0, 1) := by decide +kernel
theorem dX12_scanWord_85 : decode cX12_scanWord 85 = .ok (.istore_n 3, 1) := by decide +kernel
theorem dX12_scanWord_86 : decode cX12_scanWord 86 = .ok (.iload_n 3, 1) := by decide +kernel
theorem dX12_scanWord_87 : decode cX12_scanWord 87 = .ok (.bipush 25, 2) := by decide +kernel
theorem dX12_scanWord_89 : decode cX12_scanWord 89 = .ok (.if_icmp .ge 25, 3) := by decide +kernel
theorem dX12_scanWord_92 : decode cX12_scanWord 92 = .ok (.aload_n 0, 1) := by decide +kernel
theorem dX12_scanWord_93 : decode cX12_scanWord 93 = .ok (.getfield 110, 3) := by decide +kernel
theorem dX12_scanWord_96 : decode cX12_scanWord 96 = .ok (.iload_n 3, 1) := by decide +kernel
theorem dX12_scanWord_97 : decode cX12_scanWord 97 = .ok (.laload, 1) := by decide +kernel
theorem dX12_scanWord_98 : decode cX12_scanWord 98 = .ok (.lload_n 1, 1) := by decide +kernel
theorem dX12_scanWord_99 : decode cX12_scanWord 99 = .ok (.lcmp, 1) := by decide +kernel
theorem dX12_scanWord_100 : decode cX12_scanWord 100 = .ok (.ifCond .ne 8, 3) := by decide +kernel
theorem dX12_scanWord_103 : decode cX12_scanWord 103 = .ok (.aload_n 0, 1) := by decide +kernel
theorem dX12_scanWord_104 : decode cX12_scanWord 104 = .ok (.iload_n 3, 1) := by decide +kernel
theorem dX12_scanWord_105 : decode cX12_scanWord 105 = .ok (.putfield 131, 3) := by decide +kernel
theorem dX12_scanWord_108 : decode cX12_scanWord 108 = .ok (.iinc 3 1, 3) := by decide +kernel
theorem dX12_scanWord_111 : decode cX12_scanWord 111 = .ok (.goto (-25), 3) := by decide +kernel
theorem dX12_scanWord_114 : decode cX12_scanWord 114 = .ok (.return_, 1) := by decide +kernel
theorem dX12_scanNumber_0 : decode cX12_scanNumber 0 = .ok (.aload_n 0, 1) := by decide +kernel
theorem dX12_scanNumber_1 : decode cX12_scanNumber 1 = .ok (.iconst 2, 1) := by decide +kernel
theorem dX12_scanNumber_2 : decode cX12_scanNumber 2 = .ok (.putfield 119, 3) := by decide +kernel
theorem dX12_scanNumber_5 : decode cX12_scanNumber 5 = .ok (.aload_n 0, 1) := by decide +kernel
theorem dX12_scanNumber_6 : decode cX12_scanNumber 6 = .ok (.iconst 0, 1) := by decide +kernel
theorem dX12_scanNumber_7 : decode cX12_scanNumber 7 = .ok (.putfield 125, 3) := by decide +kernel
theorem dX12_scanNumber_10 : decode cX12_scanNumber 10 = .ok (.aload_n 0, 1) := by decide +kernel
theorem dX12_scanNumber_11 : decode cX12_scanNumber 11 = .ok (.aload_n 0, 1) := by decide +kernel
theorem dX12_scanNumber_12 : decode cX12_scanNumber 12 = .ok (.getfield 116, 3) := by decide +kernel
theorem dX12_scanNumber_15 : decode cX12_scanNumber 15 = .ok (.invokevirtual 270, 3) := by decide +kernel
theorem dX12_scanNumber_18 : decode cX12_scanNumber 18 = .ok (.ifCond .eq 52, 3) := by decide +kernel
theorem dX12_scanNumber_21 : decode cX12_scanNumber 21 = .ok (.aload_n 0, 1) := by decide +kernel
theorem dX12_scanNumber_22 : decode cX12_scanNumber 22 = .ok (.getfield 116, 3) := by decide +kernel
theorem dX12_scanNumber_25 : decode cX12_scanNumber 25 = .ok (.aload_n 0, 1) := by decide +kernel
theorem dX12_scanNumber_26 : decode cX12_scanNumber 26 = .ok (.getfield 122, 3) := by decide +kernel
theorem dX12_scanNumber_29 : decode cX12_scanNumber 29 = .ok (.isub, 1) := by decide +kernel
theorem dX12_scanNumber_30 : decode cX12_scanNumber 30 = .ok (.iconst 5, 1) := by decide +kernel
theorem dX12_scanNumber_31 : decode cX12_scanNumber 31 = .ok (.if_icmp .ge 26, 3) := by decide +kernel
theorem dX12_scanNumber_34 : decode cX12_scanNumber 34 = .ok (.aload_n 0, 1) := by decide +kernel
theorem dX12_scanNumber_35 : decode cX12_scanNumber 35 = .ok (.bipush 10, 2) := by decide +kernel
theorem dX12_scanNumber_37 : decode cX12_scanNumber 37 = .ok (.aload_n 0, 1) := by decide +kernel
theorem dX12_scanNumber_38 : decode cX12_scanNumber 38 = .ok (.getfield 125, 3) := by decide +kernel
theorem dX12_scanNumber_41 : decode cX12_scanNumber 41 = .ok (.imul, 1) := by decide +kernel
theorem dX12_scanNumber_42 : decode cX12_scanNumber 42 = .ok (.aload_n 0, 1) := by decide +kernel
theorem dX12_scanNumber_43 : decode cX12_scanNumber 43 = .ok (.aload_n 0, 1) := by decide +kernel
theorem dX12_scanNumber_44 : decode cX12_scanNumber 44 = .ok (.getfield 116, 3) := by decide +kernel
theorem dX12_scanNumber_47 : decode cX12_scanNumber 47 = .ok (.invokevirtual 260, 3) := by decide +kernel
theorem dX12_scanNumber_50 : decode cX12_scanNumber 50 = .ok (.iadd, 1) := by decide +kernel
theorem dX12_scanNumber_51 : decode cX12_scanNumber 51 = .ok (.bipush 48, 2) := by decide +kernel
theorem dX12_scanNumber_53 : decode cX12_scanNumber 53 = .ok (.isub, 1) := by decide +kernel
theorem dX12_scanNumber_54 : decode cX12_scanNumber 54 = .ok (.putfield 125, 3) := by decide +kernel
theorem dX12_scanNumber_57 : decode cX12_scanNumber 57 = .ok (.aload_n 0, 1) := by decide +kernel
theorem dX12_scanNumber_58 : decode cX12_scanNumber 58 = .ok (.dup, 1) := by decide +kernel
theorem dX12_scanNumber_59 : decode cX12_scanNumber 59 = .ok (.getfield 116, 3) := by decide +kernel
theorem dX12_scanNumber_62 : decode cX12_scanNumber 62 = .ok (.iconst 1, 1) := by decide +kernel
theorem dX12_scanNumber_63 : decode cX12_scanNumber 63 = .ok (.iadd, 1) := by decide +kernel
theorem dX12_scanNumber_64 : decode cX12_scanNumber 64 = .ok (.putfield 116, 3) := by decide +kernel
theorem dX12_scanNumber_67 : decode cX12_scanNumber 67 = .ok (.goto (-57), 3) := by decide +kernel
theorem dX12_scanNumber_70 : decode cX12_scanNumber 70 = .ok (.aload_n 0, 1) := by decide +kernel
theorem dX12_scanNumber_71 : decode cX12_scanNumber 71 = .ok (.getfield 116, 3) := by decide +kernel
theorem dX12_scanNumber_74 : decode cX12_scanNumber 74 = .ok (.aload_n 0, 1) := by decide +kernel
theorem dX12_scanNumber_75 : decode cX12_scanNumber 75 = .ok (.getfield 122, 3) := by decide +kernel
theorem dX12_scanNumber_78 : decode cX12_scanNumber 78 = .ok (.isub, 1) := by decide +kernel
theorem dX12_scanNumber_79 : decode cX12_scanNumber 79 = .ok (.iconst 5, 1) := by decide +kernel
theorem dX12_scanNumber_80 : decode cX12_scanNumber 80 = .ok (.if_icmp .le 8, 3) := by decide +kernel
theorem dX12_scanNumber_83 : decode cX12_scanNumber 83 = .ok (.aload_n 0, 1) := by decide +kernel
theorem dX12_scanNumber_84 : decode cX12_scanNumber 84 = .ok (.iconst 4, 1) := by decide +kernel
theorem dX12_scanNumber_85 : decode cX12_scanNumber 85 = .ok (.putfield 119, 3) := by decide +kernel
theorem dX12_scanNumber_88 : decode cX12_scanNumber 88 = .ok (.return_, 1) := by decide +kernel
theorem dX12_next_0 : decode cX12_next 0 = .ok (.aload_n 0, 1) := by decide +kernel
theorem dX12_next_1 : decode cX12_next 1 = .ok (.aload_n 0, 1) := by decide +kernel
theorem dX12_next_2 : decode cX12_next 2 = .ok (.getfield 116, 3) := by decide +kernel
theorem dX12_next_5 : decode cX12_next 5 = .ok (.invokevirtual 260, 3) := by decide +kernel
theorem dX12_next_8 : decode cX12_next 8 = .ok (.bipush 32, 2) := by decide +kernel
theorem dX12_next_10 : decode cX12_next 10 = .ok (.if_icmp .eq 16, 3) := by decide +kernel
theorem dX12_next_13 : decode cX12_next 13 = .ok (.aload_n 0, 1) := by decide +kernel
theorem dX12_next_14 : decode cX12_next 14 = .ok (.aload_n 0, 1) := by decide +kernel
theorem dX12_next_15 : decode cX12_next 15 = .ok (.getfield 116, 3) := by decide +kernel
theorem dX12_next_18 : decode cX12_next 18 = .ok (.invokevirtual 260, 3) := by decide +kernel
theorem dX12_next_21 : decode cX12_next 21 = .ok (.bipush 10, 2) := by decide +kernel
theorem dX12_next_23 : decode cX12_next 23 = .ok (.if_icmp .ne 16, 3) := by decide +kernel
theorem dX12_next_26 : decode cX12_next 26 = .ok (.aload_n 0, 1) := by decide +kernel
theorem dX12_next_27 : decode cX12_next 27 = .ok (.dup, 1) := by decide +kernel
theorem dX12_next_28 : decode cX12_next 28 = .ok (.getfield 116, 3) := by decide +kernel
theorem dX12_next_31 : decode cX12_next 31 = .ok (.iconst 1, 1) := by decide +kernel
theorem dX12_next_32 : decode cX12_next 32 = .ok (.iadd, 1) := by decide +kernel
theorem dX12_next_33 : decode cX12_next 33 = .ok (.putfield 116, 3) := by decide +kernel
theorem dX12_next_36 : decode cX12_next 36 = .ok (.goto (-36), 3) := by decide +kernel
theorem dX12_next_39 : decode cX12_next 39 = .ok (.aload_n 0, 1) := by decide +kernel
theorem dX12_next_40 : decode cX12_next 40 = .ok (.aload_n 0, 1) := by decide +kernel
theorem dX12_next_41 : decode cX12_next 41 = .ok (.getfield 116, 3) := by decide +kernel
theorem dX12_next_44 : decode cX12_next 44 = .ok (.putfield 122, 3) := by decide +kernel
theorem dX12_next_47 : decode cX12_next 47 = .ok (.aload_n 0, 1) := by decide +kernel
theorem dX12_next_48 : decode cX12_next 48 = .ok (.iconst (-1), 1) := by decide +kernel
theorem dX12_next_49 : decode cX12_next 49 = .ok (.putfield 131, 3) := by decide +kernel
theorem dX12_next_52 : decode cX12_next 52 = .ok (.aload_n 0, 1) := by decide +kernel
theorem dX12_next_53 : decode cX12_next 53 = .ok (.aload_n 0, 1) := by decide +kernel
theorem dX12_next_54 : decode cX12_next 54 = .ok (.getfield 116, 3) := by decide +kernel
theorem dX12_next_57 : decode cX12_next 57 = .ok (.invokevirtual 260, 3) := by decide +kernel
theorem dX12_next_60 : decode cX12_next 60 = .ok (.ifCond .ge 11, 3) := by decide +kernel
theorem dX12_next_63 : decode cX12_next 63 = .ok (.aload_n 0, 1) := by decide +kernel
theorem dX12_next_64 : decode cX12_next 64 = .ok (.iconst 0, 1) := by decide +kernel
theorem dX12_next_65 : decode cX12_next 65 = .ok (.putfield 119, 3) := by decide +kernel
theorem dX12_next_68 : decode cX12_next 68 = .ok (.goto 66, 3) := by decide +kernel
theorem dX12_next_71 : decode cX12_next 71 = .ok (.aload_n 0, 1) := by decide +kernel
theorem dX12_next_72 : decode cX12_next 72 = .ok (.aload_n 0, 1) := by decide +kernel
theorem dX12_next_73 : decode cX12_next 73 = .ok (.getfield 116, 3) := by decide +kernel
theorem dX12_next_76 : decode cX12_next 76 = .ok (.invokevirtual 263, 3) := by decide +kernel
theorem dX12_next_79 : decode cX12_next 79 = .ok (.ifCond .eq 10, 3) := by decide +kernel
theorem dX12_next_82 : decode cX12_next 82 = .ok (.aload_n 0, 1) := by decide +kernel
theorem dX12_next_83 : decode cX12_next 83 = .ok (.invokevirtual 273, 3) := by decide +kernel
theorem dX12_next_86 : decode cX12_next 86 = .ok (.goto 48, 3) := by decide +kernel
theorem dX12_next_89 : decode cX12_next 89 = .ok (.aload_n 0, 1) := by decide +kernel
theorem dX12_next_90 : decode cX12_next 90 = .ok (.aload_n 0, 1) := by decide +kernel
theorem dX12_next_91 : decode cX12_next 91 = .ok (.getfield 116, 3) := by decide +kernel
theorem dX12_next_94 : decode cX12_next 94 = .ok (.invokevirtual 270, 3) := by decide +kernel
theorem dX12_next_97 : decode cX12_next 97 = .ok (.ifCond .eq 10, 3) := by decide +kernel
theorem dX12_next_100 : decode cX12_next 100 = .ok (.aload_n 0, 1) := by decide +kernel
theorem dX12_next_101 : decode cX12_next 101 = .ok (.invokevirtual 276, 3) := by decide +kernel
theorem dX12_next_104 : decode cX12_next 104 = .ok (.goto 30, 3) := by decide +kernel
theorem dX12_next_107 : decode cX12_next 107 = .ok (.aload_n 0, 1) := by decide +kernel
theorem dX12_next_108 : decode cX12_next 108 = .ok (.iconst 3, 1) := by decide +kernel
theorem dX12_next_109 : decode cX12_next 109 = .ok (.putfield 119, 3) := by decide +kernel
theorem dX12_next_112 : decode cX12_next 112 = .ok (.aload_n 0, 1) := by decide +kernel
theorem dX12_next_113 : decode cX12_next 113 = .ok (.aload_n 0, 1) := by decide +kernel
theorem dX12_next_114 : decode cX12_next 114 = .ok (.aload_n 0, 1) := by decide +kernel
theorem dX12_next_115 : decode cX12_next 115 = .ok (.getfield 116, 3) := by decide +kernel
theorem dX12_next_118 : decode cX12_next 118 = .ok (.invokevirtual 260, 3) := by decide +kernel
theorem dX12_next_121 : decode cX12_next 121 = .ok (.putfield 128, 3) := by decide +kernel
theorem dX12_next_124 : decode cX12_next 124 = .ok (.aload_n 0, 1) := by decide +kernel
theorem dX12_next_125 : decode cX12_next 125 = .ok (.dup, 1) := by decide +kernel
theorem dX12_next_126 : decode cX12_next 126 = .ok (.getfield 116, 3) := by decide +kernel
theorem dX12_next_129 : decode cX12_next 129 = .ok (.iconst 1, 1) := by decide +kernel
theorem dX12_next_130 : decode cX12_next 130 = .ok (.iadd, 1) := by decide +kernel
theorem dX12_next_131 : decode cX12_next 131 = .ok (.putfield 116, 3) := by decide +kernel
theorem dX12_next_134 : decode cX12_next 134 = .ok (.return_, 1) := by decide +kernel
theorem dX12_ok_0 : decode cX12_ok 0 = .ok (.aload_n 0, 1) := by decide +kernel
theorem dX12_ok_1 : decode cX12_ok 1 = .ok (.getfield 134, 3) := by decide +kernel
theorem dX12_ok_4 : decode cX12_ok 4 = .ok (.ifCond .ne 7, 3) := by decide +kernel
theorem dX12_ok_7 : decode cX12_ok 7 = .ok (.iconst 1, 1) := by decide +kernel
theorem dX12_ok_8 : decode cX12_ok 8 = .ok (.goto 4, 3) := by decide +kernel
theorem dX12_ok_11 : decode cX12_ok 11 = .ok (.iconst 0, 1) := by decide +kernel
theorem dX12_ok_12 : decode cX12_ok 12 = .ok (.ireturn, 1) := by decide +kernel
theorem dX12_fail_0 : decode cX12_fail 0 = .ok (.aload_n 0, 1) := by decide +kernel
theorem dX12_fail_1 : decode cX12_fail 1 = .ok (.getfield 134, 3) := by decide +kernel
theorem dX12_fail_4 : decode cX12_fail 4 = .ok (.ifCond .eq 4, 3) := by decide +kernel
theorem dX12_fail_7 : decode cX12_fail 7 = .ok (.return_, 1) := by decide +kernel
theorem dX12_fail_8 : decode cX12_fail 8 = .ok (.aload_n 0, 1) := by decide +kernel
theorem dX12_fail_9 : decode cX12_fail 9 = .ok (.iload_n 1, 1) := by decide +kernel
theorem dX12_fail_10 : decode cX12_fail 10 = .ok (.putfield 134, 3) := by decide +kernel
theorem dX12_fail_13 : decode cX12_fail 13 = .ok (.aload_n 0, 1) := by decide +kernel
theorem dX12_fail_14 : decode cX12_fail 14 = .ok (.aload_n 0, 1) := by decide +kernel
theorem dX12_fail_15 : decode cX12_fail 15 = .ok (.getfield 122, 3) := by decide +kernel
theorem dX12_fail_18 : decode cX12_fail 18 = .ok (.putfield 137, 3) := by decide +kernel
theorem dX12_fail_21 : decode cX12_fail 21 = .ok (.return_, 1) := by decide +kernel
theorem dX12_isKeyword_0 : decode cX12_isKeyword 0 = .ok (.aload_n 0, 1) := by decide +kernel
theorem dX12_isKeyword_1 : decode cX12_isKeyword 1 = .ok (.getfield 119, 3) := by decide +kernel
theorem dX12_isKeyword_4 : decode cX12_isKeyword 4 = .ok (.iconst 1, 1) := by decide +kernel
theorem dX12_isKeyword_5 : decode cX12_isKeyword 5 = .ok (.if_icmp .ne 15, 3) := by decide +kernel
theorem dX12_isKeyword_8 : decode cX12_isKeyword 8 = .ok (.aload_n 0, 1) := by decide +kernel
theorem dX12_isKeyword_9 : decode cX12_isKeyword 9 = .ok (.getfield 131, 3) := by decide +kernel
theorem dX12_isKeyword_12 : decode cX12_isKeyword 12 = .ok (.iload_n 1, 1) := by decide +kernel
theorem dX12_isKeyword_13 : decode cX12_isKeyword 13 = .ok (.if_icmp .ne 7, 3) := by decide +kernel
theorem dX12_isKeyword_16 : decode cX12_isKeyword 16 = .ok (.iconst 1, 1) := by decide +kernel
theorem dX12_isKeyword_17 : decode cX12_isKeyword 17 = .ok (.goto 4, 3) := by decide +kernel
theorem dX12_isKeyword_20 : decode cX12_isKeyword 20 = .ok (.iconst 0, 1) := by decide +kernel
theorem dX12_isKeyword_21 : decode cX12_isKeyword 21 = .ok (.ireturn, 1) := by decide +kernel
theorem dX12_isSign_0 : decode cX12_isSign 0 = .ok (.aload_n 0, 1) := by decide +kernel
theorem dX12_isSign_1 : decode cX12_isSign 1 = .ok (.getfield 119, 3) := by decide +kernel
theorem dX12_isSign_4 : decode cX12_isSign 4 = .ok (.iconst 3, 1) := by decide +kernel
theorem dX12_isSign_5 : decode cX12_isSign 5 = .ok (.if_icmp .ne 15, 3) := by decide +kernel
theorem dX12_isSign_8 : decode cX12_isSign 8 = .ok (.aload_n 0, 1) := by decide +kernel
theorem dX12_isSign_9 : decode cX12_isSign 9 = .ok (.getfield 128, 3) := by decide +kernel
theorem dX12_isSign_12 : decode cX12_isSign 12 = .ok (.iload_n 1, 1) := by decide +kernel
theorem dX12_isSign_13 : decode cX12_isSign 13 = .ok (.if_icmp .ne 7, 3) := by decide +kernel
theorem dX12_isSign_16 : decode cX12_isSign 16 = .ok (.iconst 1, 1) := by decide +kernel
theorem dX12_isSign_17 : decode cX12_isSign 17 = .ok (.goto 4, 3) := by decide +kernel
theorem dX12_isSign_20 : decode cX12_isSign 20 = .ok (.iconst 0, 1) := by decide +kernel
theorem dX12_isSign_21 : decode cX12_isSign 21 = .ok (.ireturn, 1) := by decide +kernel
theorem dX12_accepts_0 : decode cX12_accepts 0 = .ok (.aload_n 0, 1) := by decide +kernel
theorem dX12_accepts_1 : decode cX12_accepts 1 = .ok (.invokevirtual 279, 3) := by decide +kernel
theorem dX12_accepts_4 : decode cX12_accepts 4 = .ok (.ifCond .eq 15, 3) := by decide +kernel
theorem dX12_accepts_7 : decode cX12_accepts 7 = .ok (.aload_n 0, 1) := by decide +kernel
theorem dX12_accepts_8 : decode cX12_accepts 8 = .ok (.iload_n 1, 1) := by decide +kernel
theorem dX12_accepts_9 : decode cX12_accepts 9 = .ok (.invokevirtual 283, 3) := by decide +kernel
theorem dX12_accepts_12 : decode cX12_accepts 12 = .ok (.ifCond .eq 7, 3) := by decide +kernel
theorem dX12_accepts_15 : decode cX12_accepts 15 = .ok (.iconst 1, 1) := by decide +kernel
theorem dX12_accepts_16 : decode cX12_accepts 16 = .ok (.goto 4, 3) := by decide +kernel
theorem dX12_accepts_19 : decode cX12_accepts 19 = .ok (.iconst 0, 1) := by decide +kernel
theorem dX12_accepts_20 : decode cX12_accepts 20 = .ok (.istore_n 2, 1) := by decide +kernel
theorem dX12_accepts_21 : decode cX12_accepts 21 = .ok (.iload_n 2, 1) := by decide +kernel
theorem dX12_accepts_22 : decode cX12_accepts 22 = .ok (.ifCond .eq 7, 3) := by decide +kernel
theorem dX12_accepts_25 : decode cX12_accepts 25 = .ok (.aload_n 0, 1) := by decide +kernel
theorem dX12_accepts_26 : decode cX12_accepts 26 = .ok (.invokevirtual 286, 3) := by decide +kernel
theorem dX12_accepts_29 : decode cX12_accepts 29 = .ok (.iload_n 2, 1) := by decide +kernel
theorem dX12_accepts_30 : decode cX12_accepts 30 = .ok (.ireturn, 1) := by decide +kernel
theorem dX12_require_0 : decode cX12_require 0 = .ok (.aload_n 0, 1) := by decide +kernel
theorem dX12_require_1 : decode cX12_require 1 = .ok (.invokevirtual 279, 3) := by decide +kernel
theorem dX12_require_4 : decode cX12_require 4 = .ok (.ifCond .eq 16, 3) := by decide +kernel
theorem dX12_require_7 : decode cX12_require 7 = .ok (.aload_n 0, 1) := by decide +kernel
theorem dX12_require_8 : decode cX12_require 8 = .ok (.iload_n 1, 1) := by decide +kernel
theorem dX12_require_9 : decode cX12_require 9 = .ok (.invokevirtual 289, 3) := by decide +kernel
theorem dX12_require_12 : decode cX12_require 12 = .ok (.ifCond .ne 8, 3) := by decide +kernel
theorem dX12_require_15 : decode cX12_require 15 = .ok (.aload_n 0, 1) := by decide +kernel
theorem dX12_require_16 : decode cX12_require 16 = .ok (.iconst 1, 1) := by decide +kernel
theorem dX12_require_17 : decode cX12_require 17 = .ok (.invokevirtual 292, 3) := by decide +kernel
theorem dX12_require_20 : decode cX12_require 20 = .ok (.return_, 1) := by decide +kernel
theorem dX12_readNumber_0 : decode cX12_readNumber 0 = .ok (.aload_n 0, 1) := by decide +kernel
theorem dX12_readNumber_1 : decode cX12_readNumber 1 = .ok (.invokevirtual 279, 3) := by decide +kernel
theorem dX12_readNumber_4 : decode cX12_readNumber 4 = .ok (.ifCond .ne 5, 3) := by decide +kernel
theorem dX12_readNumber_7 : decode cX12_readNumber 7 = .ok (.iload_n 1, 1) := by decide +kernel
theorem dX12_readNumber_8 : decode cX12_readNumber 8 = .ok (.ireturn, 1) := by decide +kernel
theorem dX12_readNumber_9 : decode cX12_readNumber 9 = .ok (.aload_n 0, 1) := by decide +kernel
theorem dX12_readNumber_10 : decode cX12_readNumber 10 = .ok (.getfield 119, 3) := by decide +kernel
theorem dX12_readNumber_13 : decode cX12_readNumber 13 = .ok (.iconst 2, 1) := by decide +kernel
theorem dX12_readNumber_14 : decode cX12_readNumber 14 = .ok (.if_icmp .eq 11, 3) := by decide +kernel
theorem dX12_readNumber_17 : decode cX12_readNumber 17 = .ok (.aload_n 0, 1) := by decide +kernel
theorem dX12_readNumber_18 : decode cX12_readNumber 18 = .ok (.iconst 1, 1) := by decide +kernel
theorem dX12_readNumber_19 : decode cX12_readNumber 19 = .ok (.invokevirtual 292, 3) := by decide +kernel
theorem dX12_readNumber_22 : decode cX12_readNumber 22 = .ok (.goto 20, 3) := by decide +kernel
theorem dX12_readNumber_25 : decode cX12_readNumber 25 = .ok (.aload_n 0, 1) := by decide +kernel
theorem dX12_readNumber_26 : decode cX12_readNumber 26 = .ok (.getfield 125, 3) := by decide +kernel
theorem dX12_readNumber_29 : decode cX12_readNumber 29 = .ok (.iload_n 1, 1) := by decide +kernel
theorem dX12_readNumber_30 : decode cX12_readNumber 30 = .ok (.iload_n 2, 1) := by decide +kernel
theorem dX12_readNumber_31 : decode cX12_readNumber 31 = .ok (.invokestatic 22, 3) := by decide +kernel
theorem dX12_readNumber_34 : decode cX12_readNumber 34 = .ok (.ifCond .ne 8, 3) := by decide +kernel
theorem dX12_readNumber_37 : decode cX12_readNumber 37 = .ok (.aload_n 0, 1) := by decide +kernel
theorem dX12_readNumber_38 : decode cX12_readNumber 38 = .ok (.iconst 2, 1) := by decide +kernel
theorem dX12_readNumber_39 : decode cX12_readNumber 39 = .ok (.invokevirtual 292, 3) := by decide +kernel
theorem dX12_readNumber_42 : decode cX12_readNumber 42 = .ok (.aload_n 0, 1) := by decide +kernel
theorem dX12_readNumber_43 : decode cX12_readNumber 43 = .ok (.getfield 125, 3) := by decide +kernel
theorem dX12_readNumber_46 : decode cX12_readNumber 46 = .ok (.istore_n 3, 1) := by decide +kernel
theorem dX12_readNumber_47 : decode cX12_readNumber 47 = .ok (.aload_n 0, 1) := by decide +kernel
theorem dX12_readNumber_48 : decode cX12_readNumber 48 = .ok (.invokevirtual 279, 3) := by decide +kernel
theorem dX12_readNumber_51 : decode cX12_readNumber 51 = .ok (.ifCond .eq 7, 3) := by decide +kernel
theorem dX12_readNumber_54 : decode cX12_readNumber 54 = .ok (.aload_n 0, 1) := by decide +kernel
theorem dX12_readNumber_55 : decode cX12_readNumber 55 = .ok (.invokevirtual 286, 3) := by decide +kernel
theorem dX12_readNumber_58 : decode cX12_readNumber 58 = .ok (.aload_n 0, 1) := by decide +kernel
theorem dX12_readNumber_59 : decode cX12_readNumber 59 = .ok (.invokevirtual 279, 3) := by decide +kernel
theorem dX12_readNumber_62 : decode cX12_readNumber 62 = .ok (.ifCond .eq 7, 3) := by decide +kernel
theorem dX12_readNumber_65 : decode cX12_readNumber 65 = .ok (.iload_n 3, 1) := by decide +kernel
theorem dX12_readNumber_66 : decode cX12_readNumber 66 = .ok (.goto 4, 3) := by decide +kernel
theorem dX12_readNumber_69 : decode cX12_readNumber 69 = .ok (.iload_n 1, 1) := by decide +kernel
theorem dX12_readNumber_70 : decode cX12_readNumber 70 = .ok (.ireturn, 1) := by decide +kernel
theorem dX12_readSigned_0 : decode cX12_readSigned 0 = .ok (.aload_n 0, 1) := by decide +kernel
theorem dX12_readSigned_1 : decode cX12_readSigned 1 = .ok (.invokevirtual 279, 3) := by decide +kernel
theorem dX12_readSigned_4 : decode cX12_readSigned 4 = .ok (.ifCond .eq 16, 3) := by decide +kernel
theorem dX12_readSigned_7 : decode cX12_readSigned 7 = .ok (.aload_n 0, 1) := by decide +kernel
theorem dX12_readSigned_8 : decode cX12_readSigned 8 = .ok (.bipush 45, 2) := by decide +kernel
theorem dX12_readSigned_10 : decode cX12_readSigned 10 = .ok (.invokevirtual 295, 3) := by decide +kernel
theorem dX12_readSigned_13 : decode cX12_readSigned 13 = .ok (.ifCond .eq 7, 3) := by decide +kernel
theorem dX12_readSigned_16 : decode cX12_readSigned 16 = .ok (.iconst 1, 1) := by decide +kernel
theorem dX12_readSigned_17 : decode cX12_readSigned 17 = .ok (.goto 4, 3) := by decide +kernel
theorem dX12_readSigned_20 : decode cX12_readSigned 20 = .ok (.iconst 0, 1) := by decide +kernel
theorem dX12_readSigned_21 : decode cX12_readSigned 21 = .ok (.istore_n 2, 1) := by decide +kernel
theorem dX12_readSigned_22 : decode cX12_readSigned 22 = .ok (.iload_n 2, 1) := by decide +kernel
theorem dX12_readSigned_23 : decode cX12_readSigned 23 = .ok (.ifCond .eq 7, 3) := by decide +kernel
theorem dX12_readSigned_26 : decode cX12_readSigned 26 = .ok (.aload_n 0, 1) := by decide +kernel
theorem dX12_readSigned_27 : decode cX12_readSigned 27 = .ok (.invokevirtual 286, 3) := by decide +kernel
theorem dX12_readSigned_30 : decode cX12_readSigned 30 = .ok (.aload_n 0, 1) := by decide +kernel
theorem dX12_readSigned_31 : decode cX12_readSigned 31 = .ok (.iconst 0, 1) := by decide +kernel
theorem dX12_readSigned_32 : decode cX12_readSigned 32 = .ok (.iload_n 1, 1) := by decide +kernel
theorem dX12_readSigned_33 : decode cX12_readSigned 33 = .ok (.invokevirtual 298, 3) := by decide +kernel
theorem dX12_readSigned_36 : decode cX12_readSigned 36 = .ok (.istore_n 3, 1) := by decide +kernel
theorem dX12_readSigned_37 : decode cX12_readSigned 37 = .ok (.iload_n 2, 1) := by decide +kernel
theorem dX12_readSigned_38 : decode cX12_readSigned 38 = .ok (.ifCond .eq 8, 3) := by decide +kernel
theorem dX12_readSigned_41 : decode cX12_readSigned 41 = .ok (.iload_n 3, 1) := by decide +kernel
theorem dX12_readSigned_42 : decode cX12_readSigned 42 = .ok (.ineg, 1) := by decide +kernel
theorem dX12_readSigned_43 : decode cX12_readSigned 43 = .ok (.goto 4, 3) := by decide +kernel
theorem dX12_readSigned_46 : decode cX12_readSigned 46 = .ok (.iload_n 3, 1) := by decide +kernel
theorem dX12_readSigned_47 : decode cX12_readSigned 47 = .ok (.ireturn, 1) := by decide +kernel
theorem dX12_errorCode_0 : decode cX12_errorCode 0 = .ok (.aload_n 0, 1) := by decide +kernel
theorem dX12_errorCode_1 : decode cX12_errorCode 1 = .ok (.iconst 0, 1) := by decide +kernel
theorem dX12_errorCode_2 : decode cX12_errorCode 2 = .ok (.putfield 1, 3) := by decide +kernel
theorem dX12_errorCode_5 : decode cX12_errorCode 5 = .ok (.aload_n 0, 1) := by decide +kernel
theorem dX12_errorCode_6 : decode cX12_errorCode 6 = .ok (.getfield 134, 3) := by decide +kernel
theorem dX12_errorCode_9 : decode cX12_errorCode 9 = .ok (.ireturn, 1) := by decide +kernel
theorem dX12_errorPosition_0 : decode cX12_errorPosition 0 = .ok (.aload_n 0, 1) := by decide +kernel
theorem dX12_errorPosition_1 : decode cX12_errorPosition 1 = .ok (.iconst 0, 1) := by decide +kernel
theorem dX12_errorPosition_2 : decode cX12_errorPosition 2 = .ok (.putfield 1, 3) := by decide +kernel
theorem dX12_errorPosition_5 : decode cX12_errorPosition 5 = .ok (.aload_n 0, 1) := by decide +kernel
theorem dX12_errorPosition_6 : decode cX12_errorPosition 6 = .ok (.getfield 137, 3) := by decide +kernel
theorem dX12_errorPosition_9 : decode cX12_errorPosition 9 = .ok (.ireturn, 1) := by decide +kernel
theorem dX12_drafts_0 : decode cX12_drafts 0 = .ok (.bipush 52, 2) := by decide +kernel
theorem dX12_drafts_2 : decode cX12_drafts 2 = .ok (.iload_n 0, 1) := by decide +kernel
theorem dX12_drafts_3 : decode cX12_drafts 3 = .ok (.iadd, 1) := by decide +kernel
theorem dX12_drafts_4 : decode cX12_drafts 4 = .ok (.ireturn, 1) := by decide +kernel
theorem dX12_readOnce_0 : decode cX12_readOnce 0 = .ok (.aload_n 0, 1) := by decide +kernel
theorem dX12_readOnce_1 : decode cX12_readOnce 1 = .ok (.invokevirtual 279, 3) := by decide +kernel
theorem dX12_readOnce_4 : decode cX12_readOnce 4 = .ok (.ifCond .ne 5, 3) := by decide +kernel
theorem dX12_readOnce_7 : decode cX12_readOnce 7 = .ok (.iconst 0, 1) := by decide +kernel
theorem dX12_readOnce_8 : decode cX12_readOnce 8 = .ok (.ireturn, 1) := by decide +kernel
theorem dX12_readOnce_9 : decode cX12_readOnce 9 = .ok (.aload_n 0, 1) := by decide +kernel
theorem dX12_readOnce_10 : decode cX12_readOnce 10 = .ok (.getfield 119, 3) := by decide +kernel
theorem dX12_readOnce_13 : decode cX12_readOnce 13 = .ok (.iconst 2, 1) := by decide +kernel
theorem dX12_readOnce_14 : decode cX12_readOnce 14 = .ok (.if_icmp .ne 20, 3) := by decide +kernel
theorem dX12_readOnce_17 : decode cX12_readOnce 17 = .ok (.aload_n 0, 1) := by decide +kernel
theorem dX12_readOnce_18 : decode cX12_readOnce 18 = .ok (.getfield 125, 3) := by decide +kernel
theorem dX12_readOnce_21 : decode cX12_readOnce 21 = .ok (.iload_n 1, 1) := by decide +kernel
theorem dX12_readOnce_22 : decode cX12_readOnce 22 = .ok (.if_icmp .gt 12, 3) := by decide +kernel
theorem dX12_readOnce_25 : decode cX12_readOnce 25 = .ok (.iload_n 2, 1) := by decide +kernel
theorem dX12_readOnce_26 : decode cX12_readOnce 26 = .ok (.ifCond .eq 8, 3) := by decide +kernel
theorem dX12_readOnce_29 : decode cX12_readOnce 29 = .ok (.aload_n 0, 1) := by decide +kernel
theorem dX12_readOnce_30 : decode cX12_readOnce 30 = .ok (.iconst 3, 1) := by decide +kernel
theorem dX12_readOnce_31 : decode cX12_readOnce 31 = .ok (.invokevirtual 292, 3) := by decide +kernel
theorem dX12_readOnce_34 : decode cX12_readOnce 34 = .ok (.aload_n 0, 1) := by decide +kernel
theorem dX12_readOnce_35 : decode cX12_readOnce 35 = .ok (.iconst 0, 1) := by decide +kernel
theorem dX12_readOnce_36 : decode cX12_readOnce 36 = .ok (.iload_n 1, 1) := by decide +kernel
theorem dX12_readOnce_37 : decode cX12_readOnce 37 = .ok (.invokevirtual 298, 3) := by decide +kernel
theorem dX12_readOnce_40 : decode cX12_readOnce 40 = .ok (.ireturn, 1) := by decide +kernel
theorem dX12_isThere_0 : decode cX12_isThere 0 = .ok (.aload_n 0, 1) := by decide +kernel
theorem dX12_isThere_1 : decode cX12_isThere 1 = .ok (.getfield 119, 3) := by decide +kernel
theorem dX12_isThere_4 : decode cX12_isThere 4 = .ok (.iconst 2, 1) := by decide +kernel
theorem dX12_isThere_5 : decode cX12_isThere 5 = .ok (.if_icmp .ne 25, 3) := by decide +kernel
theorem dX12_isThere_8 : decode cX12_isThere 8 = .ok (.aload_n 0, 1) := by decide +kernel
theorem dX12_isThere_9 : decode cX12_isThere 9 = .ok (.getfield 125, 3) := by decide +kernel
theorem dX12_isThere_12 : decode cX12_isThere 12 = .ok (.aload_n 1, 1) := by decide +kernel
theorem dX12_isThere_13 : decode cX12_isThere 13 = .ok (.arraylength, 1) := by decide +kernel
theorem dX12_isThere_14 : decode cX12_isThere 14 = .ok (.if_icmp .ge 16, 3) := by decide +kernel
theorem dX12_isThere_17 : decode cX12_isThere 17 = .ok (.aload_n 1, 1) := by decide +kernel
theorem dX12_isThere_18 : decode cX12_isThere 18 = .ok (.aload_n 0, 1) := by decide +kernel
theorem dX12_isThere_19 : decode cX12_isThere 19 = .ok (.getfield 125, 3) := by decide +kernel
theorem dX12_isThere_22 : decode cX12_isThere 22 = .ok (.baload, 1) := by decide +kernel
theorem dX12_isThere_23 : decode cX12_isThere 23 = .ok (.ifCond .eq 7, 3) := by decide +kernel
theorem dX12_isThere_26 : decode cX12_isThere 26 = .ok (.iconst 1, 1) := by decide +kernel
theorem dX12_isThere_27 : decode cX12_isThere 27 = .ok (.goto 4, 3) := by decide +kernel
theorem dX12_isThere_30 : decode cX12_isThere 30 = .ok (.iconst 0, 1) := by decide +kernel
theorem dX12_isThere_31 : decode cX12_isThere 31 = .ok (.ireturn, 1) := by decide +kernel
theorem dX12_parseChannel_0 : decode cX12_parseChannel 0 = .ok (.aload_n 0, 1) := by decide +kernel
theorem dX12_parseChannel_1 : decode cX12_parseChannel 1 = .ok (.bipush 7, 2) := by decide +kernel
theorem dX12_parseChannel_3 : decode cX12_parseChannel 3 = .ok (.aload_n 0, 1) := by decide +kernel
theorem dX12_parseChannel_4 : decode cX12_parseChannel 4 = .ok (.aload_n 0, 1) := by decide +kernel
theorem dX12_parseChannel_5 : decode cX12_parseChannel 5 = .ok (.getfield 143, 3) := by decide +kernel
theorem dX12_parseChannel_8 : decode cX12_parseChannel 8 = .ok (.invokevirtual 301, 3) := by decide +kernel
theorem dX12_parseChannel_11 : decode cX12_parseChannel 11 = .ok (.invokevirtual 305, 3) := by decide +kernel
theorem dX12_parseChannel_14 : decode cX12_parseChannel 14 = .ok (.istore_n 1, 1) := by decide +kernel
theorem dX12_parseChannel_15 : decode cX12_parseChannel 15 = .ok (.aload_n 0, 1) := by decide +kernel
theorem dX12_parseChannel_16 : decode cX12_parseChannel 16 = .ok (.invokevirtual 279, 3) := by decide +kernel
theorem dX12_parseChannel_19 : decode cX12_parseChannel 19 = .ok (.ifCond .ne 4, 3) := by decide +kernel
theorem dX12_parseChannel_22 : decode cX12_parseChannel 22 = .ok (.return_, 1) := by decide +kernel
theorem dX12_parseChannel_23 : decode cX12_parseChannel 23 = .ok (.aload_n 0, 1) := by decide +kernel
theorem dX12_parseChannel_24 : decode cX12_parseChannel 24 = .ok (.getfield 143, 3) := by decide +kernel
theorem dX12_parseChannel_27 : decode cX12_parseChannel 27 = .ok (.iload_n 1, 1) := by decide +kernel
theorem dX12_parseChannel_28 : decode cX12_parseChannel 28 = .ok (.iconst 1, 1) := by decide +kernel
theorem dX12_parseChannel_29 : decode cX12_parseChannel 29 = .ok (.bastore, 1) := by decide +kernel
theorem dX12_parseChannel_30 : decode cX12_parseChannel 30 = .ok (.iconst 0, 1) := by decide +kernel
theorem dX12_parseChannel_31 : decode cX12_parseChannel 31 = .ok (.istore_n 2, 1) := by decide +kernel
theorem dX12_parseChannel_32 : decode cX12_parseChannel 32 = .ok (.sipush 1888, 3) := by decide +kernel
theorem dX12_parseChannel_35 : decode cX12_parseChannel 35 = .ok (.istore_n 3, 1) := by decide +kernel
theorem dX12_parseChannel_36 : decode cX12_parseChannel 36 = .ok (.aload_n 0, 1) := by decide +kernel
theorem dX12_parseChannel_37 : decode cX12_parseChannel 37 = .ok (.invokevirtual 279, 3) := by decide +kernel
theorem dX12_parseChannel_40 : decode cX12_parseChannel 40 = .ok (.ifCond .eq 196, 3) := by decide +kernel
theorem dX12_parseChannel_43 : decode cX12_parseChannel 43 = .ok (.aload_n 0, 1) := by decide +kernel
theorem dX12_parseChannel_44 : decode cX12_parseChannel 44 = .ok (.getfield 119, 3) := by decide +kernel
theorem dX12_parseChannel_47 : decode cX12_parseChannel 47 = .ok (.iconst 1, 1) := by decide +kernel
theorem dX12_parseChannel_48 : decode cX12_parseChannel 48 = .ok (.if_icmp .ne 188, 3) := by decide +kernel
theorem dX12_parseChannel_51 : decode cX12_parseChannel 51 = .ok (.aload_n 0, 1) := by decide +kernel
theorem dX12_parseChannel_52 : decode cX12_parseChannel 52 = .ok (.getfield 131, 3) := by decide +kernel
theorem dX12_parseChannel_55 : decode cX12_parseChannel 55 = .ok (.iconst 1, 1) := by decide +kernel
theorem dX12_parseChannel_56 : decode cX12_parseChannel 56 = .ok (.iconst 5, 1) := by decide +kernel
theorem dX12_parseChannel_57 : decode cX12_parseChannel 57 = .ok (.invokestatic 22, 3) := by decide +kernel
theorem dX12_parseChannel_60 : decode cX12_parseChannel 60 = .ok (.ifCond .eq 176, 3) := by decide +kernel
theorem dX12_parseChannel_63 : decode cX12_parseChannel 63 = .ok (.aload_n 0, 1) := by decide +kernel
theorem dX12_parseChannel_64 : decode cX12_parseChannel 64 = .ok (.getfield 131, 3) := by decide +kernel
theorem dX12_parseChannel_67 : decode cX12_parseChannel 67 = .ok (.istore 4, 2) := by decide +kernel
theorem dX12_parseChannel_69 : decode cX12_parseChannel 69 = .ok (.iload_n 2, 1) := by decide +kernel
theorem dX12_parseChannel_70 : decode cX12_parseChannel 70 = .ok (.iload 4, 2) := by decide +kernel
theorem dX12_parseChannel_72 : decode cX12_parseChannel 72 = .ok (.ishr, 1) := by decide +kernel
theorem dX12_parseChannel_73 : decode cX12_parseChannel 73 = .ok (.iconst 1, 1) := by decide +kernel
theorem dX12_parseChannel_74 : decode cX12_parseChannel 74 = .ok (.iand, 1) := by decide +kernel
theorem dX12_parseChannel_75 : decode cX12_parseChannel 75 = .ok (.iconst 1, 1) := by decide +kernel
theorem dX12_parseChannel_76 : decode cX12_parseChannel 76 = .ok (.if_icmp .ne 8, 3) := by decide +kernel
theorem dX12_parseChannel_79 : decode cX12_parseChannel 79 = .ok (.aload_n 0, 1) := by decide +kernel
theorem dX12_parseChannel_80 : decode cX12_parseChannel 80 = .ok (.iconst 3, 1) := by decide +kernel
theorem dX12_parseChannel_81 : decode cX12_parseChannel 81 = .ok (.invokevirtual 292, 3) := by decide +kernel
theorem dX12_parseChannel_84 : decode cX12_parseChannel 84 = .ok (.iload_n 2, 1) := by decide +kernel
theorem dX12_parseChannel_85 : decode cX12_parseChannel 85 = .ok (.iconst 1, 1) := by decide +kernel
theorem dX12_parseChannel_86 : decode cX12_parseChannel 86 = .ok (.iload 4, 2) := by decide +kernel
theorem dX12_parseChannel_88 : decode cX12_parseChannel 88 = .ok (.ishl, 1) := by decide +kernel
theorem dX12_parseChannel_89 : decode cX12_parseChannel 89 = .ok (.ior, 1) := by decide +kernel
theorem dX12_parseChannel_90 : decode cX12_parseChannel 90 = .ok (.istore_n 2, 1) := by decide +kernel
theorem dX12_parseChannel_91 : decode cX12_parseChannel 91 = .ok (.aload_n 0, 1) := by decide +kernel
theorem dX12_parseChannel_92 : decode cX12_parseChannel 92 = .ok (.invokevirtual 279, 3) := by decide +kernel
theorem dX12_parseChannel_95 : decode cX12_parseChannel 95 = .ok (.ifCond .eq 7, 3) := by decide +kernel
theorem dX12_parseChannel_98 : decode cX12_parseChannel 98 = .ok (.aload_n 0, 1) := by decide +kernel
theorem dX12_parseChannel_99 : decode cX12_parseChannel 99 = .ok (.invokevirtual 286, 3) := by decide +kernel
theorem dX12_parseChannel_102 : decode cX12_parseChannel 102 = .ok (.iload 4, 2) := by decide +kernel
theorem dX12_parseChannel_104 : decode cX12_parseChannel 104 = .ok (.iconst 1, 1) := by decide +kernel
theorem dX12_parseChannel_105 : decode cX12_parseChannel 105 = .ok (.if_icmp .ne 25, 3) := by decide +kernel
theorem dX12_parseChannel_108 : decode cX12_parseChannel 108 = .ok (.aload_n 0, 1) := by decide +kernel
theorem dX12_parseChannel_109 : decode cX12_parseChannel 109 = .ok (.getfield 29, 3) := by decide +kernel
theorem dX12_parseChannel_112 : decode cX12_parseChannel 112 = .ok (.iload_n 3, 1) := by decide +kernel
theorem dX12_parseChannel_113 : decode cX12_parseChannel 113 = .ok (.iload_n 1, 1) := by decide +kernel
theorem dX12_parseChannel_114 : decode cX12_parseChannel 114 = .ok (.iconst 0, 1) := by decide +kernel
theorem dX12_parseChannel_115 : decode cX12_parseChannel 115 = .ok (.invokestatic 47, 3) := by decide +kernel
theorem dX12_parseChannel_118 : decode cX12_parseChannel 118 = .ok (.iadd, 1) := by decide +kernel
theorem dX12_parseChannel_119 : decode cX12_parseChannel 119 = .ok (.aload_n 0, 1) := by decide +kernel
theorem dX12_parseChannel_120 : decode cX12_parseChannel 120 = .ok (.iconst 1, 1) := by decide +kernel
theorem dX12_parseChannel_121 : decode cX12_parseChannel 121 = .ok (.bipush 99, 2) := by decide +kernel
theorem dX12_parseChannel_123 : decode cX12_parseChannel 123 = .ok (.invokevirtual 298, 3) := by decide +kernel
theorem dX12_parseChannel_126 : decode cX12_parseChannel 126 = .ok (.iastore, 1) := by decide +kernel
theorem dX12_parseChannel_127 : decode cX12_parseChannel 127 = .ok (.goto 106, 3) := by decide +kernel
theorem dX12_parseChannel_130 : decode cX12_parseChannel 130 = .ok (.iload 4, 2) := by decide +kernel
theorem dX12_parseChannel_132 : decode cX12_parseChannel 132 = .ok (.iconst 2, 1) := by decide +kernel
theorem dX12_parseChannel_133 : decode cX12_parseChannel 133 = .ok (.if_icmp .ne 24, 3) := by decide +kernel
theorem dX12_parseChannel_136 : decode cX12_parseChannel 136 = .ok (.aload_n 0, 1) := by decide +kernel
theorem dX12_parseChannel_137 : decode cX12_parseChannel 137 = .ok (.getfield 26, 3) := by decide +kernel
theorem dX12_parseChannel_140 : decode cX12_parseChannel 140 = .ok (.bipush 22, 2) := by decide +kernel
theorem dX12_parseChannel_142 : decode cX12_parseChannel 142 = .ok (.iload_n 1, 1) := by decide +kernel
theorem dX12_parseChannel_143 : decode cX12_parseChannel 143 = .ok (.iadd, 1) := by decide +kernel
theorem dX12_parseChannel_144 : decode cX12_parseChannel 144 = .ok (.invokestatic 309, 3) := by decide +kernel
theorem dX12_parseChannel_147 : decode cX12_parseChannel 147 = .ok (.aload_n 0, 1) := by decide +kernel
theorem dX12_parseChannel_148 : decode cX12_parseChannel 148 = .ok (.bipush 99, 2) := by decide +kernel
theorem dX12_parseChannel_150 : decode cX12_parseChannel 150 = .ok (.invokevirtual 312, 3) := by decide +kernel
theorem dX12_parseChannel_153 : decode cX12_parseChannel 153 = .ok (.iastore, 1) := by decide +kernel
theorem dX12_parseChannel_154 : decode cX12_parseChannel 154 = .ok (.goto 79, 3) := by decide +kernel
theorem dX12_parseChannel_157 : decode cX12_parseChannel 157 = .ok (.iload 4, 2) := by decide +kernel
theorem dX12_parseChannel_159 : decode cX12_parseChannel 159 = .ok (.iconst 3, 1) := by decide +kernel
theorem dX12_parseChannel_160 : decode cX12_parseChannel 160 = .ok (.if_icmp .ne 26, 3) := by decide +kernel
theorem dX12_parseChannel_163 : decode cX12_parseChannel 163 = .ok (.aload_n 0, 1) := by decide +kernel
theorem dX12_parseChannel_164 : decode cX12_parseChannel 164 = .ok (.getfield 29, 3) := by decide +kernel
theorem dX12_parseChannel_167 : decode cX12_parseChannel 167 = .ok (.iload_n 3, 1) := by decide +kernel
theorem dX12_parseChannel_168 : decode cX12_parseChannel 168 = .ok (.iload_n 1, 1) := by decide +kernel
theorem dX12_parseChannel_169 : decode cX12_parseChannel 169 = .ok (.iconst 1, 1) := by decide +kernel
theorem dX12_parseChannel_170 : decode cX12_parseChannel 170 = .ok (.invokestatic 47, 3) := by decide +kernel
theorem dX12_parseChannel_173 : decode cX12_parseChannel 173 = .ok (.iadd, 1) := by decide +kernel
theorem dX12_parseChannel_174 : decode cX12_parseChannel 174 = .ok (.aload_n 0, 1) := by decide +kernel
theorem dX12_parseChannel_175 : decode cX12_parseChannel 175 = .ok (.iconst 0, 1) := by decide +kernel
theorem dX12_parseChannel_176 : decode cX12_parseChannel 176 = .ok (.sipush 4095, 3) := by decide +kernel
theorem dX12_parseChannel_179 : decode cX12_parseChannel 179 = .ok (.invokevirtual 298, 3) := by decide +kernel
theorem dX12_parseChannel_182 : decode cX12_parseChannel 182 = .ok (.iastore, 1) := by decide +kernel
theorem dX12_parseChannel_183 : decode cX12_parseChannel 183 = .ok (.goto 50, 3) := by decide +kernel
theorem dX12_parseChannel_186 : decode cX12_parseChannel 186 = .ok (.iload 4, 2) := by decide +kernel
theorem dX12_parseChannel_188 : decode cX12_parseChannel 188 = .ok (.iconst 4, 1) := by decide +kernel
theorem dX12_parseChannel_189 : decode cX12_parseChannel 189 = .ok (.if_icmp .ne 24, 3) := by decide +kernel
theorem dX12_parseChannel_192 : decode cX12_parseChannel 192 = .ok (.aload_n 0, 1) := by decide +kernel
theorem dX12_parseChannel_193 : decode cX12_parseChannel 193 = .ok (.getfield 29, 3) := by decide +kernel
theorem dX12_parseChannel_196 : decode cX12_parseChannel 196 = .ok (.iload_n 3, 1) := by decide +kernel
theorem dX12_parseChannel_197 : decode cX12_parseChannel 197 = .ok (.iload_n 1, 1) := by decide +kernel
theorem dX12_parseChannel_198 : decode cX12_parseChannel 198 = .ok (.iconst 2, 1) := by decide +kernel
theorem dX12_parseChannel_199 : decode cX12_parseChannel 199 = .ok (.invokestatic 47, 3) := by decide +kernel
theorem dX12_parseChannel_202 : decode cX12_parseChannel 202 = .ok (.iadd, 1) := by decide +kernel
theorem dX12_parseChannel_203 : decode cX12_parseChannel 203 = .ok (.aload_n 0, 1) := by decide +kernel
theorem dX12_parseChannel_204 : decode cX12_parseChannel 204 = .ok (.bipush 99, 2) := by decide +kernel
theorem dX12_parseChannel_206 : decode cX12_parseChannel 206 = .ok (.invokevirtual 312, 3) := by decide +kernel
theorem dX12_parseChannel_209 : decode cX12_parseChannel 209 = .ok (.iastore, 1) := by decide +kernel
theorem dX12_parseChannel_210 : decode cX12_parseChannel 210 = .ok (.goto 23, 3) := by decide +kernel
theorem dX12_parseChannel_213 : decode cX12_parseChannel 213 = .ok (.aload_n 0, 1) := by decide +kernel
theorem dX12_parseChannel_214 : decode cX12_parseChannel 214 = .ok (.getfield 29, 3) := by decide +kernel
theorem dX12_parseChannel_217 : decode cX12_parseChannel 217 = .ok (.iload_n 3, 1) := by decide +kernel
theorem dX12_parseChannel_218 : decode cX12_parseChannel 218 = .ok (.iload_n 1, 1) := by decide +kernel
theorem dX12_parseChannel_219 : decode cX12_parseChannel 219 = .ok (.iconst 3, 1) := by decide +kernel
theorem dX12_parseChannel_220 : decode cX12_parseChannel 220 = .ok (.invokestatic 47, 3) := by decide +kernel
theorem dX12_parseChannel_223 : decode cX12_parseChannel 223 = .ok (.iadd, 1) := by decide +kernel
theorem dX12_parseChannel_224 : decode cX12_parseChannel 224 = .ok (.aload_n 0, 1) := by decide +kernel
theorem dX12_parseChannel_225 : decode cX12_parseChannel 225 = .ok (.iconst 1, 1) := by decide +kernel
theorem dX12_parseChannel_226 : decode cX12_parseChannel 226 = .ok (.sipush 9999, 3) := by decide +kernel
theorem dX12_parseChannel_229 : decode cX12_parseChannel 229 = .ok (.invokevirtual 298, 3) := by decide +kernel
theorem dX12_parseChannel_232 : decode cX12_parseChannel 232 = .ok (.iastore, 1) := by decide +kernel
theorem dX12_parseChannel_233 : decode cX12_parseChannel 233 = .ok (.goto (-197), 3) := by decide +kernel
theorem dX12_parseChannel_236 : decode cX12_parseChannel 236 = .ok (.return_, 1) := by decide +kernel
theorem dX12_parseEntries_0 : decode cX12_parseEntries 0 = .ok (.iconst 0, 1) := by decide +kernel
theorem dX12_parseEntries_1 : decode cX12_parseEntries 1 = .ok (.istore_n 3, 1) := by decide +kernel
theorem dX12_parseEntries_2 : decode cX12_parseEntries 2 = .ok (.iconst 1, 1) := by decide +kernel
theorem dX12_parseEntries_3 : decode cX12_parseEntries 3 = .ok (.istore 4, 2) := by decide +kernel
theorem dX12_parseEntries_5 : decode cX12_parseEntries 5 = .ok (.aload_n 0, 1) := by decide +kernel
theorem dX12_parseEntries_6 : decode cX12_parseEntries 6 = .ok (.invokevirtual 279, 3) := by decide +kernel
theorem dX12_parseEntries_9 : decode cX12_parseEntries 9 = .ok (.ifCond .eq 113, 3) := by decide +kernel
theorem dX12_parseEntries_12 : decode cX12_parseEntries 12 = .ok (.iload 4, 2) := by decide +kernel
theorem dX12_parseEntries_14 : decode cX12_parseEntries 14 = .ok (.ifCond .eq 108, 3) := by decide +kernel
theorem dX12_parseEntries_17 : decode cX12_parseEntries 17 = .ok (.aload_n 0, 1) := by decide +kernel
theorem dX12_parseEntries_18 : decode cX12_parseEntries 18 = .ok (.getfield 119, 3) := by decide +kernel
theorem dX12_parseEntries_21 : decode cX12_parseEntries 21 = .ok (.iconst 2, 1) := by decide +kernel
theorem dX12_parseEntries_22 : decode cX12_parseEntries 22 = .ok (.if_icmp .eq 11, 3) := by decide +kernel
theorem dX12_parseEntries_25 : decode cX12_parseEntries 25 = .ok (.aload_n 0, 1) := by decide +kernel
theorem dX12_parseEntries_26 : decode cX12_parseEntries 26 = .ok (.iconst 1, 1) := by decide +kernel
theorem dX12_parseEntries_27 : decode cX12_parseEntries 27 = .ok (.invokevirtual 292, 3) := by decide +kernel
theorem dX12_parseEntries_30 : decode cX12_parseEntries 30 = .ok (.goto 30, 3) := by decide +kernel
theorem dX12_parseEntries_33 : decode cX12_parseEntries 33 = .ok (.aload_n 0, 1) := by decide +kernel
theorem dX12_parseEntries_34 : decode cX12_parseEntries 34 = .ok (.getfield 125, 3) := by decide +kernel
theorem dX12_parseEntries_37 : decode cX12_parseEntries 37 = .ok (.bipush 8, 2) := by decide +kernel
theorem dX12_parseEntries_39 : decode cX12_parseEntries 39 = .ok (.if_icmp .lt 11, 3) := by decide +kernel
theorem dX12_parseEntries_42 : decode cX12_parseEntries 42 = .ok (.aload_n 0, 1) := by decide +kernel
theorem dX12_parseEntries_43 : decode cX12_parseEntries 43 = .ok (.iconst 2, 1) := by decide +kernel
theorem dX12_parseEntries_44 : decode cX12_parseEntries 44 = .ok (.invokevirtual 292, 3) := by decide +kernel
theorem dX12_parseEntries_47 : decode cX12_parseEntries 47 = .ok (.goto 13, 3) := by decide +kernel
theorem dX12_parseEntries_50 : decode cX12_parseEntries 50 = .ok (.iload_n 3, 1) := by decide +kernel
theorem dX12_parseEntries_51 : decode cX12_parseEntries 51 = .ok (.iload_n 2, 1) := by decide +kernel
theorem dX12_parseEntries_52 : decode cX12_parseEntries 52 = .ok (.if_icmp .ne 8, 3) := by decide +kernel
theorem dX12_parseEntries_55 : decode cX12_parseEntries 55 = .ok (.aload_n 0, 1) := by decide +kernel
theorem dX12_parseEntries_56 : decode cX12_parseEntries 56 = .ok (.iconst 4, 1) := by decide +kernel
theorem dX12_parseEntries_57 : decode cX12_parseEntries 57 = .ok (.invokevirtual 292, 3) := by decide +kernel
theorem dX12_parseEntries_60 : decode cX12_parseEntries 60 = .ok (.aload_n 0, 1) := by decide +kernel
theorem dX12_parseEntries_61 : decode cX12_parseEntries 61 = .ok (.invokevirtual 279, 3) := by decide +kernel
theorem dX12_parseEntries_64 : decode cX12_parseEntries 64 = .ok (.ifCond .ne 4, 3) := by decide +kernel
theorem dX12_parseEntries_67 : decode cX12_parseEntries 67 = .ok (.return_, 1) := by decide +kernel
theorem dX12_parseEntries_68 : decode cX12_parseEntries 68 = .ok (.aload_n 0, 1) := by decide +kernel
theorem dX12_parseEntries_69 : decode cX12_parseEntries 69 = .ok (.getfield 26, 3) := by decide +kernel
theorem dX12_parseEntries_72 : decode cX12_parseEntries 72 = .ok (.bipush 10, 2) := by decide +kernel
theorem dX12_parseEntries_74 : decode cX12_parseEntries 74 = .ok (.bipush 8, 2) := by decide +kernel
theorem dX12_parseEntries_76 : decode cX12_parseEntries 76 = .ok (.iload_n 1, 1) := by decide +kernel
theorem dX12_parseEntries_77 : decode cX12_parseEntries 77 = .ok (.imul, 1) := by decide +kernel
theorem dX12_parseEntries_78 : decode cX12_parseEntries 78 = .ok (.iadd, 1) := by decide +kernel
theorem dX12_parseEntries_79 : decode cX12_parseEntries 79 = .ok (.iload_n 3, 1) := by decide +kernel
theorem dX12_parseEntries_80 : decode cX12_parseEntries 80 = .ok (.iadd, 1) := by decide +kernel
theorem dX12_parseEntries_81 : decode cX12_parseEntries 81 = .ok (.invokestatic 309, 3) := by decide +kernel
theorem dX12_parseEntries_84 : decode cX12_parseEntries 84 = .ok (.aload_n 0, 1) := by decide +kernel
theorem dX12_parseEntries_85 : decode cX12_parseEntries 85 = .ok (.getfield 125, 3) := by decide +kernel
theorem dX12_parseEntries_88 : decode cX12_parseEntries 88 = .ok (.iastore, 1) := by decide +kernel
theorem dX12_parseEntries_89 : decode cX12_parseEntries 89 = .ok (.iinc 3 1, 3) := by decide +kernel
theorem dX12_parseEntries_92 : decode cX12_parseEntries 92 = .ok (.aload_n 0, 1) := by decide +kernel
theorem dX12_parseEntries_93 : decode cX12_parseEntries 93 = .ok (.invokevirtual 286, 3) := by decide +kernel
theorem dX12_parseEntries_96 : decode cX12_parseEntries 96 = .ok (.aload_n 0, 1) := by decide +kernel
theorem dX12_parseEntries_97 : decode cX12_parseEntries 97 = .ok (.getfield 119, 3) := by decide +kernel
theorem dX12_parseEntries_100 : decode cX12_parseEntries 100 = .ok (.iconst 2, 1) := by decide +kernel
theorem dX12_parseEntries_101 : decode cX12_parseEntries 101 = .ok (.if_icmp .eq 11, 3) := by decide +kernel
theorem dX12_parseEntries_104 : decode cX12_parseEntries 104 = .ok (.aload_n 0, 1) := by decide +kernel
theorem dX12_parseEntries_105 : decode cX12_parseEntries 105 = .ok (.getfield 119, 3) := by decide +kernel
theorem dX12_parseEntries_108 : decode cX12_parseEntries 108 = .ok (.iconst 4, 1) := by decide +kernel
theorem dX12_parseEntries_109 : decode cX12_parseEntries 109 = .ok (.if_icmp .ne 7, 3) := by decide +kernel
theorem dX12_parseEntries_112 : decode cX12_parseEntries 112 = .ok (.iconst 1, 1) := by decide +kernel
theorem dX12_parseEntries_113 : decode cX12_parseEntries 113 = .ok (.goto 4, 3) := by decide +kernel
theorem dX12_parseEntries_116 : decode cX12_parseEntries 116 = .ok (.iconst 0, 1) := by decide +kernel
theorem dX12_parseEntries_117 : decode cX12_parseEntries 117 = .ok (.istore 4, 2) := by decide +kernel
theorem dX12_parseEntries_119 : decode cX12_parseEntries 119 = .ok (.goto (-114), 3) := by decide +kernel
theorem dX12_parseEntries_122 : decode cX12_parseEntries 122 = .ok (.aload_n 0, 1) := by decide +kernel
theorem dX12_parseEntries_123 : decode cX12_parseEntries 123 = .ok (.getfield 26, 3) := by decide +kernel
theorem dX12_parseEntries_126 : decode cX12_parseEntries 126 = .ok (.iconst 0, 1) := by decide +kernel
theorem dX12_parseEntries_127 : decode cX12_parseEntries 127 = .ok (.iload_n 1, 1) := by decide +kernel
theorem dX12_parseEntries_128 : decode cX12_parseEntries 128 = .ok (.iadd, 1) := by decide +kernel
theorem dX12_parseEntries_129 : decode cX12_parseEntries 129 = .ok (.invokestatic 309, 3) := by decide +kernel
theorem dX12_parseEntries_132 : decode cX12_parseEntries 132 = .ok (.iload_n 3, 1) := by decide +kernel
theorem dX12_parseEntries_133 : decode cX12_parseEntries 133 = .ok (.iastore, 1) := by decide +kernel
theorem dX12_parseEntries_134 : decode cX12_parseEntries 134 = .ok (.return_, 1) := by decide +kernel
theorem dX12_parseOver_0 : decode cX12_parseOver 0 = .ok (.aload_n 0, 1) := by decide +kernel
theorem dX12_parseOver_1 : decode cX12_parseOver 1 = .ok (.getfield 26, 3) := by decide +kernel
theorem dX12_parseOver_4 : decode cX12_parseOver 4 = .ok (.iconst 2, 1) := by decide +kernel
theorem dX12_parseOver_5 : decode cX12_parseOver 5 = .ok (.invokestatic 309, 3) := by decide +kernel
theorem dX12_parseOver_8 : decode cX12_parseOver 8 = .ok (.aload_n 0, 1) := by decide +kernel
theorem dX12_parseOver_9 : decode cX12_parseOver 9 = .ok (.iconst 0, 1) := by decide +kernel
theorem dX12_parseOver_10 : decode cX12_parseOver 10 = .ok (.iconst 4, 1) := by decide +kernel
theorem dX12_parseOver_11 : decode cX12_parseOver 11 = .ok (.invokevirtual 298, 3) := by decide +kernel
theorem dX12_parseOver_14 : decode cX12_parseOver 14 = .ok (.iastore, 1) := by decide +kernel
theorem dX12_parseOver_15 : decode cX12_parseOver 15 = .ok (.aload_n 0, 1) := by decide +kernel
theorem dX12_parseOver_16 : decode cX12_parseOver 16 = .ok (.bipush 12, 2) := by decide +kernel
theorem dX12_parseOver_18 : decode cX12_parseOver 18 = .ok (.invokevirtual 315, 3) := by decide +kernel
theorem dX12_parseOver_21 : decode cX12_parseOver 21 = .ok (.aload_n 0, 1) := by decide +kernel
theorem dX12_parseOver_22 : decode cX12_parseOver 22 = .ok (.getfield 26, 3) := by decide +kernel
theorem dX12_parseOver_25 : decode cX12_parseOver 25 = .ok (.iconst 3, 1) := by decide +kernel
theorem dX12_parseOver_26 : decode cX12_parseOver 26 = .ok (.invokestatic 309, 3) := by decide +kernel
theorem dX12_parseOver_29 : decode cX12_parseOver 29 = .ok (.aload_n 0, 1) := by decide +kernel
theorem dX12_parseOver_30 : decode cX12_parseOver 30 = .ok (.iconst 0, 1) := by decide +kernel
theorem dX12_parseOver_31 : decode cX12_parseOver 31 = .ok (.iconst 4, 1) := by decide +kernel
theorem dX12_parseOver_32 : decode cX12_parseOver 32 = .ok (.invokevirtual 298, 3) := by decide +kernel
theorem dX12_parseOver_35 : decode cX12_parseOver 35 = .ok (.iastore, 1) := by decide +kernel
theorem dX12_parseOver_36 : decode cX12_parseOver 36 = .ok (.aload_n 0, 1) := by decide +kernel
theorem dX12_parseOver_37 : decode cX12_parseOver 37 = .ok (.getfield 26, 3) := by decide +kernel
theorem dX12_parseOver_40 : decode cX12_parseOver 40 = .ok (.iconst 4, 1) := by decide +kernel
theorem dX12_parseOver_41 : decode cX12_parseOver 41 = .ok (.invokestatic 309, 3) := by decide +kernel
theorem dX12_parseOver_44 : decode cX12_parseOver 44 = .ok (.aload_n 0, 1) := by decide +kernel
theorem dX12_parseOver_45 : decode cX12_parseOver 45 = .ok (.bipush 13, 2) := by decide +kernel
theorem dX12_parseOver_47 : decode cX12_parseOver 47 = .ok (.invokevirtual 289, 3) := by decide +kernel
theorem dX12_parseOver_50 : decode cX12_parseOver 50 = .ok (.ifCond .eq 7, 3) := by decide +kernel
theorem dX12_parseOver_53 : decode cX12_parseOver 53 = .ok (.iconst 1, 1) := by decide +kernel
theorem dX12_parseOver_54 : decode cX12_parseOver 54 = .ok (.goto 4, 3) := by decide +kernel
theorem dX12_parseOver_57 : decode cX12_parseOver 57 = .ok (.iconst 0, 1) := by decide +kernel
theorem dX12_parseOver_58 : decode cX12_parseOver 58 = .ok (.iastore, 1) := by decide +kernel
theorem dX12_parseOver_59 : decode cX12_parseOver 59 = .ok (.return_, 1) := by decide +kernel
theorem dX12_parseMask_0 : decode cX12_parseMask 0 = .ok (.iconst 0, 1) := by decide +kernel
theorem dX12_parseMask_1 : decode cX12_parseMask 1 = .ok (.istore_n 2, 1) := by decide +kernel
theorem dX12_parseMask_2 : decode cX12_parseMask 2 = .ok (.iconst 1, 1) := by decide +kernel
theorem dX12_parseMask_3 : decode cX12_parseMask 3 = .ok (.istore_n 3, 1) := by decide +kernel
theorem dX12_parseMask_4 : decode cX12_parseMask 4 = .ok (.aload_n 0, 1) := by decide +kernel
theorem dX12_parseMask_5 : decode cX12_parseMask 5 = .ok (.invokevirtual 279, 3) := by decide +kernel
theorem dX12_parseMask_8 : decode cX12_parseMask 8 = .ok (.ifCond .eq 103, 3) := by decide +kernel
theorem dX12_parseMask_11 : decode cX12_parseMask 11 = .ok (.iload_n 3, 1) := by decide +kernel
theorem dX12_parseMask_12 : decode cX12_parseMask 12 = .ok (.ifCond .eq 99, 3) := by decide +kernel
theorem dX12_parseMask_15 : decode cX12_parseMask 15 = .ok (.aload_n 0, 1) := by decide +kernel
theorem dX12_parseMask_16 : decode cX12_parseMask 16 = .ok (.getfield 119, 3) := by decide +kernel
theorem dX12_parseMask_19 : decode cX12_parseMask 19 = .ok (.iconst 2, 1) := by decide +kernel
theorem dX12_parseMask_20 : decode cX12_parseMask 20 = .ok (.if_icmp .eq 11, 3) := by decide +kernel
theorem dX12_parseMask_23 : decode cX12_parseMask 23 = .ok (.aload_n 0, 1) := by decide +kernel
theorem dX12_parseMask_24 : decode cX12_parseMask 24 = .ok (.iconst 1, 1) := by decide +kernel
theorem dX12_parseMask_25 : decode cX12_parseMask 25 = .ok (.invokevirtual 292, 3) := by decide +kernel
theorem dX12_parseMask_28 : decode cX12_parseMask 28 = .ok (.goto 37, 3) := by decide +kernel
theorem dX12_parseMask_31 : decode cX12_parseMask 31 = .ok (.aload_n 0, 1) := by decide +kernel
theorem dX12_parseMask_32 : decode cX12_parseMask 32 = .ok (.getfield 125, 3) := by decide +kernel
theorem dX12_parseMask_35 : decode cX12_parseMask 35 = .ok (.bipush 8, 2) := by decide +kernel
theorem dX12_parseMask_37 : decode cX12_parseMask 37 = .ok (.if_icmp .lt 11, 3) := by decide +kernel
theorem dX12_parseMask_40 : decode cX12_parseMask 40 = .ok (.aload_n 0, 1) := by decide +kernel
theorem dX12_parseMask_41 : decode cX12_parseMask 41 = .ok (.iconst 2, 1) := by decide +kernel
theorem dX12_parseMask_42 : decode cX12_parseMask 42 = .ok (.invokevirtual 292, 3) := by decide +kernel
theorem dX12_parseMask_45 : decode cX12_parseMask 45 = .ok (.goto 20, 3) := by decide +kernel
theorem dX12_parseMask_48 : decode cX12_parseMask 48 = .ok (.iload_n 2, 1) := by decide +kernel
theorem dX12_parseMask_49 : decode cX12_parseMask 49 = .ok (.aload_n 0, 1) := by decide +kernel
theorem dX12_parseMask_50 : decode cX12_parseMask 50 = .ok (.getfield 125, 3) := by decide +kernel
theorem dX12_parseMask_53 : decode cX12_parseMask 53 = .ok (.ishr, 1) := by decide +kernel
theorem dX12_parseMask_54 : decode cX12_parseMask 54 = .ok (.iconst 1, 1) := by decide +kernel
theorem dX12_parseMask_55 : decode cX12_parseMask 55 = .ok (.iand, 1) := by decide +kernel
theorem dX12_parseMask_56 : decode cX12_parseMask 56 = .ok (.iconst 1, 1) := by decide +kernel
theorem dX12_parseMask_57 : decode cX12_parseMask 57 = .ok (.if_icmp .ne 8, 3) := by decide +kernel
theorem dX12_parseMask_60 : decode cX12_parseMask 60 = .ok (.aload_n 0, 1) := by decide +kernel
theorem dX12_parseMask_61 : decode cX12_parseMask 61 = .ok (.iconst 3, 1) := by decide +kernel
theorem dX12_parseMask_62 : decode cX12_parseMask 62 = .ok (.invokevirtual 292, 3) := by decide +kernel
theorem dX12_parseMask_65 : decode cX12_parseMask 65 = .ok (.aload_n 0, 1) := by decide +kernel
theorem dX12_parseMask_66 : decode cX12_parseMask 66 = .ok (.invokevirtual 279, 3) := by decide +kernel
theorem dX12_parseMask_69 : decode cX12_parseMask 69 = .ok (.ifCond .ne 4, 3) := by decide +kernel
theorem dX12_parseMask_72 : decode cX12_parseMask 72 = .ok (.return_, 1) := by decide +kernel
theorem dX12_parseMask_73 : decode cX12_parseMask 73 = .ok (.iload_n 2, 1) := by decide +kernel
theorem dX12_parseMask_74 : decode cX12_parseMask 74 = .ok (.iconst 1, 1) := by decide +kernel
theorem dX12_parseMask_75 : decode cX12_parseMask 75 = .ok (.aload_n 0, 1) := by decide +kernel
theorem dX12_parseMask_76 : decode cX12_parseMask 76 = .ok (.getfield 125, 3) := by decide +kernel
theorem dX12_parseMask_79 : decode cX12_parseMask 79 = .ok (.ishl, 1) := by decide +kernel
theorem dX12_parseMask_80 : decode cX12_parseMask 80 = .ok (.ior, 1) := by decide +kernel
theorem dX12_parseMask_81 : decode cX12_parseMask 81 = .ok (.istore_n 2, 1) := by decide +kernel
theorem dX12_parseMask_82 : decode cX12_parseMask 82 = .ok (.aload_n 0, 1) := by decide +kernel
theorem dX12_parseMask_83 : decode cX12_parseMask 83 = .ok (.invokevirtual 286, 3) := by decide +kernel
theorem dX12_parseMask_86 : decode cX12_parseMask 86 = .ok (.aload_n 0, 1) := by decide +kernel
theorem dX12_parseMask_87 : decode cX12_parseMask 87 = .ok (.getfield 119, 3) := by decide +kernel
theorem dX12_parseMask_90 : decode cX12_parseMask 90 = .ok (.iconst 2, 1) := by decide +kernel
theorem dX12_parseMask_91 : decode cX12_parseMask 91 = .ok (.if_icmp .eq 11, 3) := by decide +kernel
theorem dX12_parseMask_94 : decode cX12_parseMask 94 = .ok (.aload_n 0, 1) := by decide +kernel
theorem dX12_parseMask_95 : decode cX12_parseMask 95 = .ok (.getfield 119, 3) := by decide +kernel
theorem dX12_parseMask_98 : decode cX12_parseMask 98 = .ok (.iconst 4, 1) := by decide +kernel
theorem dX12_parseMask_99 : decode cX12_parseMask 99 = .ok (.if_icmp .ne 7, 3) := by decide +kernel
theorem dX12_parseMask_102 : decode cX12_parseMask 102 = .ok (.iconst 1, 1) := by decide +kernel
theorem dX12_parseMask_103 : decode cX12_parseMask 103 = .ok (.goto 4, 3) := by decide +kernel
theorem dX12_parseMask_106 : decode cX12_parseMask 106 = .ok (.iconst 0, 1) := by decide +kernel
theorem dX12_parseMask_107 : decode cX12_parseMask 107 = .ok (.istore_n 3, 1) := by decide +kernel
theorem dX12_parseMask_108 : decode cX12_parseMask 108 = .ok (.goto (-104), 3) := by decide +kernel
theorem dX12_parseMask_111 : decode cX12_parseMask 111 = .ok (.aload_n 0, 1) := by decide +kernel
