theorem dL_cell_0 : decode cL_cell 0 = .ok (.iload_n 1, 1) := by decide +kernel
theorem dL_cell_1 : decode cL_cell 1 = .ok (.aload_n 0, 1) := by decide +kernel
theorem dL_cell_2 : decode cL_cell 2 = .ok (.arraylength, 1) := by decide +kernel
theorem dL_cell_3 : decode cL_cell 3 = .ok (.if_icmp .ge 9, 3) := by decide +kernel
theorem dL_cell_6 : decode cL_cell 6 = .ok (.aload_n 0, 1) := by decide +kernel
theorem dL_cell_7 : decode cL_cell 7 = .ok (.iload_n 1, 1) := by decide +kernel
theorem dL_cell_8 : decode cL_cell 8 = .ok (.iaload, 1) := by decide +kernel
theorem dL_cell_9 : decode cL_cell 9 = .ok (.goto 15, 3) := by decide +kernel
theorem dL_cell_12 : decode cL_cell 12 = .ok (.sipush 7919, 3) := by decide +kernel
theorem dL_cell_15 : decode cL_cell 15 = .ok (.iload_n 1, 1) := by decide +kernel
theorem dL_cell_16 : decode cL_cell 16 = .ok (.iconst 3, 1) := by decide +kernel
theorem dL_cell_17 : decode cL_cell 17 = .ok (.iadd, 1) := by decide +kernel
theorem dL_cell_18 : decode cL_cell 18 = .ok (.imul, 1) := by decide +kernel
theorem dL_cell_19 : decode cL_cell 19 = .ok (.iload_n 1, 1) := by decide +kernel
theorem dL_cell_20 : decode cL_cell 20 = .ok (.bipush 11, 2) := by decide +kernel
theorem dL_cell_22 : decode cL_cell 22 = .ok (.iadd, 1) := by decide +kernel
theorem dL_cell_23 : decode cL_cell 23 = .ok (.imul, 1) := by decide +kernel
theorem dL_cell_24 : decode cL_cell 24 = .ok (.ireturn, 1) := by decide +kernel
theorem dL_low_0 : decode cL_low 0 = .ok (.iload_n 0, 1) := by decide +kernel
theorem dL_low_1 : decode cL_low 1 = .ok (.ldc 7, 2) := by decide +kernel
theorem dL_low_3 : decode cL_low 3 = .ok (.iand, 1) := by decide +kernel
theorem dL_low_4 : decode cL_low 4 = .ok (.iload_n 1, 1) := by decide +kernel
theorem dL_low_5 : decode cL_low 5 = .ok (.irem, 1) := by decide +kernel
theorem dL_low_6 : decode cL_low 6 = .ok (.ireturn, 1) := by decide +kernel
theorem dL_does_0 : decode cL_does 0 = .ok (.iload_n 1, 1) := by decide +kernel
theorem dL_does_1 : decode cL_does 1 = .ok (.iconst 4, 1) := by decide +kernel
theorem dL_does_2 : decode cL_does 2 = .ok (.ishr, 1) := by decide +kernel
theorem dL_does_3 : decode cL_does 3 = .ok (.bipush 6, 2) := by decide +kernel
theorem dL_does_5 : decode cL_does 5 = .ok (.invokestatic 8, 3) := by decide +kernel
theorem dL_does_8 : decode cL_does 8 = .ok (.istore_n 3, 1) := by decide +kernel
theorem dL_does_9 : decode cL_does 9 = .ok (.iload_n 1, 1) := by decide +kernel
theorem dL_does_10 : decode cL_does 10 = .ok (.bipush 7, 2) := by decide +kernel
theorem dL_does_12 : decode cL_does 12 = .ok (.ishr, 1) := by decide +kernel
theorem dL_does_13 : decode cL_does 13 = .ok (.bipush 7, 2) := by decide +kernel
theorem dL_does_15 : decode cL_does 15 = .ok (.invokestatic 8, 3) := by decide +kernel
theorem dL_does_18 : decode cL_does 18 = .ok (.istore 4, 2) := by decide +kernel
theorem dL_does_20 : decode cL_does 20 = .ok (.iload_n 1, 1) := by decide +kernel
theorem dL_does_21 : decode cL_does 21 = .ok (.bipush 15, 2) := by decide +kernel
theorem dL_does_23 : decode cL_does 23 = .ok (.iand, 1) := by decide +kernel
theorem dL_does_24 : decode cL_does 24 = .ok (.tableswitch 238 0 8 #[52, 52, 52, 123, 123, 135, 172, 192, 212], 52) := by decide +kernel
theorem dL_does_76 : decode cL_does 76 = .ok (.aload_n 0, 1) := by decide +kernel
theorem dL_does_77 : decode cL_does 77 = .ok (.iload_n 3, 1) := by decide +kernel
theorem dL_does_78 : decode cL_does 78 = .ok (.iload 4, 2) := by decide +kernel
theorem dL_does_80 : decode cL_does 80 = .ok (.invokevirtual 14, 3) := by decide +kernel
theorem dL_does_83 : decode cL_does 83 = .ok (.istore 5, 2) := by decide +kernel
theorem dL_does_85 : decode cL_does 85 = .ok (.iload_n 2, 1) := by decide +kernel
theorem dL_does_86 : decode cL_does 86 = .ok (.iload_n 2, 1) := by decide +kernel
theorem dL_does_87 : decode cL_does 87 = .ok (.bipush 8, 2) := by decide +kernel
theorem dL_does_89 : decode cL_does 89 = .ok (.iand, 1) := by decide +kernel
theorem dL_does_90 : decode cL_does 90 = .ok (.ifCond .ne 8, 3) := by decide +kernel
theorem dL_does_93 : decode cL_does 93 = .ok (.bipush 7, 2) := by decide +kernel
theorem dL_does_95 : decode cL_does 95 = .ok (.goto 5, 3) := by decide +kernel
theorem dL_does_98 : decode cL_does 98 = .ok (.bipush 21, 2) := by decide +kernel
theorem dL_does_100 : decode cL_does 100 = .ok (.invokestatic 8, 3) := by decide +kernel
theorem dL_does_103 : decode cL_does 103 = .ok (.istore 6, 2) := by decide +kernel
theorem dL_does_105 : decode cL_does 105 = .ok (.aload_n 0, 1) := by decide +kernel
theorem dL_does_106 : decode cL_does 106 = .ok (.iload_n 3, 1) := by decide +kernel
theorem dL_does_107 : decode cL_does 107 = .ok (.iload 4, 2) := by decide +kernel
theorem dL_does_109 : decode cL_does 109 = .ok (.invokevirtual 19, 3) := by decide +kernel
theorem dL_does_112 : decode cL_does 112 = .ok (.ifCond .ne 29, 3) := by decide +kernel
theorem dL_does_115 : decode cL_does 115 = .ok (.aload_n 0, 1) := by decide +kernel
theorem dL_does_116 : decode cL_does 116 = .ok (.iload_n 3, 1) := by decide +kernel
theorem dL_does_117 : decode cL_does 117 = .ok (.iload 4, 2) := by decide +kernel
theorem dL_does_119 : decode cL_does 119 = .ok (.iload 6, 2) := by decide +kernel
theorem dL_does_121 : decode cL_does 121 = .ok (.invokevirtual 23, 3) := by decide +kernel
theorem dL_does_124 : decode cL_does 124 = .ok (.iload 5, 2) := by decide +kernel
theorem dL_does_126 : decode cL_does 126 = .ok (.if_icmp .ne 19, 3) := by decide +kernel
theorem dL_does_129 : decode cL_does 129 = .ok (.aload_n 0, 1) := by decide +kernel
theorem dL_does_130 : decode cL_does 130 = .ok (.iload_n 3, 1) := by decide +kernel
theorem dL_does_131 : decode cL_does 131 = .ok (.iload 4, 2) := by decide +kernel
theorem dL_does_133 : decode cL_does 133 = .ok (.invokevirtual 14, 3) := by decide +kernel
theorem dL_does_136 : decode cL_does 136 = .ok (.iload 6, 2) := by decide +kernel
theorem dL_does_138 : decode cL_does 138 = .ok (.if_icmp .ne 7, 3) := by decide +kernel
theorem dL_does_141 : decode cL_does 141 = .ok (.iconst 1, 1) := by decide +kernel
theorem dL_does_142 : decode cL_does 142 = .ok (.goto 4, 3) := by decide +kernel
theorem dL_does_145 : decode cL_does 145 = .ok (.iconst 0, 1) := by decide +kernel
theorem dL_does_146 : decode cL_does 146 = .ok (.ireturn, 1) := by decide +kernel
theorem dL_does_147 : decode cL_does 147 = .ok (.aload_n 0, 1) := by decide +kernel
theorem dL_does_148 : decode cL_does 148 = .ok (.iload_n 2, 1) := by decide +kernel
theorem dL_does_149 : decode cL_does 149 = .ok (.sipush 9999, 3) := by decide +kernel
theorem dL_does_152 : decode cL_does 152 = .ok (.invokestatic 8, 3) := by decide +kernel
theorem dL_does_155 : decode cL_does 155 = .ok (.invokestatic 27, 3) := by decide +kernel
theorem dL_does_158 : decode cL_does 158 = .ok (.ireturn, 1) := by decide +kernel
theorem dL_does_159 : decode cL_does 159 = .ok (.aload_n 0, 1) := by decide +kernel
theorem dL_does_160 : decode cL_does 160 = .ok (.invokevirtual 31, 3) := by decide +kernel
theorem dL_does_163 : decode cL_does 163 = .ok (.istore 7, 2) := by decide +kernel
theorem dL_does_165 : decode cL_does 165 = .ok (.aload_n 0, 1) := by decide +kernel
theorem dL_does_166 : decode cL_does 166 = .ok (.invokevirtual 35, 3) := by decide +kernel
theorem dL_does_169 : decode cL_does 169 = .ok (.iload 7, 2) := by decide +kernel
theorem dL_does_171 : decode cL_does 171 = .ok (.if_icmp .ne 23, 3) := by decide +kernel
theorem dL_does_174 : decode cL_does 174 = .ok (.aload_n 0, 1) := by decide +kernel
theorem dL_does_175 : decode cL_does 175 = .ok (.invokevirtual 31, 3) := by decide +kernel
theorem dL_does_178 : decode cL_does 178 = .ok (.ifCond .ne 16, 3) := by decide +kernel
theorem dL_does_181 : decode cL_does 181 = .ok (.aload_n 0, 1) := by decide +kernel
theorem dL_does_182 : decode cL_does 182 = .ok (.invokevirtual 38, 3) := by decide +kernel
theorem dL_does_185 : decode cL_does 185 = .ok (.bipush 42, 2) := by decide +kernel
theorem dL_does_187 : decode cL_does 187 = .ok (.if_icmp .ne 7, 3) := by decide +kernel
theorem dL_does_190 : decode cL_does 190 = .ok (.iconst 1, 1) := by decide +kernel
theorem dL_does_191 : decode cL_does 191 = .ok (.goto 4, 3) := by decide +kernel
theorem dL_does_194 : decode cL_does 194 = .ok (.iconst 0, 1) := by decide +kernel
theorem dL_does_195 : decode cL_does 195 = .ok (.ireturn, 1) := by decide +kernel
theorem dL_does_196 : decode cL_does 196 = .ok (.aload_n 0, 1) := by decide +kernel
theorem dL_does_197 : decode cL_does 197 = .ok (.invokevirtual 41, 3) := by decide +kernel
theorem dL_does_200 : decode cL_does 200 = .ok (.ifCond .ne 10, 3) := by decide +kernel
theorem dL_does_203 : decode cL_does 203 = .ok (.aload_n 0, 1) := by decide +kernel
theorem dL_does_204 : decode cL_does 204 = .ok (.invokestatic 45, 3) := by decide +kernel
theorem dL_does_207 : decode cL_does 207 = .ok (.ifCond .eq 7, 3) := by decide +kernel
theorem dL_does_210 : decode cL_does 210 = .ok (.iconst 1, 1) := by decide +kernel
theorem dL_does_211 : decode cL_does 211 = .ok (.goto 4, 3) := by decide +kernel
theorem dL_does_214 : decode cL_does 214 = .ok (.iconst 0, 1) := by decide +kernel
theorem dL_does_215 : decode cL_does 215 = .ok (.ireturn, 1) := by decide +kernel
theorem dL_does_216 : decode cL_does 216 = .ok (.aload_n 0, 1) := by decide +kernel
theorem dL_does_217 : decode cL_does 217 = .ok (.invokevirtual 49, 3) := by decide +kernel
theorem dL_does_220 : decode cL_does 220 = .ok (.ifCond .eq 10, 3) := by decide +kernel
theorem dL_does_223 : decode cL_does 223 = .ok (.aload_n 0, 1) := by decide +kernel
theorem dL_does_224 : decode cL_does 224 = .ok (.invokestatic 52, 3) := by decide +kernel
theorem dL_does_227 : decode cL_does 227 = .ok (.ifCond .eq 7, 3) := by decide +kernel
theorem dL_does_230 : decode cL_does 230 = .ok (.iconst 1, 1) := by decide +kernel
theorem dL_does_231 : decode cL_does 231 = .ok (.goto 4, 3) := by decide +kernel
theorem dL_does_234 : decode cL_does 234 = .ok (.iconst 0, 1) := by decide +kernel
theorem dL_does_235 : decode cL_does 235 = .ok (.ireturn, 1) := by decide +kernel
theorem dL_does_236 : decode cL_does 236 = .ok (.aload_n 0, 1) := by decide +kernel
theorem dL_does_237 : decode cL_does 237 = .ok (.iload_n 3, 1) := by decide +kernel
theorem dL_does_238 : decode cL_does 238 = .ok (.iload 4, 2) := by decide +kernel
theorem dL_does_240 : decode cL_does 240 = .ok (.invokevirtual 19, 3) := by decide +kernel
theorem dL_does_243 : decode cL_does 243 = .ok (.ifCond .eq 13, 3) := by decide +kernel
theorem dL_does_246 : decode cL_does 246 = .ok (.aload_n 0, 1) := by decide +kernel
theorem dL_does_247 : decode cL_does 247 = .ok (.iload_n 3, 1) := by decide +kernel
theorem dL_does_248 : decode cL_does 248 = .ok (.iload 4, 2) := by decide +kernel
theorem dL_does_250 : decode cL_does 250 = .ok (.invokestatic 55, 3) := by decide +kernel
theorem dL_does_253 : decode cL_does 253 = .ok (.ifCond .eq 7, 3) := by decide +kernel
theorem dL_does_256 : decode cL_does 256 = .ok (.iconst 1, 1) := by decide +kernel
theorem dL_does_257 : decode cL_does 257 = .ok (.goto 4, 3) := by decide +kernel
theorem dL_does_260 : decode cL_does 260 = .ok (.iconst 0, 1) := by decide +kernel
theorem dL_does_261 : decode cL_does 261 = .ok (.ireturn, 1) := by decide +kernel
theorem dL_does_262 : decode cL_does 262 = .ok (.aload_n 0, 1) := by decide +kernel
theorem dL_does_263 : decode cL_does 263 = .ok (.iload_n 3, 1) := by decide +kernel
theorem dL_does_264 : decode cL_does 264 = .ok (.iload 4, 2) := by decide +kernel
theorem dL_does_266 : decode cL_does 266 = .ok (.iload_n 2, 1) := by decide +kernel
theorem dL_does_267 : decode cL_does 267 = .ok (.bipush 16, 2) := by decide +kernel
theorem dL_does_269 : decode cL_does 269 = .ok (.invokestatic 8, 3) := by decide +kernel
theorem dL_does_272 : decode cL_does 272 = .ok (.invokestatic 59, 3) := by decide +kernel
theorem dL_does_275 : decode cL_does 275 = .ok (.ireturn, 1) := by decide +kernel
theorem dL_isMade_0 : decode cL_isMade 0 = .ok (.aload_n 0, 1) := by decide +kernel
theorem dL_isMade_1 : decode cL_isMade 1 = .ok (.iload_n 1, 1) := by decide +kernel
theorem dL_isMade_2 : decode cL_isMade 2 = .ok (.invokevirtual 63, 3) := by decide +kernel
theorem dL_isMade_5 : decode cL_isMade 5 = .ok (.istore_n 2, 1) := by decide +kernel
theorem dL_isMade_6 : decode cL_isMade 6 = .ok (.iload_n 2, 1) := by decide +kernel
theorem dL_isMade_7 : decode cL_isMade 7 = .ok (.aload_n 0, 1) := by decide +kernel
theorem dL_isMade_8 : decode cL_isMade 8 = .ok (.invokevirtual 67, 3) := by decide +kernel
theorem dL_isMade_11 : decode cL_isMade 11 = .ok (.if_icmp .ne 30, 3) := by decide +kernel
theorem dL_isMade_14 : decode cL_isMade 14 = .ok (.aload_n 0, 1) := by decide +kernel
theorem dL_isMade_15 : decode cL_isMade 15 = .ok (.invokevirtual 70, 3) := by decide +kernel
theorem dL_isMade_18 : decode cL_isMade 18 = .ok (.bipush 42, 2) := by decide +kernel
theorem dL_isMade_20 : decode cL_isMade 20 = .ok (.if_icmp .ne 21, 3) := by decide +kernel
theorem dL_isMade_23 : decode cL_isMade 23 = .ok (.aload_n 0, 1) := by decide +kernel
theorem dL_isMade_24 : decode cL_isMade 24 = .ok (.invokevirtual 31, 3) := by decide +kernel
theorem dL_isMade_27 : decode cL_isMade 27 = .ok (.ifCond .ne 14, 3) := by decide +kernel
theorem dL_isMade_30 : decode cL_isMade 30 = .ok (.aload_n 0, 1) := by decide +kernel
theorem dL_isMade_31 : decode cL_isMade 31 = .ok (.invokevirtual 49, 3) := by decide +kernel
theorem dL_isMade_34 : decode cL_isMade 34 = .ok (.ifCond .le 7, 3) := by decide +kernel
theorem dL_isMade_37 : decode cL_isMade 37 = .ok (.iconst 1, 1) := by decide +kernel
theorem dL_isMade_38 : decode cL_isMade 38 = .ok (.goto 4, 3) := by decide +kernel
theorem dL_isMade_41 : decode cL_isMade 41 = .ok (.iconst 0, 1) := by decide +kernel
theorem dL_isMade_42 : decode cL_isMade 42 = .ok (.ireturn, 1) := by decide +kernel
theorem dL_isSettled_0 : decode cL_isSettled 0 = .ok (.aload_n 0, 1) := by decide +kernel
theorem dL_isSettled_1 : decode cL_isSettled 1 = .ok (.invokevirtual 73, 3) := by decide +kernel
theorem dL_isSettled_4 : decode cL_isSettled 4 = .ok (.istore_n 1, 1) := by decide +kernel
theorem dL_isSettled_5 : decode cL_isSettled 5 = .ok (.aload_n 0, 1) := by decide +kernel
theorem dL_isSettled_6 : decode cL_isSettled 6 = .ok (.invokevirtual 49, 3) := by decide +kernel
theorem dL_isSettled_9 : decode cL_isSettled 9 = .ok (.istore_n 2, 1) := by decide +kernel
theorem dL_isSettled_10 : decode cL_isSettled 10 = .ok (.aload_n 0, 1) := by decide +kernel
theorem dL_isSettled_11 : decode cL_isSettled 11 = .ok (.invokevirtual 31, 3) := by decide +kernel
theorem dL_isSettled_14 : decode cL_isSettled 14 = .ok (.istore_n 3, 1) := by decide +kernel
theorem dL_isSettled_15 : decode cL_isSettled 15 = .ok (.iload_n 1, 1) := by decide +kernel
theorem dL_isSettled_16 : decode cL_isSettled 16 = .ok (.ifCond .le 88, 3) := by decide +kernel
theorem dL_isSettled_19 : decode cL_isSettled 19 = .ok (.aload_n 0, 1) := by decide +kernel
theorem dL_isSettled_20 : decode cL_isSettled 20 = .ok (.invokevirtual 76, 3) := by decide +kernel
theorem dL_isSettled_23 : decode cL_isSettled 23 = .ok (.istore 4, 2) := by decide +kernel
theorem dL_isSettled_25 : decode cL_isSettled 25 = .ok (.aload_n 0, 1) := by decide +kernel
theorem dL_isSettled_26 : decode cL_isSettled 26 = .ok (.iload 4, 2) := by decide +kernel
theorem dL_isSettled_28 : decode cL_isSettled 28 = .ok (.bipush 7, 2) := by decide +kernel
theorem dL_isSettled_30 : decode cL_isSettled 30 = .ok (.idiv, 1) := by decide +kernel
theorem dL_isSettled_31 : decode cL_isSettled 31 = .ok (.iload 4, 2) := by decide +kernel
theorem dL_isSettled_33 : decode cL_isSettled 33 = .ok (.bipush 7, 2) := by decide +kernel
theorem dL_isSettled_35 : decode cL_isSettled 35 = .ok (.irem, 1) := by decide +kernel
theorem dL_isSettled_36 : decode cL_isSettled 36 = .ok (.invokevirtual 79, 3) := by decide +kernel
theorem dL_isSettled_39 : decode cL_isSettled 39 = .ok (.iconst 1, 1) := by decide +kernel
theorem dL_isSettled_40 : decode cL_isSettled 40 = .ok (.if_icmp .ne 7, 3) := by decide +kernel
theorem dL_isSettled_43 : decode cL_isSettled 43 = .ok (.iconst 1, 1) := by decide +kernel
theorem dL_isSettled_44 : decode cL_isSettled 44 = .ok (.goto 4, 3) := by decide +kernel
theorem dL_isSettled_47 : decode cL_isSettled 47 = .ok (.iconst 0, 1) := by decide +kernel
theorem dL_isSettled_48 : decode cL_isSettled 48 = .ok (.istore 5, 2) := by decide +kernel
theorem dL_isSettled_50 : decode cL_isSettled 50 = .ok (.iload 5, 2) := by decide +kernel
theorem dL_isSettled_52 : decode cL_isSettled 52 = .ok (.ifCond .eq 50, 3) := by decide +kernel
theorem dL_isSettled_55 : decode cL_isSettled 55 = .ok (.aload_n 0, 1) := by decide +kernel
theorem dL_isSettled_56 : decode cL_isSettled 56 = .ok (.invokevirtual 82, 3) := by decide +kernel
theorem dL_isSettled_59 : decode cL_isSettled 59 = .ok (.iload_n 1, 1) := by decide +kernel
theorem dL_isSettled_60 : decode cL_isSettled 60 = .ok (.if_icmp .ne 42, 3) := by decide +kernel
theorem dL_isSettled_63 : decode cL_isSettled 63 = .ok (.aload_n 0, 1) := by decide +kernel
theorem dL_isSettled_64 : decode cL_isSettled 64 = .ok (.invokevirtual 31, 3) := by decide +kernel
theorem dL_isSettled_67 : decode cL_isSettled 67 = .ok (.iload_n 3, 1) := by decide +kernel
theorem dL_isSettled_68 : decode cL_isSettled 68 = .ok (.iload_n 1, 1) := by decide +kernel
theorem dL_isSettled_69 : decode cL_isSettled 69 = .ok (.iadd, 1) := by decide +kernel
theorem dL_isSettled_70 : decode cL_isSettled 70 = .ok (.if_icmp .ne 32, 3) := by decide +kernel
theorem dL_isSettled_73 : decode cL_isSettled 73 = .ok (.aload_n 0, 1) := by decide +kernel
theorem dL_isSettled_74 : decode cL_isSettled 74 = .ok (.invokevirtual 49, 3) := by decide +kernel
theorem dL_isSettled_77 : decode cL_isSettled 77 = .ok (.iload_n 2, 1) := by decide +kernel
theorem dL_isSettled_78 : decode cL_isSettled 78 = .ok (.if_icmp .ne 24, 3) := by decide +kernel
theorem dL_isSettled_81 : decode cL_isSettled 81 = .ok (.aload_n 0, 1) := by decide +kernel
theorem dL_isSettled_82 : decode cL_isSettled 82 = .ok (.iload 4, 2) := by decide +kernel
theorem dL_isSettled_84 : decode cL_isSettled 84 = .ok (.bipush 7, 2) := by decide +kernel
theorem dL_isSettled_86 : decode cL_isSettled 86 = .ok (.idiv, 1) := by decide +kernel
theorem dL_isSettled_87 : decode cL_isSettled 87 = .ok (.iload 4, 2) := by decide +kernel
theorem dL_isSettled_89 : decode cL_isSettled 89 = .ok (.bipush 7, 2) := by decide +kernel
theorem dL_isSettled_91 : decode cL_isSettled 91 = .ok (.irem, 1) := by decide +kernel
theorem dL_isSettled_92 : decode cL_isSettled 92 = .ok (.invokevirtual 19, 3) := by decide +kernel
theorem dL_isSettled_95 : decode cL_isSettled 95 = .ok (.ifCond .eq 7, 3) := by decide +kernel
theorem dL_isSettled_98 : decode cL_isSettled 98 = .ok (.iconst 1, 1) := by decide +kernel
theorem dL_isSettled_99 : decode cL_isSettled 99 = .ok (.goto 4, 3) := by decide +kernel
theorem dL_isSettled_102 : decode cL_isSettled 102 = .ok (.iconst 0, 1) := by decide +kernel
theorem dL_isSettled_103 : decode cL_isSettled 103 = .ok (.ireturn, 1) := by decide +kernel
theorem dL_isSettled_104 : decode cL_isSettled 104 = .ok (.aload_n 0, 1) := by decide +kernel
theorem dL_isSettled_105 : decode cL_isSettled 105 = .ok (.invokevirtual 82, 3) := by decide +kernel
theorem dL_isSettled_108 : decode cL_isSettled 108 = .ok (.ifCond .ne 15, 3) := by decide +kernel
theorem dL_isSettled_111 : decode cL_isSettled 111 = .ok (.aload_n 0, 1) := by decide +kernel
theorem dL_isSettled_112 : decode cL_isSettled 112 = .ok (.invokevirtual 31, 3) := by decide +kernel
theorem dL_isSettled_115 : decode cL_isSettled 115 = .ok (.iload_n 3, 1) := by decide +kernel
theorem dL_isSettled_116 : decode cL_isSettled 116 = .ok (.if_icmp .ne 7, 3) := by decide +kernel
theorem dL_isSettled_119 : decode cL_isSettled 119 = .ok (.iconst 1, 1) := by decide +kernel
theorem dL_isSettled_120 : decode cL_isSettled 120 = .ok (.goto 4, 3) := by decide +kernel
theorem dL_isSettled_123 : decode cL_isSettled 123 = .ok (.iconst 0, 1) := by decide +kernel
theorem dL_isSettled_124 : decode cL_isSettled 124 = .ok (.ireturn, 1) := by decide +kernel
theorem dL_isFinished_0 : decode cL_isFinished 0 = .ok (.aload_n 0, 1) := by decide +kernel
theorem dL_isFinished_1 : decode cL_isFinished 1 = .ok (.invokevirtual 31, 3) := by decide +kernel
theorem dL_isFinished_4 : decode cL_isFinished 4 = .ok (.istore_n 1, 1) := by decide +kernel
theorem dL_isFinished_5 : decode cL_isFinished 5 = .ok (.aload_n 0, 1) := by decide +kernel
theorem dL_isFinished_6 : decode cL_isFinished 6 = .ok (.iconst 0, 1) := by decide +kernel
theorem dL_isFinished_7 : decode cL_isFinished 7 = .ok (.iconst 0, 1) := by decide +kernel
theorem dL_isFinished_8 : decode cL_isFinished 8 = .ok (.invokevirtual 85, 3) := by decide +kernel
theorem dL_isFinished_11 : decode cL_isFinished 11 = .ok (.istore_n 2, 1) := by decide +kernel
theorem dL_isFinished_12 : decode cL_isFinished 12 = .ok (.aload_n 0, 1) := by decide +kernel
theorem dL_isFinished_13 : decode cL_isFinished 13 = .ok (.iconst 5, 1) := by decide +kernel
theorem dL_isFinished_14 : decode cL_isFinished 14 = .ok (.bipush 6, 2) := by decide +kernel
theorem dL_isFinished_16 : decode cL_isFinished 16 = .ok (.invokevirtual 88, 3) := by decide +kernel
theorem dL_isFinished_19 : decode cL_isFinished 19 = .ok (.istore_n 3, 1) := by decide +kernel
theorem dL_isFinished_20 : decode cL_isFinished 20 = .ok (.aload_n 0, 1) := by decide +kernel
theorem dL_isFinished_21 : decode cL_isFinished 21 = .ok (.invokevirtual 91, 3) := by decide +kernel
theorem dL_isFinished_24 : decode cL_isFinished 24 = .ok (.istore 4, 2) := by decide +kernel
theorem dL_isFinished_26 : decode cL_isFinished 26 = .ok (.aload_n 0, 1) := by decide +kernel
theorem dL_isFinished_27 : decode cL_isFinished 27 = .ok (.invokevirtual 31, 3) := by decide +kernel
theorem dL_isFinished_30 : decode cL_isFinished 30 = .ok (.iload_n 1, 1) := by decide +kernel
theorem dL_isFinished_31 : decode cL_isFinished 31 = .ok (.iload 4, 2) := by decide +kernel
theorem dL_isFinished_33 : decode cL_isFinished 33 = .ok (.iadd, 1) := by decide +kernel
theorem dL_isFinished_34 : decode cL_isFinished 34 = .ok (.if_icmp .ne 62, 3) := by decide +kernel
theorem dL_isFinished_37 : decode cL_isFinished 37 = .ok (.aload_n 0, 1) := by decide +kernel
theorem dL_isFinished_38 : decode cL_isFinished 38 = .ok (.invokevirtual 94, 3) := by decide +kernel
theorem dL_isFinished_41 : decode cL_isFinished 41 = .ok (.ifCond .eq 55, 3) := by decide +kernel
theorem dL_isFinished_44 : decode cL_isFinished 44 = .ok (.aload_n 0, 1) := by decide +kernel
theorem dL_isFinished_45 : decode cL_isFinished 45 = .ok (.invokevirtual 38, 3) := by decide +kernel
theorem dL_isFinished_48 : decode cL_isFinished 48 = .ok (.ifCond .ne 48, 3) := by decide +kernel
theorem dL_isFinished_51 : decode cL_isFinished 51 = .ok (.aload_n 0, 1) := by decide +kernel
theorem dL_isFinished_52 : decode cL_isFinished 52 = .ok (.iconst 0, 1) := by decide +kernel
theorem dL_isFinished_53 : decode cL_isFinished 53 = .ok (.iconst 0, 1) := by decide +kernel
theorem dL_isFinished_54 : decode cL_isFinished 54 = .ok (.invokevirtual 97, 3) := by decide +kernel
theorem dL_isFinished_57 : decode cL_isFinished 57 = .ok (.iload_n 2, 1) := by decide +kernel
theorem dL_isFinished_58 : decode cL_isFinished 58 = .ok (.if_icmp .ne 38, 3) := by decide +kernel
theorem dL_isFinished_61 : decode cL_isFinished 61 = .ok (.aload_n 0, 1) := by decide +kernel
theorem dL_isFinished_62 : decode cL_isFinished 62 = .ok (.iconst 5, 1) := by decide +kernel
theorem dL_isFinished_63 : decode cL_isFinished 63 = .ok (.bipush 6, 2) := by decide +kernel
theorem dL_isFinished_65 : decode cL_isFinished 65 = .ok (.invokevirtual 100, 3) := by decide +kernel
theorem dL_isFinished_68 : decode cL_isFinished 68 = .ok (.iload_n 3, 1) := by decide +kernel
theorem dL_isFinished_69 : decode cL_isFinished 69 = .ok (.if_icmp .ne 27, 3) := by decide +kernel
theorem dL_isFinished_72 : decode cL_isFinished 72 = .ok (.aload_n 0, 1) := by decide +kernel
theorem dL_isFinished_73 : decode cL_isFinished 73 = .ok (.invokevirtual 31, 3) := by decide +kernel
theorem dL_isFinished_76 : decode cL_isFinished 76 = .ok (.aload_n 0, 1) := by decide +kernel
theorem dL_isFinished_77 : decode cL_isFinished 77 = .ok (.invokevirtual 67, 3) := by decide +kernel
theorem dL_isFinished_80 : decode cL_isFinished 80 = .ok (.if_icmp .ne 16, 3) := by decide +kernel
theorem dL_isFinished_83 : decode cL_isFinished 83 = .ok (.aload_n 0, 1) := by decide +kernel
theorem dL_isFinished_84 : decode cL_isFinished 84 = .ok (.invokevirtual 70, 3) := by decide +kernel
theorem dL_isFinished_87 : decode cL_isFinished 87 = .ok (.bipush 42, 2) := by decide +kernel
theorem dL_isFinished_89 : decode cL_isFinished 89 = .ok (.if_icmp .ne 7, 3) := by decide +kernel
theorem dL_isFinished_92 : decode cL_isFinished 92 = .ok (.iconst 1, 1) := by decide +kernel
theorem dL_isFinished_93 : decode cL_isFinished 93 = .ok (.goto 4, 3) := by decide +kernel
theorem dL_isFinished_96 : decode cL_isFinished 96 = .ok (.iconst 0, 1) := by decide +kernel
theorem dL_isFinished_97 : decode cL_isFinished 97 = .ok (.ireturn, 1) := by decide +kernel
theorem dL_isErased_0 : decode cL_isErased 0 = .ok (.aload_n 0, 1) := by decide +kernel
theorem dL_isErased_1 : decode cL_isErased 1 = .ok (.invokevirtual 38, 3) := by decide +kernel
theorem dL_isErased_4 : decode cL_isErased 4 = .ok (.istore_n 3, 1) := by decide +kernel
theorem dL_isErased_5 : decode cL_isErased 5 = .ok (.aload_n 0, 1) := by decide +kernel
theorem dL_isErased_6 : decode cL_isErased 6 = .ok (.iload_n 1, 1) := by decide +kernel
theorem dL_isErased_7 : decode cL_isErased 7 = .ok (.iload_n 2, 1) := by decide +kernel
theorem dL_isErased_8 : decode cL_isErased 8 = .ok (.invokevirtual 97, 3) := by decide +kernel
theorem dL_isErased_11 : decode cL_isErased 11 = .ok (.istore 4, 2) := by decide +kernel
theorem dL_isErased_13 : decode cL_isErased 13 = .ok (.aload_n 0, 1) := by decide +kernel
theorem dL_isErased_14 : decode cL_isErased 14 = .ok (.iload_n 1, 1) := by decide +kernel
theorem dL_isErased_15 : decode cL_isErased 15 = .ok (.iload_n 2, 1) := by decide +kernel
theorem dL_isErased_16 : decode cL_isErased 16 = .ok (.invokevirtual 100, 3) := by decide +kernel
theorem dL_isErased_19 : decode cL_isErased 19 = .ok (.istore 5, 2) := by decide +kernel
theorem dL_isErased_21 : decode cL_isErased 21 = .ok (.aload_n 0, 1) := by decide +kernel
theorem dL_isErased_22 : decode cL_isErased 22 = .ok (.iload_n 1, 1) := by decide +kernel
theorem dL_isErased_23 : decode cL_isErased 23 = .ok (.iload_n 2, 1) := by decide +kernel
theorem dL_isErased_24 : decode cL_isErased 24 = .ok (.invokevirtual 103, 3) := by decide +kernel
theorem dL_isErased_27 : decode cL_isErased 27 = .ok (.iload 4, 2) := by decide +kernel
theorem dL_isErased_29 : decode cL_isErased 29 = .ok (.if_icmp .ne 44, 3) := by decide +kernel
theorem dL_isErased_32 : decode cL_isErased 32 = .ok (.aload_n 0, 1) := by decide +kernel
theorem dL_isErased_33 : decode cL_isErased 33 = .ok (.invokevirtual 38, 3) := by decide +kernel
theorem dL_isErased_36 : decode cL_isErased 36 = .ok (.iload_n 3, 1) := by decide +kernel
theorem dL_isErased_37 : decode cL_isErased 37 = .ok (.iload 4, 2) := by decide +kernel
theorem dL_isErased_39 : decode cL_isErased 39 = .ok (.iadd, 1) := by decide +kernel
theorem dL_isErased_40 : decode cL_isErased 40 = .ok (.if_icmp .ne 33, 3) := by decide +kernel
theorem dL_isErased_43 : decode cL_isErased 43 = .ok (.aload_n 0, 1) := by decide +kernel
theorem dL_isErased_44 : decode cL_isErased 44 = .ok (.iload 5, 2) := by decide +kernel
theorem dL_isErased_46 : decode cL_isErased 46 = .ok (.bipush 7, 2) := by decide +kernel
theorem dL_isErased_48 : decode cL_isErased 48 = .ok (.idiv, 1) := by decide +kernel
theorem dL_isErased_49 : decode cL_isErased 49 = .ok (.iload 5, 2) := by decide +kernel
theorem dL_isErased_51 : decode cL_isErased 51 = .ok (.bipush 7, 2) := by decide +kernel
theorem dL_isErased_53 : decode cL_isErased 53 = .ok (.irem, 1) := by decide +kernel
theorem dL_isErased_54 : decode cL_isErased 54 = .ok (.invokevirtual 19, 3) := by decide +kernel
theorem dL_isErased_57 : decode cL_isErased 57 = .ok (.ifCond .ne 16, 3) := by decide +kernel
theorem dL_isErased_60 : decode cL_isErased 60 = .ok (.aload_n 0, 1) := by decide +kernel
theorem dL_isErased_61 : decode cL_isErased 61 = .ok (.iload_n 1, 1) := by decide +kernel
theorem dL_isErased_62 : decode cL_isErased 62 = .ok (.iload_n 2, 1) := by decide +kernel
theorem dL_isErased_63 : decode cL_isErased 63 = .ok (.invokevirtual 19, 3) := by decide +kernel
theorem dL_isErased_66 : decode cL_isErased 66 = .ok (.ifCond .ne 7, 3) := by decide +kernel
theorem dL_isErased_69 : decode cL_isErased 69 = .ok (.iconst 1, 1) := by decide +kernel
theorem dL_isErased_70 : decode cL_isErased 70 = .ok (.goto 4, 3) := by decide +kernel
theorem dL_isErased_73 : decode cL_isErased 73 = .ok (.iconst 0, 1) := by decide +kernel
theorem dL_isErased_74 : decode cL_isErased 74 = .ok (.ireturn, 1) := by decide +kernel
theorem dL_isDrawn_0 : decode cL_isDrawn 0 = .ok (.aload_n 0, 1) := by decide +kernel
theorem dL_isDrawn_1 : decode cL_isDrawn 1 = .ok (.iload_n 1, 1) := by decide +kernel
theorem dL_isDrawn_2 : decode cL_isDrawn 2 = .ok (.iload_n 2, 1) := by decide +kernel
theorem dL_isDrawn_3 : decode cL_isDrawn 3 = .ok (.invokevirtual 106, 3) := by decide +kernel
theorem dL_isDrawn_6 : decode cL_isDrawn 6 = .ok (.istore 4, 2) := by decide +kernel
theorem dL_isDrawn_8 : decode cL_isDrawn 8 = .ok (.iload 4, 2) := by decide +kernel
theorem dL_isDrawn_10 : decode cL_isDrawn 10 = .ok (.ifCond .ne 5, 3) := by decide +kernel
theorem dL_isDrawn_13 : decode cL_isDrawn 13 = .ok (.iconst 1, 1) := by decide +kernel
theorem dL_isDrawn_14 : decode cL_isDrawn 14 = .ok (.ireturn, 1) := by decide +kernel
theorem dL_isDrawn_15 : decode cL_isDrawn 15 = .ok (.aload_n 0, 1) := by decide +kernel
theorem dL_isDrawn_16 : decode cL_isDrawn 16 = .ok (.iload_n 1, 1) := by decide +kernel
theorem dL_isDrawn_17 : decode cL_isDrawn 17 = .ok (.iload_n 2, 1) := by decide +kernel
theorem dL_isDrawn_18 : decode cL_isDrawn 18 = .ok (.iload_n 3, 1) := by decide +kernel
theorem dL_isDrawn_19 : decode cL_isDrawn 19 = .ok (.iload 4, 2) := by decide +kernel
theorem dL_isDrawn_21 : decode cL_isDrawn 21 = .ok (.invokestatic 8, 3) := by decide +kernel
theorem dL_isDrawn_24 : decode cL_isDrawn 24 = .ok (.invokevirtual 109, 3) := by decide +kernel
theorem dL_isDrawn_27 : decode cL_isDrawn 27 = .ok (.istore 5, 2) := by decide +kernel
theorem dL_isDrawn_29 : decode cL_isDrawn 29 = .ok (.iload 5, 2) := by decide +kernel
theorem dL_isDrawn_31 : decode cL_isDrawn 31 = .ok (.bipush 42, 2) := by decide +kernel
theorem dL_isDrawn_33 : decode cL_isDrawn 33 = .ok (.idiv, 1) := by decide +kernel
theorem dL_isDrawn_34 : decode cL_isDrawn 34 = .ok (.istore 6, 2) := by decide +kernel
theorem dL_isDrawn_36 : decode cL_isDrawn 36 = .ok (.iload 5, 2) := by decide +kernel
theorem dL_isDrawn_38 : decode cL_isDrawn 38 = .ok (.bipush 42, 2) := by decide +kernel
theorem dL_isDrawn_40 : decode cL_isDrawn 40 = .ok (.irem, 1) := by decide +kernel
theorem dL_isDrawn_41 : decode cL_isDrawn 41 = .ok (.istore 7, 2) := by decide +kernel
theorem dL_isDrawn_43 : decode cL_isDrawn 43 = .ok (.aload_n 0, 1) := by decide +kernel
theorem dL_isDrawn_44 : decode cL_isDrawn 44 = .ok (.invokevirtual 38, 3) := by decide +kernel
theorem dL_isDrawn_47 : decode cL_isDrawn 47 = .ok (.istore 8, 2) := by decide +kernel
theorem dL_isDrawn_49 : decode cL_isDrawn 49 = .ok (.aload_n 0, 1) := by decide +kernel
theorem dL_isDrawn_50 : decode cL_isDrawn 50 = .ok (.iload_n 1, 1) := by decide +kernel
theorem dL_isDrawn_51 : decode cL_isDrawn 51 = .ok (.iload_n 2, 1) := by decide +kernel
theorem dL_isDrawn_52 : decode cL_isDrawn 52 = .ok (.invokevirtual 14, 3) := by decide +kernel
theorem dL_isDrawn_55 : decode cL_isDrawn 55 = .ok (.istore 9, 2) := by decide +kernel
theorem dL_isDrawn_57 : decode cL_isDrawn 57 = .ok (.aload_n 0, 1) := by decide +kernel
theorem dL_isDrawn_58 : decode cL_isDrawn 58 = .ok (.iload 6, 2) := by decide +kernel
theorem dL_isDrawn_60 : decode cL_isDrawn 60 = .ok (.bipush 7, 2) := by decide +kernel
theorem dL_isDrawn_62 : decode cL_isDrawn 62 = .ok (.idiv, 1) := by decide +kernel
theorem dL_isDrawn_63 : decode cL_isDrawn 63 = .ok (.iload 6, 2) := by decide +kernel
theorem dL_isDrawn_65 : decode cL_isDrawn 65 = .ok (.bipush 7, 2) := by decide +kernel
theorem dL_isDrawn_67 : decode cL_isDrawn 67 = .ok (.irem, 1) := by decide +kernel
theorem dL_isDrawn_68 : decode cL_isDrawn 68 = .ok (.iload 7, 2) := by decide +kernel
theorem dL_isDrawn_70 : decode cL_isDrawn 70 = .ok (.bipush 7, 2) := by decide +kernel
theorem dL_isDrawn_72 : decode cL_isDrawn 72 = .ok (.idiv, 1) := by decide +kernel
theorem dL_isDrawn_73 : decode cL_isDrawn 73 = .ok (.iload 7, 2) := by decide +kernel
theorem dL_isDrawn_75 : decode cL_isDrawn 75 = .ok (.bipush 7, 2) := by decide +kernel
theorem dL_isDrawn_77 : decode cL_isDrawn 77 = .ok (.irem, 1) := by decide +kernel
theorem dL_isDrawn_78 : decode cL_isDrawn 78 = .ok (.invokevirtual 112, 3) := by decide +kernel
theorem dL_isDrawn_81 : decode cL_isDrawn 81 = .ok (.ifCond .ne 7, 3) := by decide +kernel
theorem dL_isDrawn_84 : decode cL_isDrawn 84 = .ok (.iconst 1, 1) := by decide +kernel
theorem dL_isDrawn_85 : decode cL_isDrawn 85 = .ok (.goto 4, 3) := by decide +kernel
theorem dL_isDrawn_88 : decode cL_isDrawn 88 = .ok (.iconst 0, 1) := by decide +kernel
theorem dL_isDrawn_89 : decode cL_isDrawn 89 = .ok (.istore 10, 2) := by decide +kernel
theorem dL_isDrawn_91 : decode cL_isDrawn 91 = .ok (.aload_n 0, 1) := by decide +kernel
theorem dL_isDrawn_92 : decode cL_isDrawn 92 = .ok (.iload 6, 2) := by decide +kernel
theorem dL_isDrawn_94 : decode cL_isDrawn 94 = .ok (.bipush 7, 2) := by decide +kernel
theorem dL_isDrawn_96 : decode cL_isDrawn 96 = .ok (.idiv, 1) := by decide +kernel
theorem dL_isDrawn_97 : decode cL_isDrawn 97 = .ok (.iload 6, 2) := by decide +kernel
theorem dL_isDrawn_99 : decode cL_isDrawn 99 = .ok (.bipush 7, 2) := by decide +kernel
theorem dL_isDrawn_101 : decode cL_isDrawn 101 = .ok (.irem, 1) := by decide +kernel
theorem dL_isDrawn_102 : decode cL_isDrawn 102 = .ok (.iload 7, 2) := by decide +kernel
theorem dL_isDrawn_104 : decode cL_isDrawn 104 = .ok (.bipush 7, 2) := by decide +kernel
theorem dL_isDrawn_106 : decode cL_isDrawn 106 = .ok (.idiv, 1) := by decide +kernel
theorem dL_isDrawn_107 : decode cL_isDrawn 107 = .ok (.iload 7, 2) := by decide +kernel
theorem dL_isDrawn_109 : decode cL_isDrawn 109 = .ok (.bipush 7, 2) := by decide +kernel
theorem dL_isDrawn_111 : decode cL_isDrawn 111 = .ok (.irem, 1) := by decide +kernel
theorem dL_isDrawn_112 : decode cL_isDrawn 112 = .ok (.invokevirtual 116, 3) := by decide +kernel
theorem dL_isDrawn_115 : decode cL_isDrawn 115 = .ok (.istore 11, 2) := by decide +kernel
theorem dL_isDrawn_117 : decode cL_isDrawn 117 = .ok (.iload 10, 2) := by decide +kernel
theorem dL_isDrawn_119 : decode cL_isDrawn 119 = .ok (.ifCond .eq 82, 3) := by decide +kernel
theorem dL_isDrawn_122 : decode cL_isDrawn 122 = .ok (.aload_n 0, 1) := by decide +kernel
theorem dL_isDrawn_123 : decode cL_isDrawn 123 = .ok (.invokevirtual 38, 3) := by decide +kernel
theorem dL_isDrawn_126 : decode cL_isDrawn 126 = .ok (.iload 8, 2) := by decide +kernel
theorem dL_isDrawn_128 : decode cL_isDrawn 128 = .ok (.iload 9, 2) := by decide +kernel
theorem dL_isDrawn_130 : decode cL_isDrawn 130 = .ok (.isub, 1) := by decide +kernel
theorem dL_isDrawn_131 : decode cL_isDrawn 131 = .ok (.if_icmp .ne 70, 3) := by decide +kernel
theorem dL_isDrawn_134 : decode cL_isDrawn 134 = .ok (.iload 11, 2) := by decide +kernel
theorem dL_isDrawn_136 : decode cL_isDrawn 136 = .ok (.bipush 42, 2) := by decide +kernel
theorem dL_isDrawn_138 : decode cL_isDrawn 138 = .ok (.aload_n 0, 1) := by decide +kernel
theorem dL_isDrawn_139 : decode cL_isDrawn 139 = .ok (.invokevirtual 38, 3) := by decide +kernel
theorem dL_isDrawn_142 : decode cL_isDrawn 142 = .ok (.isub, 1) := by decide +kernel
theorem dL_isDrawn_143 : decode cL_isDrawn 143 = .ok (.if_icmp .ne 58, 3) := by decide +kernel
theorem dL_isDrawn_146 : decode cL_isDrawn 146 = .ok (.aload_n 0, 1) := by decide +kernel
theorem dL_isDrawn_147 : decode cL_isDrawn 147 = .ok (.iload_n 1, 1) := by decide +kernel
theorem dL_isDrawn_148 : decode cL_isDrawn 148 = .ok (.iload_n 2, 1) := by decide +kernel
theorem dL_isDrawn_149 : decode cL_isDrawn 149 = .ok (.invokevirtual 97, 3) := by decide +kernel
theorem dL_isDrawn_152 : decode cL_isDrawn 152 = .ok (.iload 9, 2) := by decide +kernel
theorem dL_isDrawn_154 : decode cL_isDrawn 154 = .ok (.if_icmp .ne 47, 3) := by decide +kernel
theorem dL_isDrawn_157 : decode cL_isDrawn 157 = .ok (.aload_n 0, 1) := by decide +kernel
theorem dL_isDrawn_158 : decode cL_isDrawn 158 = .ok (.iload_n 1, 1) := by decide +kernel
theorem dL_isDrawn_159 : decode cL_isDrawn 159 = .ok (.iload_n 2, 1) := by decide +kernel
theorem dL_isDrawn_160 : decode cL_isDrawn 160 = .ok (.invokevirtual 100, 3) := by decide +kernel
theorem dL_isDrawn_163 : decode cL_isDrawn 163 = .ok (.iload 6, 2) := by decide +kernel
theorem dL_isDrawn_165 : decode cL_isDrawn 165 = .ok (.if_icmp .ne 36, 3) := by decide +kernel
theorem dL_isDrawn_168 : decode cL_isDrawn 168 = .ok (.aload_n 0, 1) := by decide +kernel
theorem dL_isDrawn_169 : decode cL_isDrawn 169 = .ok (.iload 7, 2) := by decide +kernel
theorem dL_isDrawn_171 : decode cL_isDrawn 171 = .ok (.bipush 7, 2) := by decide +kernel
theorem dL_isDrawn_173 : decode cL_isDrawn 173 = .ok (.idiv, 1) := by decide +kernel
theorem dL_isDrawn_174 : decode cL_isDrawn 174 = .ok (.iload 7, 2) := by decide +kernel
theorem dL_isDrawn_176 : decode cL_isDrawn 176 = .ok (.bipush 7, 2) := by decide +kernel
theorem dL_isDrawn_178 : decode cL_isDrawn 178 = .ok (.irem, 1) := by decide +kernel
theorem dL_isDrawn_179 : decode cL_isDrawn 179 = .ok (.invokevirtual 19, 3) := by decide +kernel
theorem dL_isDrawn_182 : decode cL_isDrawn 182 = .ok (.ifCond .eq 19, 3) := by decide +kernel
theorem dL_isDrawn_185 : decode cL_isDrawn 185 = .ok (.aload_n 0, 1) := by decide +kernel
theorem dL_isDrawn_186 : decode cL_isDrawn 186 = .ok (.iload_n 1, 1) := by decide +kernel
theorem dL_isDrawn_187 : decode cL_isDrawn 187 = .ok (.iload_n 2, 1) := by decide +kernel
theorem dL_isDrawn_188 : decode cL_isDrawn 188 = .ok (.iload_n 1, 1) := by decide +kernel
theorem dL_isDrawn_189 : decode cL_isDrawn 189 = .ok (.iload_n 2, 1) := by decide +kernel
theorem dL_isDrawn_190 : decode cL_isDrawn 190 = .ok (.invokevirtual 112, 3) := by decide +kernel
theorem dL_isDrawn_193 : decode cL_isDrawn 193 = .ok (.iconst 1, 1) := by decide +kernel
theorem dL_isDrawn_194 : decode cL_isDrawn 194 = .ok (.if_icmp .ne 7, 3) := by decide +kernel
theorem dL_isDrawn_197 : decode cL_isDrawn 197 = .ok (.iconst 1, 1) := by decide +kernel
theorem dL_isDrawn_198 : decode cL_isDrawn 198 = .ok (.goto 4, 3) := by decide +kernel
theorem dL_isDrawn_201 : decode cL_isDrawn 201 = .ok (.iconst 0, 1) := by decide +kernel
theorem dL_isDrawn_202 : decode cL_isDrawn 202 = .ok (.ireturn, 1) := by decide +kernel
theorem dL_areFieldsSo_0 : decode cL_areFieldsSo 0 = .ok (.iconst 0, 1) := by decide +kernel
theorem dL_areFieldsSo_1 : decode cL_areFieldsSo 1 = .ok (.istore_n 1, 1) := by decide +kernel
theorem dL_areFieldsSo_2 : decode cL_areFieldsSo 2 = .ok (.iconst 0, 1) := by decide +kernel
theorem dL_areFieldsSo_3 : decode cL_areFieldsSo 3 = .ok (.istore_n 2, 1) := by decide +kernel
theorem dL_areFieldsSo_4 : decode cL_areFieldsSo 4 = .ok (.iconst 0, 1) := by decide +kernel
theorem dL_areFieldsSo_5 : decode cL_areFieldsSo 5 = .ok (.istore_n 3, 1) := by decide +kernel
theorem dL_areFieldsSo_6 : decode cL_areFieldsSo 6 = .ok (.iconst 0, 1) := by decide +kernel
theorem dL_areFieldsSo_7 : decode cL_areFieldsSo 7 = .ok (.istore 4, 2) := by decide +kernel
theorem dL_areFieldsSo_9 : decode cL_areFieldsSo 9 = .ok (.iconst 0, 1) := by decide +kernel
theorem dL_areFieldsSo_10 : decode cL_areFieldsSo 10 = .ok (.istore 5, 2) := by decide +kernel
theorem dL_areFieldsSo_12 : decode cL_areFieldsSo 12 = .ok (.iconst 1, 1) := by decide +kernel
theorem dL_areFieldsSo_13 : decode cL_areFieldsSo 13 = .ok (.istore 6, 2) := by decide +kernel
theorem dL_areFieldsSo_15 : decode cL_areFieldsSo 15 = .ok (.iconst 0, 1) := by decide +kernel
theorem dL_areFieldsSo_16 : decode cL_areFieldsSo 16 = .ok (.istore 7, 2) := by decide +kernel
theorem dL_areFieldsSo_18 : decode cL_areFieldsSo 18 = .ok (.iload 7, 2) := by decide +kernel
theorem dL_areFieldsSo_20 : decode cL_areFieldsSo 20 = .ok (.bipush 42, 2) := by decide +kernel
theorem dL_areFieldsSo_22 : decode cL_areFieldsSo 22 = .ok (.if_icmp .ge 194, 3) := by decide +kernel
theorem dL_areFieldsSo_25 : decode cL_areFieldsSo 25 = .ok (.iload 7, 2) := by decide +kernel
theorem dL_areFieldsSo_27 : decode cL_areFieldsSo 27 = .ok (.bipush 7, 2) := by decide +kernel
theorem dL_areFieldsSo_29 : decode cL_areFieldsSo 29 = .ok (.idiv, 1) := by decide +kernel
theorem dL_areFieldsSo_30 : decode cL_areFieldsSo 30 = .ok (.istore 8, 2) := by decide +kernel
theorem dL_areFieldsSo_32 : decode cL_areFieldsSo 32 = .ok (.iload 7, 2) := by decide +kernel
theorem dL_areFieldsSo_34 : decode cL_areFieldsSo 34 = .ok (.bipush 7, 2) := by decide +kernel
theorem dL_areFieldsSo_36 : decode cL_areFieldsSo 36 = .ok (.irem, 1) := by decide +kernel
theorem dL_areFieldsSo_37 : decode cL_areFieldsSo 37 = .ok (.istore 9, 2) := by decide +kernel
theorem dL_areFieldsSo_39 : decode cL_areFieldsSo 39 = .ok (.aload_n 0, 1) := by decide +kernel
theorem dL_areFieldsSo_40 : decode cL_areFieldsSo 40 = .ok (.iload 8, 2) := by decide +kernel
theorem dL_areFieldsSo_42 : decode cL_areFieldsSo 42 = .ok (.iload 9, 2) := by decide +kernel
theorem dL_areFieldsSo_44 : decode cL_areFieldsSo 44 = .ok (.invokevirtual 14, 3) := by decide +kernel
theorem dL_areFieldsSo_47 : decode cL_areFieldsSo 47 = .ok (.istore 10, 2) := by decide +kernel
theorem dL_areFieldsSo_49 : decode cL_areFieldsSo 49 = .ok (.iload_n 3, 1) := by decide +kernel
theorem dL_areFieldsSo_50 : decode cL_areFieldsSo 50 = .ok (.iload 10, 2) := by decide +kernel
theorem dL_areFieldsSo_52 : decode cL_areFieldsSo 52 = .ok (.ifCond .le 7, 3) := by decide +kernel
theorem dL_areFieldsSo_55 : decode cL_areFieldsSo 55 = .ok (.iconst 1, 1) := by decide +kernel
theorem dL_areFieldsSo_56 : decode cL_areFieldsSo 56 = .ok (.goto 4, 3) := by decide +kernel
theorem dL_areFieldsSo_59 : decode cL_areFieldsSo 59 = .ok (.iconst 0, 1) := by decide +kernel
theorem dL_areFieldsSo_60 : decode cL_areFieldsSo 60 = .ok (.iadd, 1) := by decide +kernel
theorem dL_areFieldsSo_61 : decode cL_areFieldsSo 61 = .ok (.istore_n 3, 1) := by decide +kernel
theorem dL_areFieldsSo_62 : decode cL_areFieldsSo 62 = .ok (.iload 4, 2) := by decide +kernel
theorem dL_areFieldsSo_64 : decode cL_areFieldsSo 64 = .ok (.iload 10, 2) := by decide +kernel
theorem dL_areFieldsSo_66 : decode cL_areFieldsSo 66 = .ok (.iadd, 1) := by decide +kernel
theorem dL_areFieldsSo_67 : decode cL_areFieldsSo 67 = .ok (.istore 4, 2) := by decide +kernel
theorem dL_areFieldsSo_69 : decode cL_areFieldsSo 69 = .ok (.aload_n 0, 1) := by decide +kernel
theorem dL_areFieldsSo_70 : decode cL_areFieldsSo 70 = .ok (.iload 8, 2) := by decide +kernel
theorem dL_areFieldsSo_72 : decode cL_areFieldsSo 72 = .ok (.iload 9, 2) := by decide +kernel
theorem dL_areFieldsSo_74 : decode cL_areFieldsSo 74 = .ok (.invokevirtual 19, 3) := by decide +kernel
theorem dL_areFieldsSo_77 : decode cL_areFieldsSo 77 = .ok (.ifCond .eq 130, 3) := by decide +kernel
theorem dL_areFieldsSo_80 : decode cL_areFieldsSo 80 = .ok (.aload_n 0, 1) := by decide +kernel
theorem dL_areFieldsSo_81 : decode cL_areFieldsSo 81 = .ok (.iload 8, 2) := by decide +kernel
theorem dL_areFieldsSo_83 : decode cL_areFieldsSo 83 = .ok (.iload 9, 2) := by decide +kernel
theorem dL_areFieldsSo_85 : decode cL_areFieldsSo 85 = .ok (.invokevirtual 100, 3) := by decide +kernel
theorem dL_areFieldsSo_88 : decode cL_areFieldsSo 88 = .ok (.istore 11, 2) := by decide +kernel
theorem dL_areFieldsSo_90 : decode cL_areFieldsSo 90 = .ok (.iload_n 2, 1) := by decide +kernel
theorem dL_areFieldsSo_91 : decode cL_areFieldsSo 91 = .ok (.iload 11, 2) := by decide +kernel
theorem dL_areFieldsSo_93 : decode cL_areFieldsSo 93 = .ok (.iload 7, 2) := by decide +kernel
theorem dL_areFieldsSo_95 : decode cL_areFieldsSo 95 = .ok (.if_icmp .ne 7, 3) := by decide +kernel
theorem dL_areFieldsSo_98 : decode cL_areFieldsSo 98 = .ok (.iconst 1, 1) := by decide +kernel
theorem dL_areFieldsSo_99 : decode cL_areFieldsSo 99 = .ok (.goto 4, 3) := by decide +kernel
theorem dL_areFieldsSo_102 : decode cL_areFieldsSo 102 = .ok (.iconst 0, 1) := by decide +kernel
theorem dL_areFieldsSo_103 : decode cL_areFieldsSo 103 = .ok (.iadd, 1) := by decide +kernel
theorem dL_areFieldsSo_104 : decode cL_areFieldsSo 104 = .ok (.istore_n 2, 1) := by decide +kernel
theorem dL_areFieldsSo_105 : decode cL_areFieldsSo 105 = .ok (.iload 5, 2) := by decide +kernel
theorem dL_areFieldsSo_107 : decode cL_areFieldsSo 107 = .ok (.iload 10, 2) := by decide +kernel
theorem dL_areFieldsSo_109 : decode cL_areFieldsSo 109 = .ok (.iadd, 1) := by decide +kernel
theorem dL_areFieldsSo_110 : decode cL_areFieldsSo 110 = .ok (.istore 5, 2) := by decide +kernel
theorem dL_areFieldsSo_112 : decode cL_areFieldsSo 112 = .ok (.iload 6, 2) := by decide +kernel
theorem dL_areFieldsSo_114 : decode cL_areFieldsSo 114 = .ok (.ifCond .eq 87, 3) := by decide +kernel
theorem dL_areFieldsSo_117 : decode cL_areFieldsSo 117 = .ok (.iload 11, 2) := by decide +kernel
theorem dL_areFieldsSo_119 : decode cL_areFieldsSo 119 = .ok (.iload 7, 2) := by decide +kernel
theorem dL_areFieldsSo_121 : decode cL_areFieldsSo 121 = .ok (.if_icmp .gt 80, 3) := by decide +kernel
theorem dL_areFieldsSo_124 : decode cL_areFieldsSo 124 = .ok (.aload_n 0, 1) := by decide +kernel
theorem dL_areFieldsSo_125 : decode cL_areFieldsSo 125 = .ok (.iload 11, 2) := by decide +kernel
theorem dL_areFieldsSo_127 : decode cL_areFieldsSo 127 = .ok (.bipush 7, 2) := by decide +kernel
theorem dL_areFieldsSo_129 : decode cL_areFieldsSo 129 = .ok (.idiv, 1) := by decide +kernel
theorem dL_areFieldsSo_130 : decode cL_areFieldsSo 130 = .ok (.iload 11, 2) := by decide +kernel
theorem dL_areFieldsSo_132 : decode cL_areFieldsSo 132 = .ok (.bipush 7, 2) := by decide +kernel
theorem dL_areFieldsSo_134 : decode cL_areFieldsSo 134 = .ok (.irem, 1) := by decide +kernel
theorem dL_areFieldsSo_135 : decode cL_areFieldsSo 135 = .ok (.invokevirtual 100, 3) := by decide +kernel
theorem dL_areFieldsSo_138 : decode cL_areFieldsSo 138 = .ok (.iload 11, 2) := by decide +kernel
theorem dL_areFieldsSo_140 : decode cL_areFieldsSo 140 = .ok (.if_icmp .ne 61, 3) := by decide +kernel
theorem dL_areFieldsSo_143 : decode cL_areFieldsSo 143 = .ok (.aload_n 0, 1) := by decide +kernel
theorem dL_areFieldsSo_144 : decode cL_areFieldsSo 144 = .ok (.iload 11, 2) := by decide +kernel
theorem dL_areFieldsSo_146 : decode cL_areFieldsSo 146 = .ok (.bipush 7, 2) := by decide +kernel
theorem dL_areFieldsSo_148 : decode cL_areFieldsSo 148 = .ok (.idiv, 1) := by decide +kernel
theorem dL_areFieldsSo_149 : decode cL_areFieldsSo 149 = .ok (.iload 11, 2) := by decide +kernel
theorem dL_areFieldsSo_151 : decode cL_areFieldsSo 151 = .ok (.bipush 7, 2) := by decide +kernel
theorem dL_areFieldsSo_153 : decode cL_areFieldsSo 153 = .ok (.irem, 1) := by decide +kernel
theorem dL_areFieldsSo_154 : decode cL_areFieldsSo 154 = .ok (.invokevirtual 97, 3) := by decide +kernel
theorem dL_areFieldsSo_157 : decode cL_areFieldsSo 157 = .ok (.aload_n 0, 1) := by decide +kernel
theorem dL_areFieldsSo_158 : decode cL_areFieldsSo 158 = .ok (.iload 8, 2) := by decide +kernel
theorem dL_areFieldsSo_160 : decode cL_areFieldsSo 160 = .ok (.iload 9, 2) := by decide +kernel
theorem dL_areFieldsSo_162 : decode cL_areFieldsSo 162 = .ok (.invokevirtual 97, 3) := by decide +kernel
theorem dL_areFieldsSo_165 : decode cL_areFieldsSo 165 = .ok (.if_icmp .ne 36, 3) := by decide +kernel
theorem dL_areFieldsSo_168 : decode cL_areFieldsSo 168 = .ok (.iload 10, 2) := by decide +kernel
theorem dL_areFieldsSo_170 : decode cL_areFieldsSo 170 = .ok (.ifCond .eq 16, 3) := by decide +kernel
theorem dL_areFieldsSo_173 : decode cL_areFieldsSo 173 = .ok (.iload 10, 2) := by decide +kernel
theorem dL_areFieldsSo_175 : decode cL_areFieldsSo 175 = .ok (.aload_n 0, 1) := by decide +kernel
theorem dL_areFieldsSo_176 : decode cL_areFieldsSo 176 = .ok (.iload 8, 2) := by decide +kernel
theorem dL_areFieldsSo_178 : decode cL_areFieldsSo 178 = .ok (.iload 9, 2) := by decide +kernel
theorem dL_areFieldsSo_180 : decode cL_areFieldsSo 180 = .ok (.invokevirtual 97, 3) := by decide +kernel
theorem dL_areFieldsSo_183 : decode cL_areFieldsSo 183 = .ok (.if_icmp .ne 18, 3) := by decide +kernel
theorem dL_areFieldsSo_186 : decode cL_areFieldsSo 186 = .ok (.aload_n 0, 1) := by decide +kernel
theorem dL_areFieldsSo_187 : decode cL_areFieldsSo 187 = .ok (.iload 8, 2) := by decide +kernel
theorem dL_areFieldsSo_189 : decode cL_areFieldsSo 189 = .ok (.iload 9, 2) := by decide +kernel
theorem dL_areFieldsSo_191 : decode cL_areFieldsSo 191 = .ok (.invokevirtual 106, 3) := by decide +kernel
theorem dL_areFieldsSo_194 : decode cL_areFieldsSo 194 = .ok (.ifCond .ne 7, 3) := by decide +kernel
theorem dL_areFieldsSo_197 : decode cL_areFieldsSo 197 = .ok (.iconst 1, 1) := by decide +kernel
theorem dL_areFieldsSo_198 : decode cL_areFieldsSo 198 = .ok (.goto 4, 3) := by decide +kernel
theorem dL_areFieldsSo_201 : decode cL_areFieldsSo 201 = .ok (.iconst 0, 1) := by decide +kernel
theorem dL_areFieldsSo_202 : decode cL_areFieldsSo 202 = .ok (.istore 6, 2) := by decide +kernel
theorem dL_areFieldsSo_204 : decode cL_areFieldsSo 204 = .ok (.goto 6, 3) := by decide +kernel
theorem dL_areFieldsSo_207 : decode cL_areFieldsSo 207 = .ok (.iinc 1 1, 3) := by decide +kernel
theorem dL_areFieldsSo_210 : decode cL_areFieldsSo 210 = .ok (.iinc 7 1, 3) := by decide +kernel
theorem dL_areFieldsSo_213 : decode cL_areFieldsSo 213 = .ok (.goto (-195), 3) := by decide +kernel
theorem dL_areFieldsSo_216 : decode cL_areFieldsSo 216 = .ok (.iload 6, 2) := by decide +kernel
theorem dL_areFieldsSo_218 : decode cL_areFieldsSo 218 = .ok (.ifCond .eq 70, 3) := by decide +kernel
theorem dL_areFieldsSo_221 : decode cL_areFieldsSo 221 = .ok (.aload_n 0, 1) := by decide +kernel
theorem dL_areFieldsSo_222 : decode cL_areFieldsSo 222 = .ok (.invokevirtual 38, 3) := by decide +kernel
theorem dL_areFieldsSo_225 : decode cL_areFieldsSo 225 = .ok (.iload_n 1, 1) := by decide +kernel
theorem dL_areFieldsSo_226 : decode cL_areFieldsSo 226 = .ok (.if_icmp .ne 62, 3) := by decide +kernel
theorem dL_areFieldsSo_229 : decode cL_areFieldsSo 229 = .ok (.aload_n 0, 1) := by decide +kernel
theorem dL_areFieldsSo_230 : decode cL_areFieldsSo 230 = .ok (.invokevirtual 31, 3) := by decide +kernel
theorem dL_areFieldsSo_233 : decode cL_areFieldsSo 233 = .ok (.iload_n 2, 1) := by decide +kernel
theorem dL_areFieldsSo_234 : decode cL_areFieldsSo 234 = .ok (.if_icmp .ne 54, 3) := by decide +kernel
theorem dL_areFieldsSo_237 : decode cL_areFieldsSo 237 = .ok (.aload_n 0, 1) := by decide +kernel
theorem dL_areFieldsSo_238 : decode cL_areFieldsSo 238 = .ok (.invokevirtual 67, 3) := by decide +kernel
theorem dL_areFieldsSo_241 : decode cL_areFieldsSo 241 = .ok (.iload_n 3, 1) := by decide +kernel
theorem dL_areFieldsSo_242 : decode cL_areFieldsSo 242 = .ok (.if_icmp .ne 46, 3) := by decide +kernel
theorem dL_areFieldsSo_245 : decode cL_areFieldsSo 245 = .ok (.aload_n 0, 1) := by decide +kernel
theorem dL_areFieldsSo_246 : decode cL_areFieldsSo 246 = .ok (.invokevirtual 70, 3) := by decide +kernel
theorem dL_areFieldsSo_249 : decode cL_areFieldsSo 249 = .ok (.iload 4, 2) := by decide +kernel
theorem dL_areFieldsSo_251 : decode cL_areFieldsSo 251 = .ok (.if_icmp .ne 37, 3) := by decide +kernel
theorem dL_areFieldsSo_254 : decode cL_areFieldsSo 254 = .ok (.iload 5, 2) := by decide +kernel
theorem dL_areFieldsSo_256 : decode cL_areFieldsSo 256 = .ok (.bipush 42, 2) := by decide +kernel
theorem dL_areFieldsSo_258 : decode cL_areFieldsSo 258 = .ok (.iload_n 1, 1) := by decide +kernel
theorem dL_areFieldsSo_259 : decode cL_areFieldsSo 259 = .ok (.isub, 1) := by decide +kernel
theorem dL_areFieldsSo_260 : decode cL_areFieldsSo 260 = .ok (.if_icmp .ne 28, 3) := by decide +kernel
theorem dL_areFieldsSo_263 : decode cL_areFieldsSo 263 = .ok (.aload_n 0, 1) := by decide +kernel
theorem dL_areFieldsSo_264 : decode cL_areFieldsSo 264 = .ok (.invokevirtual 94, 3) := by decide +kernel
theorem dL_areFieldsSo_267 : decode cL_areFieldsSo 267 = .ok (.iload_n 1, 1) := by decide +kernel
theorem dL_areFieldsSo_268 : decode cL_areFieldsSo 268 = .ok (.ifCond .ne 7, 3) := by decide +kernel
theorem dL_areFieldsSo_271 : decode cL_areFieldsSo 271 = .ok (.iconst 1, 1) := by decide +kernel
theorem dL_areFieldsSo_272 : decode cL_areFieldsSo 272 = .ok (.goto 4, 3) := by decide +kernel
theorem dL_areFieldsSo_275 : decode cL_areFieldsSo 275 = .ok (.iconst 0, 1) := by decide +kernel
theorem dL_areFieldsSo_276 : decode cL_areFieldsSo 276 = .ok (.if_icmp .ne 12, 3) := by decide +kernel
theorem dL_areFieldsSo_279 : decode cL_areFieldsSo 279 = .ok (.iload_n 2, 1) := by decide +kernel
theorem dL_areFieldsSo_280 : decode cL_areFieldsSo 280 = .ok (.iload_n 3, 1) := by decide +kernel
theorem dL_areFieldsSo_281 : decode cL_areFieldsSo 281 = .ok (.if_icmp .gt 7, 3) := by decide +kernel
theorem dL_areFieldsSo_284 : decode cL_areFieldsSo 284 = .ok (.iconst 1, 1) := by decide +kernel
theorem dL_areFieldsSo_285 : decode cL_areFieldsSo 285 = .ok (.goto 4, 3) := by decide +kernel
theorem dL_areFieldsSo_288 : decode cL_areFieldsSo 288 = .ok (.iconst 0, 1) := by decide +kernel
theorem dL_areFieldsSo_289 : decode cL_areFieldsSo 289 = .ok (.ireturn, 1) := by decide +kernel
theorem dL_arePossibleSo_0 : decode cL_arePossibleSo 0 = .ok (.iconst 0, 1) := by decide +kernel
theorem dL_arePossibleSo_1 : decode cL_arePossibleSo 1 = .ok (.istore_n 1, 1) := by decide +kernel
theorem dL_arePossibleSo_2 : decode cL_arePossibleSo 2 = .ok (.iconst 0, 1) := by decide +kernel
theorem dL_arePossibleSo_3 : decode cL_arePossibleSo 3 = .ok (.istore_n 2, 1) := by decide +kernel
theorem dL_arePossibleSo_4 : decode cL_arePossibleSo 4 = .ok (.iconst 0, 1) := by decide +kernel
theorem dL_arePossibleSo_5 : decode cL_arePossibleSo 5 = .ok (.istore_n 3, 1) := by decide +kernel
theorem dL_arePossibleSo_6 : decode cL_arePossibleSo 6 = .ok (.iconst 0, 1) := by decide +kernel
theorem dL_arePossibleSo_7 : decode cL_arePossibleSo 7 = .ok (.istore 4, 2) := by decide +kernel
theorem dL_arePossibleSo_9 : decode cL_arePossibleSo 9 = .ok (.iconst 1, 1) := by decide +kernel
theorem dL_arePossibleSo_10 : decode cL_arePossibleSo 10 = .ok (.istore 5, 2) := by decide +kernel
theorem dL_arePossibleSo_12 : decode cL_arePossibleSo 12 = .ok (.iconst 0, 1) := by decide +kernel
theorem dL_arePossibleSo_13 : decode cL_arePossibleSo 13 = .ok (.istore 6, 2) := by decide +kernel
theorem dL_arePossibleSo_15 : decode cL_arePossibleSo 15 = .ok (.iload 6, 2) := by decide +kernel
theorem dL_arePossibleSo_17 : decode cL_arePossibleSo 17 = .ok (.bipush 42, 2) := by decide +kernel
theorem dL_arePossibleSo_19 : decode cL_arePossibleSo 19 = .ok (.if_icmp .ge 159, 3) := by decide +kernel
theorem dL_arePossibleSo_22 : decode cL_arePossibleSo 22 = .ok (.aload_n 0, 1) := by decide +kernel
theorem dL_arePossibleSo_23 : decode cL_arePossibleSo 23 = .ok (.iload 6, 2) := by decide +kernel
theorem dL_arePossibleSo_25 : decode cL_arePossibleSo 25 = .ok (.bipush 7, 2) := by decide +kernel
theorem dL_arePossibleSo_27 : decode cL_arePossibleSo 27 = .ok (.idiv, 1) := by decide +kernel
theorem dL_arePossibleSo_28 : decode cL_arePossibleSo 28 = .ok (.iload 6, 2) := by decide +kernel
theorem dL_arePossibleSo_30 : decode cL_arePossibleSo 30 = .ok (.bipush 7, 2) := by decide +kernel
theorem dL_arePossibleSo_32 : decode cL_arePossibleSo 32 = .ok (.irem, 1) := by decide +kernel
theorem dL_arePossibleSo_33 : decode cL_arePossibleSo 33 = .ok (.invokevirtual 106, 3) := by decide +kernel
theorem dL_arePossibleSo_36 : decode cL_arePossibleSo 36 = .ok (.istore 7, 2) := by decide +kernel
theorem dL_arePossibleSo_38 : decode cL_arePossibleSo 38 = .ok (.aload_n 0, 1) := by decide +kernel
theorem dL_arePossibleSo_39 : decode cL_arePossibleSo 39 = .ok (.iload 6, 2) := by decide +kernel
theorem dL_arePossibleSo_41 : decode cL_arePossibleSo 41 = .ok (.bipush 7, 2) := by decide +kernel
theorem dL_arePossibleSo_43 : decode cL_arePossibleSo 43 = .ok (.idiv, 1) := by decide +kernel
theorem dL_arePossibleSo_44 : decode cL_arePossibleSo 44 = .ok (.iload 6, 2) := by decide +kernel
theorem dL_arePossibleSo_46 : decode cL_arePossibleSo 46 = .ok (.bipush 7, 2) := by decide +kernel
theorem dL_arePossibleSo_48 : decode cL_arePossibleSo 48 = .ok (.irem, 1) := by decide +kernel
theorem dL_arePossibleSo_49 : decode cL_arePossibleSo 49 = .ok (.invokevirtual 79, 3) := by decide +kernel
theorem dL_arePossibleSo_52 : decode cL_arePossibleSo 52 = .ok (.istore 8, 2) := by decide +kernel
theorem dL_arePossibleSo_54 : decode cL_arePossibleSo 54 = .ok (.aload_n 0, 1) := by decide +kernel
theorem dL_arePossibleSo_55 : decode cL_arePossibleSo 55 = .ok (.iload 6, 2) := by decide +kernel
theorem dL_arePossibleSo_57 : decode cL_arePossibleSo 57 = .ok (.bipush 7, 2) := by decide +kernel
theorem dL_arePossibleSo_59 : decode cL_arePossibleSo 59 = .ok (.idiv, 1) := by decide +kernel
theorem dL_arePossibleSo_60 : decode cL_arePossibleSo 60 = .ok (.iload 6, 2) := by decide +kernel
theorem dL_arePossibleSo_62 : decode cL_arePossibleSo 62 = .ok (.bipush 7, 2) := by decide +kernel
theorem dL_arePossibleSo_64 : decode cL_arePossibleSo 64 = .ok (.irem, 1) := by decide +kernel
theorem dL_arePossibleSo_65 : decode cL_arePossibleSo 65 = .ok (.invokevirtual 119, 3) := by decide +kernel
theorem dL_arePossibleSo_68 : decode cL_arePossibleSo 68 = .ok (.istore 9, 2) := by decide +kernel
theorem dL_arePossibleSo_70 : decode cL_arePossibleSo 70 = .ok (.aload_n 0, 1) := by decide +kernel
theorem dL_arePossibleSo_71 : decode cL_arePossibleSo 71 = .ok (.iload 6, 2) := by decide +kernel
theorem dL_arePossibleSo_73 : decode cL_arePossibleSo 73 = .ok (.bipush 7, 2) := by decide +kernel
theorem dL_arePossibleSo_75 : decode cL_arePossibleSo 75 = .ok (.idiv, 1) := by decide +kernel
theorem dL_arePossibleSo_76 : decode cL_arePossibleSo 76 = .ok (.iload 6, 2) := by decide +kernel
theorem dL_arePossibleSo_78 : decode cL_arePossibleSo 78 = .ok (.bipush 7, 2) := by decide +kernel
theorem dL_arePossibleSo_80 : decode cL_arePossibleSo 80 = .ok (.irem, 1) := by decide +kernel
theorem dL_arePossibleSo_81 : decode cL_arePossibleSo 81 = .ok (.invokevirtual 122, 3) := by decide +kernel
theorem dL_arePossibleSo_84 : decode cL_arePossibleSo 84 = .ok (.istore 10, 2) := by decide +kernel
theorem dL_arePossibleSo_86 : decode cL_arePossibleSo 86 = .ok (.iload_n 1, 1) := by decide +kernel
theorem dL_arePossibleSo_87 : decode cL_arePossibleSo 87 = .ok (.iload 7, 2) := by decide +kernel
theorem dL_arePossibleSo_89 : decode cL_arePossibleSo 89 = .ok (.iadd, 1) := by decide +kernel
theorem dL_arePossibleSo_90 : decode cL_arePossibleSo 90 = .ok (.istore_n 1, 1) := by decide +kernel
theorem dL_arePossibleSo_91 : decode cL_arePossibleSo 91 = .ok (.iload_n 2, 1) := by decide +kernel
theorem dL_arePossibleSo_92 : decode cL_arePossibleSo 92 = .ok (.iload 8, 2) := by decide +kernel
theorem dL_arePossibleSo_94 : decode cL_arePossibleSo 94 = .ok (.iadd, 1) := by decide +kernel
theorem dL_arePossibleSo_95 : decode cL_arePossibleSo 95 = .ok (.istore_n 2, 1) := by decide +kernel
theorem dL_arePossibleSo_96 : decode cL_arePossibleSo 96 = .ok (.iload_n 3, 1) := by decide +kernel
theorem dL_arePossibleSo_97 : decode cL_arePossibleSo 97 = .ok (.iload 9, 2) := by decide +kernel
theorem dL_arePossibleSo_99 : decode cL_arePossibleSo 99 = .ok (.iadd, 1) := by decide +kernel
theorem dL_arePossibleSo_100 : decode cL_arePossibleSo 100 = .ok (.istore_n 3, 1) := by decide +kernel
theorem dL_arePossibleSo_101 : decode cL_arePossibleSo 101 = .ok (.iload 4, 2) := by decide +kernel
theorem dL_arePossibleSo_103 : decode cL_arePossibleSo 103 = .ok (.iload 7, 2) := by decide +kernel
theorem dL_arePossibleSo_105 : decode cL_arePossibleSo 105 = .ok (.aload_n 0, 1) := by decide +kernel
theorem dL_arePossibleSo_106 : decode cL_arePossibleSo 106 = .ok (.iload 6, 2) := by decide +kernel
theorem dL_arePossibleSo_108 : decode cL_arePossibleSo 108 = .ok (.bipush 7, 2) := by decide +kernel
theorem dL_arePossibleSo_110 : decode cL_arePossibleSo 110 = .ok (.idiv, 1) := by decide +kernel
theorem dL_arePossibleSo_111 : decode cL_arePossibleSo 111 = .ok (.iload 6, 2) := by decide +kernel
theorem dL_arePossibleSo_113 : decode cL_arePossibleSo 113 = .ok (.bipush 7, 2) := by decide +kernel
theorem dL_arePossibleSo_115 : decode cL_arePossibleSo 115 = .ok (.irem, 1) := by decide +kernel
theorem dL_arePossibleSo_116 : decode cL_arePossibleSo 116 = .ok (.invokevirtual 14, 3) := by decide +kernel
theorem dL_arePossibleSo_119 : decode cL_arePossibleSo 119 = .ok (.imul, 1) := by decide +kernel
theorem dL_arePossibleSo_120 : decode cL_arePossibleSo 120 = .ok (.iadd, 1) := by decide +kernel
theorem dL_arePossibleSo_121 : decode cL_arePossibleSo 121 = .ok (.istore 4, 2) := by decide +kernel
theorem dL_arePossibleSo_123 : decode cL_arePossibleSo 123 = .ok (.iload 5, 2) := by decide +kernel
theorem dL_arePossibleSo_125 : decode cL_arePossibleSo 125 = .ok (.ifCond .eq 44, 3) := by decide +kernel
theorem dL_arePossibleSo_128 : decode cL_arePossibleSo 128 = .ok (.iload 8, 2) := by decide +kernel
theorem dL_arePossibleSo_130 : decode cL_arePossibleSo 130 = .ok (.iload 7, 2) := by decide +kernel
theorem dL_arePossibleSo_132 : decode cL_arePossibleSo 132 = .ok (.if_icmp .gt 37, 3) := by decide +kernel
theorem dL_arePossibleSo_135 : decode cL_arePossibleSo 135 = .ok (.iload 10, 2) := by decide +kernel
theorem dL_arePossibleSo_137 : decode cL_arePossibleSo 137 = .ok (.iload 9, 2) := by decide +kernel
theorem dL_arePossibleSo_139 : decode cL_arePossibleSo 139 = .ok (.if_icmp .gt 30, 3) := by decide +kernel
theorem dL_arePossibleSo_142 : decode cL_arePossibleSo 142 = .ok (.iload 10, 2) := by decide +kernel
theorem dL_arePossibleSo_144 : decode cL_arePossibleSo 144 = .ok (.ifCond .ne 7, 3) := by decide +kernel
theorem dL_arePossibleSo_147 : decode cL_arePossibleSo 147 = .ok (.iconst 1, 1) := by decide +kernel
theorem dL_arePossibleSo_148 : decode cL_arePossibleSo 148 = .ok (.goto 4, 3) := by decide +kernel
theorem dL_arePossibleSo_151 : decode cL_arePossibleSo 151 = .ok (.iconst 0, 1) := by decide +kernel
theorem dL_arePossibleSo_152 : decode cL_arePossibleSo 152 = .ok (.iload 9, 2) := by decide +kernel
theorem dL_arePossibleSo_154 : decode cL_arePossibleSo 154 = .ok (.ifCond .ne 7, 3) := by decide +kernel
theorem dL_arePossibleSo_157 : decode cL_arePossibleSo 157 = .ok (.iconst 1, 1) := by decide +kernel
theorem dL_arePossibleSo_158 : decode cL_arePossibleSo 158 = .ok (.goto 4, 3) := by decide +kernel
theorem dL_arePossibleSo_161 : decode cL_arePossibleSo 161 = .ok (.iconst 0, 1) := by decide +kernel
theorem dL_arePossibleSo_162 : decode cL_arePossibleSo 162 = .ok (.if_icmp .ne 7, 3) := by decide +kernel
theorem dL_arePossibleSo_165 : decode cL_arePossibleSo 165 = .ok (.iconst 1, 1) := by decide +kernel
theorem dL_arePossibleSo_166 : decode cL_arePossibleSo 166 = .ok (.goto 4, 3) := by decide +kernel
theorem dL_arePossibleSo_169 : decode cL_arePossibleSo 169 = .ok (.iconst 0, 1) := by decide +kernel
theorem dL_arePossibleSo_170 : decode cL_arePossibleSo 170 = .ok (.istore 5, 2) := by decide +kernel
theorem dL_arePossibleSo_172 : decode cL_arePossibleSo 172 = .ok (.iinc 6 1, 3) := by decide +kernel
theorem dL_arePossibleSo_175 : decode cL_arePossibleSo 175 = .ok (.goto (-160), 3) := by decide +kernel
theorem dL_arePossibleSo_178 : decode cL_arePossibleSo 178 = .ok (.iload 5, 2) := by decide +kernel
theorem dL_arePossibleSo_180 : decode cL_arePossibleSo 180 = .ok (.ifCond .eq 54, 3) := by decide +kernel
theorem dL_arePossibleSo_183 : decode cL_arePossibleSo 183 = .ok (.aload_n 0, 1) := by decide +kernel
theorem dL_arePossibleSo_184 : decode cL_arePossibleSo 184 = .ok (.invokevirtual 125, 3) := by decide +kernel
theorem dL_arePossibleSo_187 : decode cL_arePossibleSo 187 = .ok (.iload_n 1, 1) := by decide +kernel
theorem dL_arePossibleSo_188 : decode cL_arePossibleSo 188 = .ok (.if_icmp .ne 46, 3) := by decide +kernel
theorem dL_arePossibleSo_191 : decode cL_arePossibleSo 191 = .ok (.aload_n 0, 1) := by decide +kernel
theorem dL_arePossibleSo_192 : decode cL_arePossibleSo 192 = .ok (.invokevirtual 128, 3) := by decide +kernel
theorem dL_arePossibleSo_195 : decode cL_arePossibleSo 195 = .ok (.iload_n 2, 1) := by decide +kernel
theorem dL_arePossibleSo_196 : decode cL_arePossibleSo 196 = .ok (.if_icmp .ne 38, 3) := by decide +kernel
theorem dL_arePossibleSo_199 : decode cL_arePossibleSo 199 = .ok (.iload_n 3, 1) := by decide +kernel
theorem dL_arePossibleSo_200 : decode cL_arePossibleSo 200 = .ok (.iload 4, 2) := by decide +kernel
theorem dL_arePossibleSo_202 : decode cL_arePossibleSo 202 = .ok (.if_icmp .ne 32, 3) := by decide +kernel
theorem dL_arePossibleSo_205 : decode cL_arePossibleSo 205 = .ok (.aload_n 0, 1) := by decide +kernel
theorem dL_arePossibleSo_206 : decode cL_arePossibleSo 206 = .ok (.invokevirtual 131, 3) := by decide +kernel
theorem dL_arePossibleSo_209 : decode cL_arePossibleSo 209 = .ok (.ifCond .ne 7, 3) := by decide +kernel
theorem dL_arePossibleSo_212 : decode cL_arePossibleSo 212 = .ok (.iconst 1, 1) := by decide +kernel
theorem dL_arePossibleSo_213 : decode cL_arePossibleSo 213 = .ok (.goto 4, 3) := by decide +kernel
theorem dL_arePossibleSo_216 : decode cL_arePossibleSo 216 = .ok (.iconst 0, 1) := by decide +kernel
theorem dL_arePossibleSo_217 : decode cL_arePossibleSo 217 = .ok (.iload_n 2, 1) := by decide +kernel
theorem dL_arePossibleSo_218 : decode cL_arePossibleSo 218 = .ok (.iload_n 1, 1) := by decide +kernel
theorem dL_arePossibleSo_219 : decode cL_arePossibleSo 219 = .ok (.if_icmp .ne 7, 3) := by decide +kernel
theorem dL_arePossibleSo_222 : decode cL_arePossibleSo 222 = .ok (.iconst 1, 1) := by decide +kernel
theorem dL_arePossibleSo_223 : decode cL_arePossibleSo 223 = .ok (.goto 4, 3) := by decide +kernel
theorem dL_arePossibleSo_226 : decode cL_arePossibleSo 226 = .ok (.iconst 0, 1) := by decide +kernel
theorem dL_arePossibleSo_227 : decode cL_arePossibleSo 227 = .ok (.if_icmp .ne 7, 3) := by decide +kernel
theorem dL_arePossibleSo_230 : decode cL_arePossibleSo 230 = .ok (.iconst 1, 1) := by decide +kernel
theorem dL_arePossibleSo_231 : decode cL_arePossibleSo 231 = .ok (.goto 4, 3) := by decide +kernel
theorem dL_arePossibleSo_234 : decode cL_arePossibleSo 234 = .ok (.iconst 0, 1) := by decide +kernel
theorem dL_arePossibleSo_235 : decode cL_arePossibleSo 235 = .ok (.istore 5, 2) := by decide +kernel
theorem dL_arePossibleSo_237 : decode cL_arePossibleSo 237 = .ok (.iconst 0, 1) := by decide +kernel
theorem dL_arePossibleSo_238 : decode cL_arePossibleSo 238 = .ok (.istore 6, 2) := by decide +kernel
theorem dL_arePossibleSo_240 : decode cL_arePossibleSo 240 = .ok (.iconst 0, 1) := by decide +kernel
theorem dL_arePossibleSo_241 : decode cL_arePossibleSo 241 = .ok (.istore 7, 2) := by decide +kernel
theorem dL_arePossibleSo_243 : decode cL_arePossibleSo 243 = .ok (.iload 7, 2) := by decide +kernel
theorem dL_arePossibleSo_245 : decode cL_arePossibleSo 245 = .ok (.bipush 42, 2) := by decide +kernel
theorem dL_arePossibleSo_247 : decode cL_arePossibleSo 247 = .ok (.if_icmp .ge 53, 3) := by decide +kernel
theorem dL_arePossibleSo_250 : decode cL_arePossibleSo 250 = .ok (.iload 6, 2) := by decide +kernel
theorem dL_arePossibleSo_252 : decode cL_arePossibleSo 252 = .ok (.aload_n 0, 1) := by decide +kernel
theorem dL_arePossibleSo_253 : decode cL_arePossibleSo 253 = .ok (.iload 7, 2) := by decide +kernel
theorem dL_arePossibleSo_255 : decode cL_arePossibleSo 255 = .ok (.bipush 7, 2) := by decide +kernel
theorem dL_arePossibleSo_257 : decode cL_arePossibleSo 257 = .ok (.idiv, 1) := by decide +kernel
theorem dL_arePossibleSo_258 : decode cL_arePossibleSo 258 = .ok (.iload 7, 2) := by decide +kernel
theorem dL_arePossibleSo_260 : decode cL_arePossibleSo 260 = .ok (.bipush 7, 2) := by decide +kernel
theorem dL_arePossibleSo_262 : decode cL_arePossibleSo 262 = .ok (.irem, 1) := by decide +kernel
theorem dL_arePossibleSo_263 : decode cL_arePossibleSo 263 = .ok (.invokevirtual 14, 3) := by decide +kernel
theorem dL_arePossibleSo_266 : decode cL_arePossibleSo 266 = .ok (.ifCond .le 24, 3) := by decide +kernel
theorem dL_arePossibleSo_269 : decode cL_arePossibleSo 269 = .ok (.aload_n 0, 1) := by decide +kernel
theorem dL_arePossibleSo_270 : decode cL_arePossibleSo 270 = .ok (.iload 7, 2) := by decide +kernel
theorem dL_arePossibleSo_272 : decode cL_arePossibleSo 272 = .ok (.bipush 7, 2) := by decide +kernel
theorem dL_arePossibleSo_274 : decode cL_arePossibleSo 274 = .ok (.idiv, 1) := by decide +kernel
theorem dL_arePossibleSo_275 : decode cL_arePossibleSo 275 = .ok (.iload 7, 2) := by decide +kernel
theorem dL_arePossibleSo_277 : decode cL_arePossibleSo 277 = .ok (.bipush 7, 2) := by decide +kernel
theorem dL_arePossibleSo_279 : decode cL_arePossibleSo 279 = .ok (.irem, 1) := by decide +kernel
theorem dL_arePossibleSo_280 : decode cL_arePossibleSo 280 = .ok (.invokevirtual 19, 3) := by decide +kernel
theorem dL_arePossibleSo_283 : decode cL_arePossibleSo 283 = .ok (.ifCond .ne 7, 3) := by decide +kernel
theorem dL_arePossibleSo_286 : decode cL_arePossibleSo 286 = .ok (.iconst 1, 1) := by decide +kernel
theorem dL_arePossibleSo_287 : decode cL_arePossibleSo 287 = .ok (.goto 4, 3) := by decide +kernel
theorem dL_arePossibleSo_290 : decode cL_arePossibleSo 290 = .ok (.iconst 0, 1) := by decide +kernel
theorem dL_arePossibleSo_291 : decode cL_arePossibleSo 291 = .ok (.iadd, 1) := by decide +kernel
theorem dL_arePossibleSo_292 : decode cL_arePossibleSo 292 = .ok (.istore 6, 2) := by decide +kernel
theorem dL_arePossibleSo_294 : decode cL_arePossibleSo 294 = .ok (.iinc 7 1, 3) := by decide +kernel
theorem dL_arePossibleSo_297 : decode cL_arePossibleSo 297 = .ok (.goto (-54), 3) := by decide +kernel
theorem dL_arePossibleSo_300 : decode cL_arePossibleSo 300 = .ok (.iload 5, 2) := by decide +kernel
theorem dL_arePossibleSo_302 : decode cL_arePossibleSo 302 = .ok (.ifCond .eq 56, 3) := by decide +kernel
theorem dL_arePossibleSo_305 : decode cL_arePossibleSo 305 = .ok (.iload 6, 2) := by decide +kernel
theorem dL_arePossibleSo_307 : decode cL_arePossibleSo 307 = .ok (.ifCond .ne 15, 3) := by decide +kernel
theorem dL_arePossibleSo_310 : decode cL_arePossibleSo 310 = .ok (.aload_n 0, 1) := by decide +kernel
theorem dL_arePossibleSo_311 : decode cL_arePossibleSo 311 = .ok (.invokevirtual 134, 3) := by decide +kernel
theorem dL_arePossibleSo_314 : decode cL_arePossibleSo 314 = .ok (.dconst 0, 1) := by decide +kernel
theorem dL_arePossibleSo_315 : decode cL_arePossibleSo 315 = .ok (.dcmp .l, 1) := by decide +kernel
theorem dL_arePossibleSo_316 : decode cL_arePossibleSo 316 = .ok (.ifCond .ne 42, 3) := by decide +kernel
theorem dL_arePossibleSo_319 : decode cL_arePossibleSo 319 = .ok (.goto 35, 3) := by decide +kernel
theorem dL_arePossibleSo_322 : decode cL_arePossibleSo 322 = .ok (.aload_n 0, 1) := by decide +kernel
theorem dL_arePossibleSo_323 : decode cL_arePossibleSo 323 = .ok (.invokevirtual 134, 3) := by decide +kernel
theorem dL_arePossibleSo_326 : decode cL_arePossibleSo 326 = .ok (.iload 6, 2) := by decide +kernel
theorem dL_arePossibleSo_328 : decode cL_arePossibleSo 328 = .ok (.i2d, 1) := by decide +kernel
theorem dL_arePossibleSo_329 : decode cL_arePossibleSo 329 = .ok (.dmul, 1) := by decide +kernel
theorem dL_arePossibleSo_330 : decode cL_arePossibleSo 330 = .ok (.iload_n 1, 1) := by decide +kernel
theorem dL_arePossibleSo_331 : decode cL_arePossibleSo 331 = .ok (.iconst 1, 1) := by decide +kernel
theorem dL_arePossibleSo_332 : decode cL_arePossibleSo 332 = .ok (.isub, 1) := by decide +kernel
theorem dL_arePossibleSo_333 : decode cL_arePossibleSo 333 = .ok (.i2d, 1) := by decide +kernel
theorem dL_arePossibleSo_334 : decode cL_arePossibleSo 334 = .ok (.dcmp .l, 1) := by decide +kernel
theorem dL_arePossibleSo_335 : decode cL_arePossibleSo 335 = .ok (.ifCond .le 23, 3) := by decide +kernel
theorem dL_arePossibleSo_338 : decode cL_arePossibleSo 338 = .ok (.aload_n 0, 1) := by decide +kernel
theorem dL_arePossibleSo_339 : decode cL_arePossibleSo 339 = .ok (.invokevirtual 134, 3) := by decide +kernel
theorem dL_arePossibleSo_342 : decode cL_arePossibleSo 342 = .ok (.iload 6, 2) := by decide +kernel
theorem dL_arePossibleSo_344 : decode cL_arePossibleSo 344 = .ok (.i2d, 1) := by decide +kernel
theorem dL_arePossibleSo_345 : decode cL_arePossibleSo 345 = .ok (.dmul, 1) := by decide +kernel
theorem dL_arePossibleSo_346 : decode cL_arePossibleSo 346 = .ok (.iload_n 1, 1) := by decide +kernel
theorem dL_arePossibleSo_347 : decode cL_arePossibleSo 347 = .ok (.iconst 1, 1) := by decide +kernel
theorem dL_arePossibleSo_348 : decode cL_arePossibleSo 348 = .ok (.iadd, 1) := by decide +kernel
theorem dL_arePossibleSo_349 : decode cL_arePossibleSo 349 = .ok (.i2d, 1) := by decide +kernel
theorem dL_arePossibleSo_350 : decode cL_arePossibleSo 350 = .ok (.dcmp .g, 1) := by decide +kernel
theorem dL_arePossibleSo_351 : decode cL_arePossibleSo 351 = .ok (.ifCond .ge 7, 3) := by decide +kernel
theorem dL_arePossibleSo_354 : decode cL_arePossibleSo 354 = .ok (.iconst 1, 1) := by decide +kernel
theorem dL_arePossibleSo_355 : decode cL_arePossibleSo 355 = .ok (.goto 4, 3) := by decide +kernel
theorem dL_arePossibleSo_358 : decode cL_arePossibleSo 358 = .ok (.iconst 0, 1) := by decide +kernel
theorem dL_arePossibleSo_359 : decode cL_arePossibleSo 359 = .ok (.ireturn, 1) := by decide +kernel
theorem dL_areWaysSo_0 : decode cL_areWaysSo 0 = .ok (.aload_n 0, 1) := by decide +kernel
theorem dL_areWaysSo_1 : decode cL_areWaysSo 1 = .ok (.invokevirtual 49, 3) := by decide +kernel
theorem dL_areWaysSo_4 : decode cL_areWaysSo 4 = .ok (.istore_n 1, 1) := by decide +kernel
theorem dL_areWaysSo_5 : decode cL_areWaysSo 5 = .ok (.aload_n 0, 1) := by decide +kernel
theorem dL_areWaysSo_6 : decode cL_areWaysSo 6 = .ok (.invokevirtual 138, 3) := by decide +kernel
theorem dL_areWaysSo_9 : decode cL_areWaysSo 9 = .ok (.iload_n 1, 1) := by decide +kernel
theorem dL_areWaysSo_10 : decode cL_areWaysSo 10 = .ok (.if_icmp .ne 70, 3) := by decide +kernel
theorem dL_areWaysSo_13 : decode cL_areWaysSo 13 = .ok (.iload_n 1, 1) := by decide +kernel
theorem dL_areWaysSo_14 : decode cL_areWaysSo 14 = .ok (.ifCond .lt 66, 3) := by decide +kernel
theorem dL_areWaysSo_17 : decode cL_areWaysSo 17 = .ok (.iload_n 1, 1) := by decide +kernel
theorem dL_areWaysSo_18 : decode cL_areWaysSo 18 = .ok (.bipush 50, 2) := by decide +kernel
theorem dL_areWaysSo_20 : decode cL_areWaysSo 20 = .ok (.if_icmp .gt 60, 3) := by decide +kernel
theorem dL_areWaysSo_23 : decode cL_areWaysSo 23 = .ok (.aload_n 0, 1) := by decide +kernel
theorem dL_areWaysSo_24 : decode cL_areWaysSo 24 = .ok (.invokevirtual 141, 3) := by decide +kernel
theorem dL_areWaysSo_27 : decode cL_areWaysSo 27 = .ok (.iload_n 1, 1) := by decide +kernel
theorem dL_areWaysSo_28 : decode cL_areWaysSo 28 = .ok (.iconst 1, 1) := by decide +kernel
theorem dL_areWaysSo_29 : decode cL_areWaysSo 29 = .ok (.if_icmp .ne 7, 3) := by decide +kernel
theorem dL_areWaysSo_32 : decode cL_areWaysSo 32 = .ok (.iconst 1, 1) := by decide +kernel
theorem dL_areWaysSo_33 : decode cL_areWaysSo 33 = .ok (.goto 4, 3) := by decide +kernel
theorem dL_areWaysSo_36 : decode cL_areWaysSo 36 = .ok (.iconst 0, 1) := by decide +kernel
theorem dL_areWaysSo_37 : decode cL_areWaysSo 37 = .ok (.if_icmp .ne 43, 3) := by decide +kernel
theorem dL_areWaysSo_40 : decode cL_areWaysSo 40 = .ok (.aload_n 0, 1) := by decide +kernel
theorem dL_areWaysSo_41 : decode cL_areWaysSo 41 = .ok (.invokevirtual 41, 3) := by decide +kernel
theorem dL_areWaysSo_44 : decode cL_areWaysSo 44 = .ok (.ifCond .eq 7, 3) := by decide +kernel
theorem dL_areWaysSo_47 : decode cL_areWaysSo 47 = .ok (.iload_n 1, 1) := by decide +kernel
theorem dL_areWaysSo_48 : decode cL_areWaysSo 48 = .ok (.ifCond .ne 32, 3) := by decide +kernel
theorem dL_areWaysSo_51 : decode cL_areWaysSo 51 = .ok (.iload_n 1, 1) := by decide +kernel
theorem dL_areWaysSo_52 : decode cL_areWaysSo 52 = .ok (.ifCond .eq 12, 3) := by decide +kernel
theorem dL_areWaysSo_55 : decode cL_areWaysSo 55 = .ok (.aload_n 0, 1) := by decide +kernel
theorem dL_areWaysSo_56 : decode cL_areWaysSo 56 = .ok (.invokevirtual 70, 3) := by decide +kernel
theorem dL_areWaysSo_59 : decode cL_areWaysSo 59 = .ok (.bipush 42, 2) := by decide +kernel
theorem dL_areWaysSo_61 : decode cL_areWaysSo 61 = .ok (.if_icmp .ne 19, 3) := by decide +kernel
theorem dL_areWaysSo_64 : decode cL_areWaysSo 64 = .ok (.aload_n 0, 1) := by decide +kernel
theorem dL_areWaysSo_65 : decode cL_areWaysSo 65 = .ok (.invokevirtual 94, 3) := by decide +kernel
theorem dL_areWaysSo_68 : decode cL_areWaysSo 68 = .ok (.ifCond .eq 8, 3) := by decide +kernel
theorem dL_areWaysSo_71 : decode cL_areWaysSo 71 = .ok (.iload_n 1, 1) := by decide +kernel
theorem dL_areWaysSo_72 : decode cL_areWaysSo 72 = .ok (.iconst 1, 1) := by decide +kernel
theorem dL_areWaysSo_73 : decode cL_areWaysSo 73 = .ok (.if_icmp .ne 7, 3) := by decide +kernel
theorem dL_areWaysSo_76 : decode cL_areWaysSo 76 = .ok (.iconst 1, 1) := by decide +kernel
theorem dL_areWaysSo_77 : decode cL_areWaysSo 77 = .ok (.goto 4, 3) := by decide +kernel
theorem dL_areWaysSo_80 : decode cL_areWaysSo 80 = .ok (.iconst 0, 1) := by decide +kernel
theorem dL_areWaysSo_81 : decode cL_areWaysSo 81 = .ok (.istore_n 2, 1) := by decide +kernel
theorem dL_areWaysSo_82 : decode cL_areWaysSo 82 = .ok (.iconst 0, 1) := by decide +kernel
theorem dL_areWaysSo_83 : decode cL_areWaysSo 83 = .ok (.istore_n 3, 1) := by decide +kernel
theorem dL_areWaysSo_84 : decode cL_areWaysSo 84 = .ok (.iload_n 3, 1) := by decide +kernel
theorem dL_areWaysSo_85 : decode cL_areWaysSo 85 = .ok (.bipush 42, 2) := by decide +kernel
theorem dL_areWaysSo_87 : decode cL_areWaysSo 87 = .ok (.if_icmp .ge 157, 3) := by decide +kernel
theorem dL_areWaysSo_90 : decode cL_areWaysSo 90 = .ok (.iload_n 1, 1) := by decide +kernel
theorem dL_areWaysSo_91 : decode cL_areWaysSo 91 = .ok (.ifCond .le 153, 3) := by decide +kernel
theorem dL_areWaysSo_94 : decode cL_areWaysSo 94 = .ok (.aload_n 0, 1) := by decide +kernel
theorem dL_areWaysSo_95 : decode cL_areWaysSo 95 = .ok (.iload_n 3, 1) := by decide +kernel
theorem dL_areWaysSo_96 : decode cL_areWaysSo 96 = .ok (.bipush 7, 2) := by decide +kernel
theorem dL_areWaysSo_98 : decode cL_areWaysSo 98 = .ok (.idiv, 1) := by decide +kernel
theorem dL_areWaysSo_99 : decode cL_areWaysSo 99 = .ok (.iload_n 3, 1) := by decide +kernel
theorem dL_areWaysSo_100 : decode cL_areWaysSo 100 = .ok (.bipush 7, 2) := by decide +kernel
theorem dL_areWaysSo_102 : decode cL_areWaysSo 102 = .ok (.irem, 1) := by decide +kernel
theorem dL_areWaysSo_103 : decode cL_areWaysSo 103 = .ok (.invokevirtual 88, 3) := by decide +kernel
theorem dL_areWaysSo_106 : decode cL_areWaysSo 106 = .ok (.istore 4, 2) := by decide +kernel
theorem dL_areWaysSo_108 : decode cL_areWaysSo 108 = .ok (.aload_n 0, 1) := by decide +kernel
theorem dL_areWaysSo_109 : decode cL_areWaysSo 109 = .ok (.iload_n 3, 1) := by decide +kernel
theorem dL_areWaysSo_110 : decode cL_areWaysSo 110 = .ok (.bipush 7, 2) := by decide +kernel
theorem dL_areWaysSo_112 : decode cL_areWaysSo 112 = .ok (.idiv, 1) := by decide +kernel
theorem dL_areWaysSo_113 : decode cL_areWaysSo 113 = .ok (.iload_n 3, 1) := by decide +kernel
theorem dL_areWaysSo_114 : decode cL_areWaysSo 114 = .ok (.bipush 7, 2) := by decide +kernel
theorem dL_areWaysSo_116 : decode cL_areWaysSo 116 = .ok (.irem, 1) := by decide +kernel
theorem dL_areWaysSo_117 : decode cL_areWaysSo 117 = .ok (.invokevirtual 85, 3) := by decide +kernel
theorem dL_areWaysSo_120 : decode cL_areWaysSo 120 = .ok (.istore 5, 2) := by decide +kernel
theorem dL_areWaysSo_122 : decode cL_areWaysSo 122 = .ok (.iload_n 2, 1) := by decide +kernel
theorem dL_areWaysSo_123 : decode cL_areWaysSo 123 = .ok (.ifCond .eq 113, 3) := by decide +kernel
theorem dL_areWaysSo_126 : decode cL_areWaysSo 126 = .ok (.iload 4, 2) := by decide +kernel
theorem dL_areWaysSo_128 : decode cL_areWaysSo 128 = .ok (.iload_n 3, 1) := by decide +kernel
theorem dL_areWaysSo_129 : decode cL_areWaysSo 129 = .ok (.if_icmp .gt 107, 3) := by decide +kernel
theorem dL_areWaysSo_132 : decode cL_areWaysSo 132 = .ok (.aload_n 0, 1) := by decide +kernel
theorem dL_areWaysSo_133 : decode cL_areWaysSo 133 = .ok (.iload 4, 2) := by decide +kernel
theorem dL_areWaysSo_135 : decode cL_areWaysSo 135 = .ok (.bipush 7, 2) := by decide +kernel
theorem dL_areWaysSo_137 : decode cL_areWaysSo 137 = .ok (.idiv, 1) := by decide +kernel
theorem dL_areWaysSo_138 : decode cL_areWaysSo 138 = .ok (.iload 4, 2) := by decide +kernel
theorem dL_areWaysSo_140 : decode cL_areWaysSo 140 = .ok (.bipush 7, 2) := by decide +kernel
theorem dL_areWaysSo_142 : decode cL_areWaysSo 142 = .ok (.irem, 1) := by decide +kernel
theorem dL_areWaysSo_143 : decode cL_areWaysSo 143 = .ok (.invokevirtual 85, 3) := by decide +kernel
theorem dL_areWaysSo_146 : decode cL_areWaysSo 146 = .ok (.iload 5, 2) := by decide +kernel
theorem dL_areWaysSo_148 : decode cL_areWaysSo 148 = .ok (.if_icmp .ne 88, 3) := by decide +kernel
theorem dL_areWaysSo_151 : decode cL_areWaysSo 151 = .ok (.aload_n 0, 1) := by decide +kernel
theorem dL_areWaysSo_152 : decode cL_areWaysSo 152 = .ok (.iload_n 3, 1) := by decide +kernel
theorem dL_areWaysSo_153 : decode cL_areWaysSo 153 = .ok (.bipush 7, 2) := by decide +kernel
theorem dL_areWaysSo_155 : decode cL_areWaysSo 155 = .ok (.idiv, 1) := by decide +kernel
theorem dL_areWaysSo_156 : decode cL_areWaysSo 156 = .ok (.iload_n 3, 1) := by decide +kernel
theorem dL_areWaysSo_157 : decode cL_areWaysSo 157 = .ok (.bipush 7, 2) := by decide +kernel
theorem dL_areWaysSo_159 : decode cL_areWaysSo 159 = .ok (.irem, 1) := by decide +kernel
theorem dL_areWaysSo_160 : decode cL_areWaysSo 160 = .ok (.invokevirtual 14, 3) := by decide +kernel
theorem dL_areWaysSo_163 : decode cL_areWaysSo 163 = .ok (.ifCond .eq 20, 3) := by decide +kernel
theorem dL_areWaysSo_166 : decode cL_areWaysSo 166 = .ok (.aload_n 0, 1) := by decide +kernel
theorem dL_areWaysSo_167 : decode cL_areWaysSo 167 = .ok (.iload_n 3, 1) := by decide +kernel
theorem dL_areWaysSo_168 : decode cL_areWaysSo 168 = .ok (.bipush 7, 2) := by decide +kernel
theorem dL_areWaysSo_170 : decode cL_areWaysSo 170 = .ok (.idiv, 1) := by decide +kernel
theorem dL_areWaysSo_171 : decode cL_areWaysSo 171 = .ok (.iload_n 3, 1) := by decide +kernel
theorem dL_areWaysSo_172 : decode cL_areWaysSo 172 = .ok (.bipush 7, 2) := by decide +kernel
theorem dL_areWaysSo_174 : decode cL_areWaysSo 174 = .ok (.irem, 1) := by decide +kernel
theorem dL_areWaysSo_175 : decode cL_areWaysSo 175 = .ok (.invokevirtual 14, 3) := by decide +kernel
theorem dL_areWaysSo_178 : decode cL_areWaysSo 178 = .ok (.iload 5, 2) := by decide +kernel
theorem dL_areWaysSo_180 : decode cL_areWaysSo 180 = .ok (.if_icmp .ne 56, 3) := by decide +kernel
theorem dL_areWaysSo_183 : decode cL_areWaysSo 183 = .ok (.aload_n 0, 1) := by decide +kernel
theorem dL_areWaysSo_184 : decode cL_areWaysSo 184 = .ok (.iload_n 3, 1) := by decide +kernel
theorem dL_areWaysSo_185 : decode cL_areWaysSo 185 = .ok (.bipush 7, 2) := by decide +kernel
theorem dL_areWaysSo_187 : decode cL_areWaysSo 187 = .ok (.idiv, 1) := by decide +kernel
theorem dL_areWaysSo_188 : decode cL_areWaysSo 188 = .ok (.iload_n 3, 1) := by decide +kernel
theorem dL_areWaysSo_189 : decode cL_areWaysSo 189 = .ok (.bipush 7, 2) := by decide +kernel
theorem dL_areWaysSo_191 : decode cL_areWaysSo 191 = .ok (.irem, 1) := by decide +kernel
theorem dL_areWaysSo_192 : decode cL_areWaysSo 192 = .ok (.invokevirtual 19, 3) := by decide +kernel
theorem dL_areWaysSo_195 : decode cL_areWaysSo 195 = .ok (.ifCond .eq 37, 3) := by decide +kernel
theorem dL_areWaysSo_198 : decode cL_areWaysSo 198 = .ok (.aload_n 0, 1) := by decide +kernel
theorem dL_areWaysSo_199 : decode cL_areWaysSo 199 = .ok (.iload_n 3, 1) := by decide +kernel
theorem dL_areWaysSo_200 : decode cL_areWaysSo 200 = .ok (.bipush 7, 2) := by decide +kernel
theorem dL_areWaysSo_202 : decode cL_areWaysSo 202 = .ok (.idiv, 1) := by decide +kernel
theorem dL_areWaysSo_203 : decode cL_areWaysSo 203 = .ok (.iload_n 3, 1) := by decide +kernel
theorem dL_areWaysSo_204 : decode cL_areWaysSo 204 = .ok (.bipush 7, 2) := by decide +kernel
theorem dL_areWaysSo_206 : decode cL_areWaysSo 206 = .ok (.irem, 1) := by decide +kernel
theorem dL_areWaysSo_207 : decode cL_areWaysSo 207 = .ok (.invokevirtual 100, 3) := by decide +kernel
theorem dL_areWaysSo_210 : decode cL_areWaysSo 210 = .ok (.iload 4, 2) := by decide +kernel
theorem dL_areWaysSo_212 : decode cL_areWaysSo 212 = .ok (.if_icmp .ne 24, 3) := by decide +kernel
theorem dL_areWaysSo_215 : decode cL_areWaysSo 215 = .ok (.aload_n 0, 1) := by decide +kernel
theorem dL_areWaysSo_216 : decode cL_areWaysSo 216 = .ok (.iload_n 3, 1) := by decide +kernel
theorem dL_areWaysSo_217 : decode cL_areWaysSo 217 = .ok (.bipush 7, 2) := by decide +kernel
theorem dL_areWaysSo_219 : decode cL_areWaysSo 219 = .ok (.idiv, 1) := by decide +kernel
theorem dL_areWaysSo_220 : decode cL_areWaysSo 220 = .ok (.iload_n 3, 1) := by decide +kernel
theorem dL_areWaysSo_221 : decode cL_areWaysSo 221 = .ok (.bipush 7, 2) := by decide +kernel
theorem dL_areWaysSo_223 : decode cL_areWaysSo 223 = .ok (.irem, 1) := by decide +kernel
theorem dL_areWaysSo_224 : decode cL_areWaysSo 224 = .ok (.invokevirtual 97, 3) := by decide +kernel
theorem dL_areWaysSo_227 : decode cL_areWaysSo 227 = .ok (.iload 5, 2) := by decide +kernel
theorem dL_areWaysSo_229 : decode cL_areWaysSo 229 = .ok (.if_icmp .ne 7, 3) := by decide +kernel
theorem dL_areWaysSo_232 : decode cL_areWaysSo 232 = .ok (.iconst 1, 1) := by decide +kernel
theorem dL_areWaysSo_233 : decode cL_areWaysSo 233 = .ok (.goto 4, 3) := by decide +kernel
theorem dL_areWaysSo_236 : decode cL_areWaysSo 236 = .ok (.iconst 0, 1) := by decide +kernel
theorem dL_areWaysSo_237 : decode cL_areWaysSo 237 = .ok (.istore_n 2, 1) := by decide +kernel
theorem dL_areWaysSo_238 : decode cL_areWaysSo 238 = .ok (.iinc 3 1, 3) := by decide +kernel
theorem dL_areWaysSo_241 : decode cL_areWaysSo 241 = .ok (.goto (-157), 3) := by decide +kernel
theorem dL_areWaysSo_244 : decode cL_areWaysSo 244 = .ok (.iload_n 2, 1) := by decide +kernel
theorem dL_areWaysSo_245 : decode cL_areWaysSo 245 = .ok (.ifCond .eq 25, 3) := by decide +kernel
theorem dL_areWaysSo_248 : decode cL_areWaysSo 248 = .ok (.aload_n 0, 1) := by decide +kernel
theorem dL_areWaysSo_249 : decode cL_areWaysSo 249 = .ok (.invokevirtual 31, 3) := by decide +kernel
theorem dL_areWaysSo_252 : decode cL_areWaysSo 252 = .ok (.ifCond .gt 14, 3) := by decide +kernel
theorem dL_areWaysSo_255 : decode cL_areWaysSo 255 = .ok (.iload_n 1, 1) := by decide +kernel
theorem dL_areWaysSo_256 : decode cL_areWaysSo 256 = .ok (.ifCond .eq 10, 3) := by decide +kernel
theorem dL_areWaysSo_259 : decode cL_areWaysSo 259 = .ok (.aload_n 0, 1) := by decide +kernel
theorem dL_areWaysSo_260 : decode cL_areWaysSo 260 = .ok (.invokevirtual 144, 3) := by decide +kernel
theorem dL_areWaysSo_263 : decode cL_areWaysSo 263 = .ok (.ifCond .ne 7, 3) := by decide +kernel
theorem dL_areWaysSo_266 : decode cL_areWaysSo 266 = .ok (.iconst 1, 1) := by decide +kernel
theorem dL_areWaysSo_267 : decode cL_areWaysSo 267 = .ok (.goto 4, 3) := by decide +kernel
theorem dL_areWaysSo_270 : decode cL_areWaysSo 270 = .ok (.iconst 0, 1) := by decide +kernel
theorem dL_areWaysSo_271 : decode cL_areWaysSo 271 = .ok (.ireturn, 1) := by decide +kernel
theorem dL_law_0 : decode cL_law 0 = .ok (.new 15, 3) := by decide +kernel
theorem dL_law_3 : decode cL_law 3 = .ok (.dup, 1) := by decide +kernel
theorem dL_law_4 : decode cL_law 4 = .ok (.invokespecial 147, 3) := by decide +kernel
theorem dL_law_7 : decode cL_law 7 = .ok (.astore_n 1, 1) := by decide +kernel
theorem dL_law_8 : decode cL_law 8 = .ok (.aload_n 1, 1) := by decide +kernel
theorem dL_law_9 : decode cL_law 9 = .ok (.aload_n 0, 1) := by decide +kernel
theorem dL_law_10 : decode cL_law 10 = .ok (.bipush 63, 2) := by decide +kernel
theorem dL_law_12 : decode cL_law 12 = .ok (.invokestatic 148, 3) := by decide +kernel
theorem dL_law_15 : decode cL_law 15 = .ok (.ldc 152, 2) := by decide +kernel
theorem dL_law_17 : decode cL_law 17 = .ok (.invokestatic 8, 3) := by decide +kernel
theorem dL_law_20 : decode cL_law 20 = .ok (.invokestatic 27, 3) := by decide +kernel
theorem dL_law_23 : decode cL_law 23 = .ok (.ifCond .ne 5, 3) := by decide +kernel
theorem dL_law_26 : decode cL_law 26 = .ok (.iconst 0, 1) := by decide +kernel
theorem dL_law_27 : decode cL_law 27 = .ok (.ireturn, 1) := by decide +kernel
theorem dL_law_28 : decode cL_law 28 = .ok (.iconst 0, 1) := by decide +kernel
theorem dL_law_29 : decode cL_law 29 = .ok (.istore_n 2, 1) := by decide +kernel
theorem dL_law_30 : decode cL_law 30 = .ok (.iload_n 2, 1) := by decide +kernel
theorem dL_law_31 : decode cL_law 31 = .ok (.bipush 36, 2) := by decide +kernel
theorem dL_law_33 : decode cL_law 33 = .ok (.if_icmp .ge 71, 3) := by decide +kernel
theorem dL_law_36 : decode cL_law 36 = .ok (.aload_n 0, 1) := by decide +kernel
theorem dL_law_37 : decode cL_law 37 = .ok (.iload_n 2, 1) := by decide +kernel
theorem dL_law_38 : decode cL_law 38 = .ok (.invokestatic 148, 3) := by decide +kernel
theorem dL_law_41 : decode cL_law 41 = .ok (.istore_n 3, 1) := by decide +kernel
theorem dL_law_42 : decode cL_law 42 = .ok (.aload_n 0, 1) := by decide +kernel
theorem dL_law_43 : decode cL_law 43 = .ok (.iload_n 2, 1) := by decide +kernel
theorem dL_law_44 : decode cL_law 44 = .ok (.bipush 20, 2) := by decide +kernel
theorem dL_law_46 : decode cL_law 46 = .ok (.iadd, 1) := by decide +kernel
theorem dL_law_47 : decode cL_law 47 = .ok (.invokestatic 148, 3) := by decide +kernel
theorem dL_law_50 : decode cL_law 50 = .ok (.istore 4, 2) := by decide +kernel
theorem dL_law_52 : decode cL_law 52 = .ok (.aload_n 1, 1) := by decide +kernel
theorem dL_law_53 : decode cL_law 53 = .ok (.iload_n 3, 1) := by decide +kernel
theorem dL_law_54 : decode cL_law 54 = .ok (.iload 4, 2) := by decide +kernel
theorem dL_law_56 : decode cL_law 56 = .ok (.invokestatic 153, 3) := by decide +kernel
theorem dL_law_59 : decode cL_law 59 = .ok (.ifCond .eq 37, 3) := by decide +kernel
theorem dL_law_62 : decode cL_law 62 = .ok (.aload_n 1, 1) := by decide +kernel
theorem dL_law_63 : decode cL_law 63 = .ok (.invokestatic 156, 3) := by decide +kernel
theorem dL_law_66 : decode cL_law 66 = .ok (.ifCond .eq 30, 3) := by decide +kernel
theorem dL_law_69 : decode cL_law 69 = .ok (.iload_n 2, 1) := by decide +kernel
theorem dL_law_70 : decode cL_law 70 = .ok (.iconst 2, 1) := by decide +kernel
theorem dL_law_71 : decode cL_law 71 = .ok (.irem, 1) := by decide +kernel
theorem dL_law_72 : decode cL_law 72 = .ok (.ifCond .ne 10, 3) := by decide +kernel
theorem dL_law_75 : decode cL_law 75 = .ok (.aload_n 1, 1) := by decide +kernel
theorem dL_law_76 : decode cL_law 76 = .ok (.invokestatic 159, 3) := by decide +kernel
theorem dL_law_79 : decode cL_law 79 = .ok (.ifCond .eq 17, 3) := by decide +kernel
theorem dL_law_82 : decode cL_law 82 = .ok (.iload_n 2, 1) := by decide +kernel
theorem dL_law_83 : decode cL_law 83 = .ok (.iconst 4, 1) := by decide +kernel
theorem dL_law_84 : decode cL_law 84 = .ok (.irem, 1) := by decide +kernel
theorem dL_law_85 : decode cL_law 85 = .ok (.iconst 1, 1) := by decide +kernel
theorem dL_law_86 : decode cL_law 86 = .ok (.if_icmp .ne 12, 3) := by decide +kernel
theorem dL_law_89 : decode cL_law 89 = .ok (.aload_n 1, 1) := by decide +kernel
theorem dL_law_90 : decode cL_law 90 = .ok (.invokestatic 162, 3) := by decide +kernel
theorem dL_law_93 : decode cL_law 93 = .ok (.ifCond .ne 5, 3) := by decide +kernel
theorem dL_law_96 : decode cL_law 96 = .ok (.iconst 0, 1) := by decide +kernel
theorem dL_law_97 : decode cL_law 97 = .ok (.ireturn, 1) := by decide +kernel
theorem dL_law_98 : decode cL_law 98 = .ok (.iinc 2 1, 3) := by decide +kernel
theorem dL_law_101 : decode cL_law 101 = .ok (.goto (-71), 3) := by decide +kernel
theorem dL_law_104 : decode cL_law 104 = .ok (.iconst 1, 1) := by decide +kernel
theorem dL_law_105 : decode cL_law 105 = .ok (.ireturn, 1) := by decide +kernel
