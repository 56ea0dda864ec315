theorem dX6_can_58 : decode cX6_can 58 = .ok (.iconst 1, 1) := by decide +kernel
theorem dX6_can_59 : decode cX6_can 59 = .ok (.goto 4, 3) := by decide +kernel
theorem dX6_can_62 : decode cX6_can 62 = .ok (.iconst 0, 1) := by decide +kernel
theorem dX6_can_63 : decode cX6_can 63 = .ok (.iadd, 1) := by decide +kernel
theorem dX6_can_64 : decode cX6_can 64 = .ok (.istore_n 2, 1) := by decide +kernel
theorem dX6_can_65 : decode cX6_can 65 = .ok (.iinc 4 1, 3) := by decide +kernel
theorem dX6_can_68 : decode cX6_can 68 = .ok (.goto (-40), 3) := by decide +kernel
theorem dX6_can_71 : decode cX6_can 71 = .ok (.iinc 3 1, 3) := by decide +kernel
theorem dX6_can_74 : decode cX6_can 74 = .ok (.goto (-54), 3) := by decide +kernel
theorem dX6_can_77 : decode cX6_can 77 = .ok (.iload_n 2, 1) := by decide +kernel
theorem dX6_can_78 : decode cX6_can 78 = .ok (.ireturn, 1) := by decide +kernel
theorem dX6_comesTo_0 : decode cX6_comesTo 0 = .ok (.sipush 128, 3) := by decide +kernel
theorem dX6_comesTo_3 : decode cX6_comesTo 3 = .ok (.iload_n 1, 1) := by decide +kernel
theorem dX6_comesTo_4 : decode cX6_comesTo 4 = .ok (.imul, 1) := by decide +kernel
theorem dX6_comesTo_5 : decode cX6_comesTo 5 = .ok (.iload_n 2, 1) := by decide +kernel
theorem dX6_comesTo_6 : decode cX6_comesTo 6 = .ok (.iadd, 1) := by decide +kernel
theorem dX6_comesTo_7 : decode cX6_comesTo 7 = .ok (.istore 5, 2) := by decide +kernel
theorem dX6_comesTo_9 : decode cX6_comesTo 9 = .ok (.aload_n 0, 1) := by decide +kernel
theorem dX6_comesTo_10 : decode cX6_comesTo 10 = .ok (.getfield 45, 3) := by decide +kernel
theorem dX6_comesTo_13 : decode cX6_comesTo 13 = .ok (.iload 5, 2) := by decide +kernel
theorem dX6_comesTo_15 : decode cX6_comesTo 15 = .ok (.aload_n 0, 1) := by decide +kernel
theorem dX6_comesTo_16 : decode cX6_comesTo 16 = .ok (.getfield 45, 3) := by decide +kernel
theorem dX6_comesTo_19 : decode cX6_comesTo 19 = .ok (.iload 5, 2) := by decide +kernel
theorem dX6_comesTo_21 : decode cX6_comesTo 21 = .ok (.iaload, 1) := by decide +kernel
theorem dX6_comesTo_22 : decode cX6_comesTo 22 = .ok (.iload_n 3, 1) := by decide +kernel
theorem dX6_comesTo_23 : decode cX6_comesTo 23 = .ok (.iadd, 1) := by decide +kernel
theorem dX6_comesTo_24 : decode cX6_comesTo 24 = .ok (.ldc 199, 2) := by decide +kernel
theorem dX6_comesTo_26 : decode cX6_comesTo 26 = .ok (.irem, 1) := by decide +kernel
theorem dX6_comesTo_27 : decode cX6_comesTo 27 = .ok (.iastore, 1) := by decide +kernel
theorem dX6_comesTo_28 : decode cX6_comesTo 28 = .ok (.aload_n 0, 1) := by decide +kernel
theorem dX6_comesTo_29 : decode cX6_comesTo 29 = .ok (.getfield 48, 3) := by decide +kernel
theorem dX6_comesTo_32 : decode cX6_comesTo 32 = .ok (.iload 5, 2) := by decide +kernel
theorem dX6_comesTo_34 : decode cX6_comesTo 34 = .ok (.aload_n 0, 1) := by decide +kernel
theorem dX6_comesTo_35 : decode cX6_comesTo 35 = .ok (.getfield 48, 3) := by decide +kernel
theorem dX6_comesTo_38 : decode cX6_comesTo 38 = .ok (.iload 5, 2) := by decide +kernel
theorem dX6_comesTo_40 : decode cX6_comesTo 40 = .ok (.iaload, 1) := by decide +kernel
theorem dX6_comesTo_41 : decode cX6_comesTo 41 = .ok (.iload 4, 2) := by decide +kernel
theorem dX6_comesTo_43 : decode cX6_comesTo 43 = .ok (.invokestatic 127, 3) := by decide +kernel
theorem dX6_comesTo_46 : decode cX6_comesTo 46 = .ok (.iastore, 1) := by decide +kernel
theorem dX6_comesTo_47 : decode cX6_comesTo 47 = .ok (.return_, 1) := by decide +kernel
theorem dX6_ways_0 : decode cX6_ways 0 = .ok (.iload_n 1, 1) := by decide +kernel
theorem dX6_ways_1 : decode cX6_ways 1 = .ok (.iconst 0, 1) := by decide +kernel
theorem dX6_ways_2 : decode cX6_ways 2 = .ok (.iconst 1, 1) := by decide +kernel
theorem dX6_ways_3 : decode cX6_ways 3 = .ok (.invokestatic 58, 3) := by decide +kernel
theorem dX6_ways_6 : decode cX6_ways 6 = .ok (.ifCond .ne 10, 3) := by decide +kernel
theorem dX6_ways_9 : decode cX6_ways 9 = .ok (.aload_n 0, 1) := by decide +kernel
theorem dX6_ways_10 : decode cX6_ways 10 = .ok (.bipush (-2), 2) := by decide +kernel
theorem dX6_ways_12 : decode cX6_ways 12 = .ok (.invokevirtual 52, 3) := by decide +kernel
theorem dX6_ways_15 : decode cX6_ways 15 = .ok (.ireturn, 1) := by decide +kernel
theorem dX6_ways_16 : decode cX6_ways 16 = .ok (.ldc 9, 2) := by decide +kernel
theorem dX6_ways_18 : decode cX6_ways 18 = .ok (.aload_n 0, 1) := by decide +kernel
theorem dX6_ways_19 : decode cX6_ways 19 = .ok (.getfield 10, 3) := by decide +kernel
theorem dX6_ways_22 : decode cX6_ways 22 = .ok (.iconst (-1), 1) := by decide +kernel
theorem dX6_ways_23 : decode cX6_ways 23 = .ok (.ixor, 1) := by decide +kernel
theorem dX6_ways_24 : decode cX6_ways 24 = .ok (.iand, 1) := by decide +kernel
theorem dX6_ways_25 : decode cX6_ways 25 = .ok (.istore_n 2, 1) := by decide +kernel
theorem dX6_ways_26 : decode cX6_ways 26 = .ok (.iconst 0, 1) := by decide +kernel
theorem dX6_ways_27 : decode cX6_ways 27 = .ok (.istore_n 3, 1) := by decide +kernel
theorem dX6_ways_28 : decode cX6_ways 28 = .ok (.iload_n 3, 1) := by decide +kernel
theorem dX6_ways_29 : decode cX6_ways 29 = .ok (.sipush 3328, 3) := by decide +kernel
theorem dX6_ways_32 : decode cX6_ways 32 = .ok (.if_icmp .ge 24, 3) := by decide +kernel
theorem dX6_ways_35 : decode cX6_ways 35 = .ok (.aload_n 0, 1) := by decide +kernel
theorem dX6_ways_36 : decode cX6_ways 36 = .ok (.getfield 45, 3) := by decide +kernel
theorem dX6_ways_39 : decode cX6_ways 39 = .ok (.iload_n 3, 1) := by decide +kernel
theorem dX6_ways_40 : decode cX6_ways 40 = .ok (.iconst 0, 1) := by decide +kernel
theorem dX6_ways_41 : decode cX6_ways 41 = .ok (.iastore, 1) := by decide +kernel
theorem dX6_ways_42 : decode cX6_ways 42 = .ok (.aload_n 0, 1) := by decide +kernel
theorem dX6_ways_43 : decode cX6_ways 43 = .ok (.getfield 48, 3) := by decide +kernel
theorem dX6_ways_46 : decode cX6_ways 46 = .ok (.iload_n 3, 1) := by decide +kernel
theorem dX6_ways_47 : decode cX6_ways 47 = .ok (.ldc 51, 2) := by decide +kernel
theorem dX6_ways_49 : decode cX6_ways 49 = .ok (.iastore, 1) := by decide +kernel
theorem dX6_ways_50 : decode cX6_ways 50 = .ok (.iinc 3 1, 3) := by decide +kernel
theorem dX6_ways_53 : decode cX6_ways 53 = .ok (.goto (-25), 3) := by decide +kernel
theorem dX6_ways_56 : decode cX6_ways 56 = .ok (.aload_n 0, 1) := by decide +kernel
theorem dX6_ways_57 : decode cX6_ways 57 = .ok (.getfield 45, 3) := by decide +kernel
theorem dX6_ways_60 : decode cX6_ways 60 = .ok (.iconst 0, 1) := by decide +kernel
theorem dX6_ways_61 : decode cX6_ways 61 = .ok (.iconst 1, 1) := by decide +kernel
theorem dX6_ways_62 : decode cX6_ways 62 = .ok (.iastore, 1) := by decide +kernel
theorem dX6_ways_63 : decode cX6_ways 63 = .ok (.aload_n 0, 1) := by decide +kernel
theorem dX6_ways_64 : decode cX6_ways 64 = .ok (.getfield 48, 3) := by decide +kernel
theorem dX6_ways_67 : decode cX6_ways 67 = .ok (.iconst 0, 1) := by decide +kernel
theorem dX6_ways_68 : decode cX6_ways 68 = .ok (.iconst 0, 1) := by decide +kernel
theorem dX6_ways_69 : decode cX6_ways 69 = .ok (.iastore, 1) := by decide +kernel
theorem dX6_ways_70 : decode cX6_ways 70 = .ok (.iconst 0, 1) := by decide +kernel
theorem dX6_ways_71 : decode cX6_ways 71 = .ok (.istore_n 3, 1) := by decide +kernel
theorem dX6_ways_72 : decode cX6_ways 72 = .ok (.iload_n 3, 1) := by decide +kernel
theorem dX6_ways_73 : decode cX6_ways 73 = .ok (.bipush 25, 2) := by decide +kernel
theorem dX6_ways_75 : decode cX6_ways 75 = .ok (.if_icmp .ge 192, 3) := by decide +kernel
theorem dX6_ways_78 : decode cX6_ways 78 = .ok (.iconst 0, 1) := by decide +kernel
theorem dX6_ways_79 : decode cX6_ways 79 = .ok (.istore 4, 2) := by decide +kernel
theorem dX6_ways_81 : decode cX6_ways 81 = .ok (.iload 4, 2) := by decide +kernel
theorem dX6_ways_83 : decode cX6_ways 83 = .ok (.sipush 128, 3) := by decide +kernel
theorem dX6_ways_86 : decode cX6_ways 86 = .ok (.if_icmp .ge 175, 3) := by decide +kernel
theorem dX6_ways_89 : decode cX6_ways 89 = .ok (.sipush 128, 3) := by decide +kernel
theorem dX6_ways_92 : decode cX6_ways 92 = .ok (.iload_n 3, 1) := by decide +kernel
theorem dX6_ways_93 : decode cX6_ways 93 = .ok (.imul, 1) := by decide +kernel
theorem dX6_ways_94 : decode cX6_ways 94 = .ok (.iload 4, 2) := by decide +kernel
theorem dX6_ways_96 : decode cX6_ways 96 = .ok (.iadd, 1) := by decide +kernel
theorem dX6_ways_97 : decode cX6_ways 97 = .ok (.istore 5, 2) := by decide +kernel
theorem dX6_ways_99 : decode cX6_ways 99 = .ok (.aload_n 0, 1) := by decide +kernel
theorem dX6_ways_100 : decode cX6_ways 100 = .ok (.getfield 48, 3) := by decide +kernel
theorem dX6_ways_103 : decode cX6_ways 103 = .ok (.iload 5, 2) := by decide +kernel
theorem dX6_ways_105 : decode cX6_ways 105 = .ok (.iaload, 1) := by decide +kernel
theorem dX6_ways_106 : decode cX6_ways 106 = .ok (.ldc 51, 2) := by decide +kernel
theorem dX6_ways_108 : decode cX6_ways 108 = .ok (.if_icmp .ne 6, 3) := by decide +kernel
theorem dX6_ways_111 : decode cX6_ways 111 = .ok (.goto 144, 3) := by decide +kernel
theorem dX6_ways_114 : decode cX6_ways 114 = .ok (.iload 4, 2) := by decide +kernel
theorem dX6_ways_116 : decode cX6_ways 116 = .ok (.iconst 0, 1) := by decide +kernel
theorem dX6_ways_117 : decode cX6_ways 117 = .ok (.invokestatic 72, 3) := by decide +kernel
theorem dX6_ways_120 : decode cX6_ways 120 = .ok (.ifCond .ne 11, 3) := by decide +kernel
theorem dX6_ways_123 : decode cX6_ways 123 = .ok (.iload_n 2, 1) := by decide +kernel
theorem dX6_ways_124 : decode cX6_ways 124 = .ok (.iload_n 3, 1) := by decide +kernel
theorem dX6_ways_125 : decode cX6_ways 125 = .ok (.invokestatic 72, 3) := by decide +kernel
theorem dX6_ways_128 : decode cX6_ways 128 = .ok (.ifCond .ne 28, 3) := by decide +kernel
theorem dX6_ways_131 : decode cX6_ways 131 = .ok (.aload_n 0, 1) := by decide +kernel
theorem dX6_ways_132 : decode cX6_ways 132 = .ok (.iload_n 3, 1) := by decide +kernel
theorem dX6_ways_133 : decode cX6_ways 133 = .ok (.iconst 1, 1) := by decide +kernel
theorem dX6_ways_134 : decode cX6_ways 134 = .ok (.iadd, 1) := by decide +kernel
theorem dX6_ways_135 : decode cX6_ways 135 = .ok (.iload 4, 2) := by decide +kernel
theorem dX6_ways_137 : decode cX6_ways 137 = .ok (.iconst 1, 1) := by decide +kernel
theorem dX6_ways_138 : decode cX6_ways 138 = .ok (.ishr, 1) := by decide +kernel
theorem dX6_ways_139 : decode cX6_ways 139 = .ok (.aload_n 0, 1) := by decide +kernel
theorem dX6_ways_140 : decode cX6_ways 140 = .ok (.getfield 45, 3) := by decide +kernel
theorem dX6_ways_143 : decode cX6_ways 143 = .ok (.iload 5, 2) := by decide +kernel
theorem dX6_ways_145 : decode cX6_ways 145 = .ok (.iaload, 1) := by decide +kernel
theorem dX6_ways_146 : decode cX6_ways 146 = .ok (.aload_n 0, 1) := by decide +kernel
theorem dX6_ways_147 : decode cX6_ways 147 = .ok (.getfield 48, 3) := by decide +kernel
theorem dX6_ways_150 : decode cX6_ways 150 = .ok (.iload 5, 2) := by decide +kernel
theorem dX6_ways_152 : decode cX6_ways 152 = .ok (.iaload, 1) := by decide +kernel
theorem dX6_ways_153 : decode cX6_ways 153 = .ok (.invokevirtual 200, 3) := by decide +kernel
theorem dX6_ways_156 : decode cX6_ways 156 = .ok (.iconst 0, 1) := by decide +kernel
theorem dX6_ways_157 : decode cX6_ways 157 = .ok (.istore 6, 2) := by decide +kernel
theorem dX6_ways_159 : decode cX6_ways 159 = .ok (.iload 6, 2) := by decide +kernel
theorem dX6_ways_161 : decode cX6_ways 161 = .ok (.iconst 4, 1) := by decide +kernel
theorem dX6_ways_162 : decode cX6_ways 162 = .ok (.if_icmp .ge 93, 3) := by decide +kernel
theorem dX6_ways_165 : decode cX6_ways 165 = .ok (.iload_n 2, 1) := by decide +kernel
theorem dX6_ways_166 : decode cX6_ways 166 = .ok (.iload_n 3, 1) := by decide +kernel
theorem dX6_ways_167 : decode cX6_ways 167 = .ok (.invokestatic 72, 3) := by decide +kernel
theorem dX6_ways_170 : decode cX6_ways 170 = .ok (.ifCond .eq 85, 3) := by decide +kernel
theorem dX6_ways_173 : decode cX6_ways 173 = .ok (.iload 4, 2) := by decide +kernel
theorem dX6_ways_175 : decode cX6_ways 175 = .ok (.iconst 0, 1) := by decide +kernel
theorem dX6_ways_176 : decode cX6_ways 176 = .ok (.invokestatic 72, 3) := by decide +kernel
theorem dX6_ways_179 : decode cX6_ways 179 = .ok (.ifCond .ne 76, 3) := by decide +kernel
theorem dX6_ways_182 : decode cX6_ways 182 = .ok (.iload_n 2, 1) := by decide +kernel
theorem dX6_ways_183 : decode cX6_ways 183 = .ok (.iload 6, 2) := by decide +kernel
theorem dX6_ways_185 : decode cX6_ways 185 = .ok (.iload_n 3, 1) := by decide +kernel
theorem dX6_ways_186 : decode cX6_ways 186 = .ok (.invokestatic 134, 3) := by decide +kernel
theorem dX6_ways_189 : decode cX6_ways 189 = .ok (.ifCond .eq 14, 3) := by decide +kernel
theorem dX6_ways_192 : decode cX6_ways 192 = .ok (.iload 6, 2) := by decide +kernel
theorem dX6_ways_194 : decode cX6_ways 194 = .ok (.iload_n 3, 1) := by decide +kernel
theorem dX6_ways_195 : decode cX6_ways 195 = .ok (.invokestatic 65, 3) := by decide +kernel
theorem dX6_ways_198 : decode cX6_ways 198 = .ok (.iload_n 3, 1) := by decide +kernel
theorem dX6_ways_199 : decode cX6_ways 199 = .ok (.ishr, 1) := by decide +kernel
theorem dX6_ways_200 : decode cX6_ways 200 = .ok (.goto 4, 3) := by decide +kernel
theorem dX6_ways_203 : decode cX6_ways 203 = .ok (.iconst 0, 1) := by decide +kernel
theorem dX6_ways_204 : decode cX6_ways 204 = .ok (.istore 7, 2) := by decide +kernel
theorem dX6_ways_206 : decode cX6_ways 206 = .ok (.iload 7, 2) := by decide +kernel
theorem dX6_ways_208 : decode cX6_ways 208 = .ok (.ifCond .eq 41, 3) := by decide +kernel
theorem dX6_ways_211 : decode cX6_ways 211 = .ok (.iload 7, 2) := by decide +kernel
theorem dX6_ways_213 : decode cX6_ways 213 = .ok (.iload 4, 2) := by decide +kernel
theorem dX6_ways_215 : decode cX6_ways 215 = .ok (.iand, 1) := by decide +kernel
theorem dX6_ways_216 : decode cX6_ways 216 = .ok (.ifCond .ne 33, 3) := by decide +kernel
theorem dX6_ways_219 : decode cX6_ways 219 = .ok (.aload_n 0, 1) := by decide +kernel
theorem dX6_ways_220 : decode cX6_ways 220 = .ok (.iload_n 3, 1) := by decide +kernel
theorem dX6_ways_221 : decode cX6_ways 221 = .ok (.iconst 1, 1) := by decide +kernel
theorem dX6_ways_222 : decode cX6_ways 222 = .ok (.iadd, 1) := by decide +kernel
theorem dX6_ways_223 : decode cX6_ways 223 = .ok (.iload 4, 2) := by decide +kernel
theorem dX6_ways_225 : decode cX6_ways 225 = .ok (.iload 7, 2) := by decide +kernel
theorem dX6_ways_227 : decode cX6_ways 227 = .ok (.ior, 1) := by decide +kernel
theorem dX6_ways_228 : decode cX6_ways 228 = .ok (.iconst 1, 1) := by decide +kernel
theorem dX6_ways_229 : decode cX6_ways 229 = .ok (.ishr, 1) := by decide +kernel
theorem dX6_ways_230 : decode cX6_ways 230 = .ok (.aload_n 0, 1) := by decide +kernel
theorem dX6_ways_231 : decode cX6_ways 231 = .ok (.getfield 45, 3) := by decide +kernel
theorem dX6_ways_234 : decode cX6_ways 234 = .ok (.iload 5, 2) := by decide +kernel
theorem dX6_ways_236 : decode cX6_ways 236 = .ok (.iaload, 1) := by decide +kernel
theorem dX6_ways_237 : decode cX6_ways 237 = .ok (.aload_n 0, 1) := by decide +kernel
theorem dX6_ways_238 : decode cX6_ways 238 = .ok (.getfield 48, 3) := by decide +kernel
theorem dX6_ways_241 : decode cX6_ways 241 = .ok (.iload 5, 2) := by decide +kernel
theorem dX6_ways_243 : decode cX6_ways 243 = .ok (.iaload, 1) := by decide +kernel
theorem dX6_ways_244 : decode cX6_ways 244 = .ok (.iconst 1, 1) := by decide +kernel
theorem dX6_ways_245 : decode cX6_ways 245 = .ok (.iadd, 1) := by decide +kernel
theorem dX6_ways_246 : decode cX6_ways 246 = .ok (.invokevirtual 200, 3) := by decide +kernel
theorem dX6_ways_249 : decode cX6_ways 249 = .ok (.iinc 6 1, 3) := by decide +kernel
theorem dX6_ways_252 : decode cX6_ways 252 = .ok (.goto (-93), 3) := by decide +kernel
theorem dX6_ways_255 : decode cX6_ways 255 = .ok (.iinc 4 1, 3) := by decide +kernel
theorem dX6_ways_258 : decode cX6_ways 258 = .ok (.goto (-177), 3) := by decide +kernel
theorem dX6_ways_261 : decode cX6_ways 261 = .ok (.iinc 3 1, 3) := by decide +kernel
theorem dX6_ways_264 : decode cX6_ways 264 = .ok (.goto (-192), 3) := by decide +kernel
theorem dX6_ways_267 : decode cX6_ways 267 = .ok (.iload_n 1, 1) := by decide +kernel
theorem dX6_ways_268 : decode cX6_ways 268 = .ok (.ifCond .ne 14, 3) := by decide +kernel
theorem dX6_ways_271 : decode cX6_ways 271 = .ok (.aload_n 0, 1) := by decide +kernel
theorem dX6_ways_272 : decode cX6_ways 272 = .ok (.getfield 45, 3) := by decide +kernel
theorem dX6_ways_275 : decode cX6_ways 275 = .ok (.sipush 3200, 3) := by decide +kernel
theorem dX6_ways_278 : decode cX6_ways 278 = .ok (.iaload, 1) := by decide +kernel
theorem dX6_ways_279 : decode cX6_ways 279 = .ok (.goto 11, 3) := by decide +kernel
theorem dX6_ways_282 : decode cX6_ways 282 = .ok (.aload_n 0, 1) := by decide +kernel
theorem dX6_ways_283 : decode cX6_ways 283 = .ok (.getfield 48, 3) := by decide +kernel
theorem dX6_ways_286 : decode cX6_ways 286 = .ok (.sipush 3200, 3) := by decide +kernel
theorem dX6_ways_289 : decode cX6_ways 289 = .ok (.iaload, 1) := by decide +kernel
theorem dX6_ways_290 : decode cX6_ways 290 = .ok (.ireturn, 1) := by decide +kernel
theorem dX6_alike_0 : decode cX6_alike 0 = .ok (.iload_n 1, 1) := by decide +kernel
theorem dX6_alike_1 : decode cX6_alike 1 = .ok (.iconst 0, 1) := by decide +kernel
theorem dX6_alike_2 : decode cX6_alike 2 = .ok (.iconst 1, 1) := by decide +kernel
theorem dX6_alike_3 : decode cX6_alike 3 = .ok (.invokestatic 58, 3) := by decide +kernel
theorem dX6_alike_6 : decode cX6_alike 6 = .ok (.ifCond .ne 10, 3) := by decide +kernel
theorem dX6_alike_9 : decode cX6_alike 9 = .ok (.aload_n 0, 1) := by decide +kernel
theorem dX6_alike_10 : decode cX6_alike 10 = .ok (.bipush (-2), 2) := by decide +kernel
theorem dX6_alike_12 : decode cX6_alike 12 = .ok (.invokevirtual 52, 3) := by decide +kernel
theorem dX6_alike_15 : decode cX6_alike 15 = .ok (.ireturn, 1) := by decide +kernel
theorem dX6_alike_16 : decode cX6_alike 16 = .ok (.aload_n 0, 1) := by decide +kernel
theorem dX6_alike_17 : decode cX6_alike 17 = .ok (.getfield 10, 3) := by decide +kernel
theorem dX6_alike_20 : decode cX6_alike 20 = .ok (.istore_n 2, 1) := by decide +kernel
theorem dX6_alike_21 : decode cX6_alike 21 = .ok (.iconst 1, 1) := by decide +kernel
theorem dX6_alike_22 : decode cX6_alike 22 = .ok (.istore_n 3, 1) := by decide +kernel
theorem dX6_alike_23 : decode cX6_alike 23 = .ok (.iload_n 3, 1) := by decide +kernel
theorem dX6_alike_24 : decode cX6_alike 24 = .ok (.iconst 4, 1) := by decide +kernel
theorem dX6_alike_25 : decode cX6_alike 25 = .ok (.if_icmp .ge 22, 3) := by decide +kernel
theorem dX6_alike_28 : decode cX6_alike 28 = .ok (.iload_n 2, 1) := by decide +kernel
theorem dX6_alike_29 : decode cX6_alike 29 = .ok (.aload_n 0, 1) := by decide +kernel
theorem dX6_alike_30 : decode cX6_alike 30 = .ok (.getfield 10, 3) := by decide +kernel
theorem dX6_alike_33 : decode cX6_alike 33 = .ok (.iload_n 3, 1) := by decide +kernel
theorem dX6_alike_34 : decode cX6_alike 34 = .ok (.invokestatic 141, 3) := by decide +kernel
theorem dX6_alike_37 : decode cX6_alike 37 = .ok (.invokestatic 127, 3) := by decide +kernel
theorem dX6_alike_40 : decode cX6_alike 40 = .ok (.istore_n 2, 1) := by decide +kernel
theorem dX6_alike_41 : decode cX6_alike 41 = .ok (.iinc 3 1, 3) := by decide +kernel
theorem dX6_alike_44 : decode cX6_alike 44 = .ok (.goto (-21), 3) := by decide +kernel
theorem dX6_alike_47 : decode cX6_alike 47 = .ok (.iload_n 1, 1) := by decide +kernel
theorem dX6_alike_48 : decode cX6_alike 48 = .ok (.iconst 1, 1) := by decide +kernel
theorem dX6_alike_49 : decode cX6_alike 49 = .ok (.if_icmp .ne 5, 3) := by decide +kernel
theorem dX6_alike_52 : decode cX6_alike 52 = .ok (.iload_n 2, 1) := by decide +kernel
theorem dX6_alike_53 : decode cX6_alike 53 = .ok (.ireturn, 1) := by decide +kernel
theorem dX6_alike_54 : decode cX6_alike 54 = .ok (.aload_n 0, 1) := by decide +kernel
theorem dX6_alike_55 : decode cX6_alike 55 = .ok (.getfield 10, 3) := by decide +kernel
theorem dX6_alike_58 : decode cX6_alike 58 = .ok (.iconst 1, 1) := by decide +kernel
theorem dX6_alike_59 : decode cX6_alike 59 = .ok (.invokestatic 141, 3) := by decide +kernel
theorem dX6_alike_62 : decode cX6_alike 62 = .ok (.aload_n 0, 1) := by decide +kernel
theorem dX6_alike_63 : decode cX6_alike 63 = .ok (.getfield 10, 3) := by decide +kernel
theorem dX6_alike_66 : decode cX6_alike 66 = .ok (.if_icmp .ne 7, 3) := by decide +kernel
theorem dX6_alike_69 : decode cX6_alike 69 = .ok (.iconst 1, 1) := by decide +kernel
theorem dX6_alike_70 : decode cX6_alike 70 = .ok (.goto 23, 3) := by decide +kernel
theorem dX6_alike_73 : decode cX6_alike 73 = .ok (.aload_n 0, 1) := by decide +kernel
theorem dX6_alike_74 : decode cX6_alike 74 = .ok (.getfield 10, 3) := by decide +kernel
theorem dX6_alike_77 : decode cX6_alike 77 = .ok (.iconst 2, 1) := by decide +kernel
theorem dX6_alike_78 : decode cX6_alike 78 = .ok (.invokestatic 141, 3) := by decide +kernel
theorem dX6_alike_81 : decode cX6_alike 81 = .ok (.aload_n 0, 1) := by decide +kernel
theorem dX6_alike_82 : decode cX6_alike 82 = .ok (.getfield 10, 3) := by decide +kernel
theorem dX6_alike_85 : decode cX6_alike 85 = .ok (.if_icmp .ne 7, 3) := by decide +kernel
theorem dX6_alike_88 : decode cX6_alike 88 = .ok (.iconst 2, 1) := by decide +kernel
theorem dX6_alike_89 : decode cX6_alike 89 = .ok (.goto 4, 3) := by decide +kernel
theorem dX6_alike_92 : decode cX6_alike 92 = .ok (.iconst 4, 1) := by decide +kernel
theorem dX6_alike_93 : decode cX6_alike 93 = .ok (.ireturn, 1) := by decide +kernel
theorem dX6_settles_0 : decode cX6_settles 0 = .ok (.iload_n 1, 1) := by decide +kernel
theorem dX6_settles_1 : decode cX6_settles 1 = .ok (.iconst 0, 1) := by decide +kernel
theorem dX6_settles_2 : decode cX6_settles 2 = .ok (.iconst 1, 1) := by decide +kernel
theorem dX6_settles_3 : decode cX6_settles 3 = .ok (.invokestatic 58, 3) := by decide +kernel
theorem dX6_settles_6 : decode cX6_settles 6 = .ok (.ifCond .ne 10, 3) := by decide +kernel
theorem dX6_settles_9 : decode cX6_settles 9 = .ok (.aload_n 0, 1) := by decide +kernel
theorem dX6_settles_10 : decode cX6_settles 10 = .ok (.bipush (-2), 2) := by decide +kernel
theorem dX6_settles_12 : decode cX6_settles 12 = .ok (.invokevirtual 52, 3) := by decide +kernel
theorem dX6_settles_15 : decode cX6_settles 15 = .ok (.ireturn, 1) := by decide +kernel
theorem dX6_settles_16 : decode cX6_settles 16 = .ok (.aload_n 0, 1) := by decide +kernel
theorem dX6_settles_17 : decode cX6_settles 17 = .ok (.getfield 10, 3) := by decide +kernel
theorem dX6_settles_20 : decode cX6_settles 20 = .ok (.invokestatic 85, 3) := by decide +kernel
theorem dX6_settles_23 : decode cX6_settles 23 = .ok (.ifCond .eq 14, 3) := by decide +kernel
theorem dX6_settles_26 : decode cX6_settles 26 = .ok (.iload_n 1, 1) := by decide +kernel
theorem dX6_settles_27 : decode cX6_settles 27 = .ok (.ifCond .ne 7, 3) := by decide +kernel
theorem dX6_settles_30 : decode cX6_settles 30 = .ok (.iconst 0, 1) := by decide +kernel
theorem dX6_settles_31 : decode cX6_settles 31 = .ok (.goto 5, 3) := by decide +kernel
theorem dX6_settles_34 : decode cX6_settles 34 = .ok (.bipush (-9), 2) := by decide +kernel
theorem dX6_settles_36 : decode cX6_settles 36 = .ok (.ireturn, 1) := by decide +kernel
theorem dX6_settles_37 : decode cX6_settles 37 = .ok (.iconst 0, 1) := by decide +kernel
theorem dX6_settles_38 : decode cX6_settles 38 = .ok (.istore_n 2, 1) := by decide +kernel
theorem dX6_settles_39 : decode cX6_settles 39 = .ok (.iload_n 2, 1) := by decide +kernel
theorem dX6_settles_40 : decode cX6_settles 40 = .ok (.bipush 25, 2) := by decide +kernel
theorem dX6_settles_42 : decode cX6_settles 42 = .ok (.if_icmp .ge 46, 3) := by decide +kernel
theorem dX6_settles_45 : decode cX6_settles 45 = .ok (.aload_n 0, 1) := by decide +kernel
theorem dX6_settles_46 : decode cX6_settles 46 = .ok (.getfield 10, 3) := by decide +kernel
theorem dX6_settles_49 : decode cX6_settles 49 = .ok (.iload_n 2, 1) := by decide +kernel
theorem dX6_settles_50 : decode cX6_settles 50 = .ok (.invokestatic 72, 3) := by decide +kernel
theorem dX6_settles_53 : decode cX6_settles 53 = .ok (.ifCond .eq 29, 3) := by decide +kernel
theorem dX6_settles_56 : decode cX6_settles 56 = .ok (.aload_n 0, 1) := by decide +kernel
theorem dX6_settles_57 : decode cX6_settles 57 = .ok (.getfield 10, 3) := by decide +kernel
theorem dX6_settles_60 : decode cX6_settles 60 = .ok (.iconst 1, 1) := by decide +kernel
theorem dX6_settles_61 : decode cX6_settles 61 = .ok (.iload_n 2, 1) := by decide +kernel
theorem dX6_settles_62 : decode cX6_settles 62 = .ok (.ishl, 1) := by decide +kernel
theorem dX6_settles_63 : decode cX6_settles 63 = .ok (.iconst (-1), 1) := by decide +kernel
theorem dX6_settles_64 : decode cX6_settles 64 = .ok (.ixor, 1) := by decide +kernel
theorem dX6_settles_65 : decode cX6_settles 65 = .ok (.iand, 1) := by decide +kernel
theorem dX6_settles_66 : decode cX6_settles 66 = .ok (.invokestatic 85, 3) := by decide +kernel
theorem dX6_settles_69 : decode cX6_settles 69 = .ok (.ifCond .eq 13, 3) := by decide +kernel
theorem dX6_settles_72 : decode cX6_settles 72 = .ok (.iload_n 1, 1) := by decide +kernel
theorem dX6_settles_73 : decode cX6_settles 73 = .ok (.ifCond .ne 7, 3) := by decide +kernel
theorem dX6_settles_76 : decode cX6_settles 76 = .ok (.iconst 1, 1) := by decide +kernel
theorem dX6_settles_77 : decode cX6_settles 77 = .ok (.goto 4, 3) := by decide +kernel
theorem dX6_settles_80 : decode cX6_settles 80 = .ok (.iload_n 2, 1) := by decide +kernel
theorem dX6_settles_81 : decode cX6_settles 81 = .ok (.ireturn, 1) := by decide +kernel
theorem dX6_settles_82 : decode cX6_settles 82 = .ok (.iinc 2 1, 3) := by decide +kernel
theorem dX6_settles_85 : decode cX6_settles 85 = .ok (.goto (-46), 3) := by decide +kernel
theorem dX6_settles_88 : decode cX6_settles 88 = .ok (.iconst 0, 1) := by decide +kernel
theorem dX6_settles_89 : decode cX6_settles 89 = .ok (.istore_n 2, 1) := by decide +kernel
theorem dX6_settles_90 : decode cX6_settles 90 = .ok (.iload_n 2, 1) := by decide +kernel
theorem dX6_settles_91 : decode cX6_settles 91 = .ok (.bipush 25, 2) := by decide +kernel
theorem dX6_settles_93 : decode cX6_settles 93 = .ok (.if_icmp .ge 79, 3) := by decide +kernel
theorem dX6_settles_96 : decode cX6_settles 96 = .ok (.iload_n 2, 1) := by decide +kernel
theorem dX6_settles_97 : decode cX6_settles 97 = .ok (.iconst 1, 1) := by decide +kernel
theorem dX6_settles_98 : decode cX6_settles 98 = .ok (.iadd, 1) := by decide +kernel
theorem dX6_settles_99 : decode cX6_settles 99 = .ok (.istore_n 3, 1) := by decide +kernel
theorem dX6_settles_100 : decode cX6_settles 100 = .ok (.iload_n 3, 1) := by decide +kernel
theorem dX6_settles_101 : decode cX6_settles 101 = .ok (.bipush 25, 2) := by decide +kernel
theorem dX6_settles_103 : decode cX6_settles 103 = .ok (.if_icmp .ge 63, 3) := by decide +kernel
theorem dX6_settles_106 : decode cX6_settles 106 = .ok (.aload_n 0, 1) := by decide +kernel
theorem dX6_settles_107 : decode cX6_settles 107 = .ok (.getfield 10, 3) := by decide +kernel
theorem dX6_settles_110 : decode cX6_settles 110 = .ok (.iload_n 2, 1) := by decide +kernel
theorem dX6_settles_111 : decode cX6_settles 111 = .ok (.invokestatic 72, 3) := by decide +kernel
theorem dX6_settles_114 : decode cX6_settles 114 = .ok (.ifCond .eq 46, 3) := by decide +kernel
theorem dX6_settles_117 : decode cX6_settles 117 = .ok (.aload_n 0, 1) := by decide +kernel
theorem dX6_settles_118 : decode cX6_settles 118 = .ok (.getfield 10, 3) := by decide +kernel
theorem dX6_settles_121 : decode cX6_settles 121 = .ok (.iload_n 3, 1) := by decide +kernel
theorem dX6_settles_122 : decode cX6_settles 122 = .ok (.invokestatic 72, 3) := by decide +kernel
theorem dX6_settles_125 : decode cX6_settles 125 = .ok (.ifCond .eq 35, 3) := by decide +kernel
theorem dX6_settles_128 : decode cX6_settles 128 = .ok (.aload_n 0, 1) := by decide +kernel
theorem dX6_settles_129 : decode cX6_settles 129 = .ok (.getfield 10, 3) := by decide +kernel
theorem dX6_settles_132 : decode cX6_settles 132 = .ok (.iconst 1, 1) := by decide +kernel
theorem dX6_settles_133 : decode cX6_settles 133 = .ok (.iload_n 2, 1) := by decide +kernel
theorem dX6_settles_134 : decode cX6_settles 134 = .ok (.ishl, 1) := by decide +kernel
theorem dX6_settles_135 : decode cX6_settles 135 = .ok (.iconst (-1), 1) := by decide +kernel
theorem dX6_settles_136 : decode cX6_settles 136 = .ok (.ixor, 1) := by decide +kernel
theorem dX6_settles_137 : decode cX6_settles 137 = .ok (.iand, 1) := by decide +kernel
theorem dX6_settles_138 : decode cX6_settles 138 = .ok (.iconst 1, 1) := by decide +kernel
theorem dX6_settles_139 : decode cX6_settles 139 = .ok (.iload_n 3, 1) := by decide +kernel
theorem dX6_settles_140 : decode cX6_settles 140 = .ok (.ishl, 1) := by decide +kernel
theorem dX6_settles_141 : decode cX6_settles 141 = .ok (.iconst (-1), 1) := by decide +kernel
theorem dX6_settles_142 : decode cX6_settles 142 = .ok (.ixor, 1) := by decide +kernel
theorem dX6_settles_143 : decode cX6_settles 143 = .ok (.iand, 1) := by decide +kernel
theorem dX6_settles_144 : decode cX6_settles 144 = .ok (.invokestatic 85, 3) := by decide +kernel
theorem dX6_settles_147 : decode cX6_settles 147 = .ok (.ifCond .eq 13, 3) := by decide +kernel
theorem dX6_settles_150 : decode cX6_settles 150 = .ok (.iload_n 1, 1) := by decide +kernel
theorem dX6_settles_151 : decode cX6_settles 151 = .ok (.ifCond .ne 7, 3) := by decide +kernel
theorem dX6_settles_154 : decode cX6_settles 154 = .ok (.iconst 2, 1) := by decide +kernel
theorem dX6_settles_155 : decode cX6_settles 155 = .ok (.goto 4, 3) := by decide +kernel
theorem dX6_settles_158 : decode cX6_settles 158 = .ok (.iload_n 2, 1) := by decide +kernel
theorem dX6_settles_159 : decode cX6_settles 159 = .ok (.ireturn, 1) := by decide +kernel
theorem dX6_settles_160 : decode cX6_settles 160 = .ok (.iinc 3 1, 3) := by decide +kernel
theorem dX6_settles_163 : decode cX6_settles 163 = .ok (.goto (-63), 3) := by decide +kernel
theorem dX6_settles_166 : decode cX6_settles 166 = .ok (.iinc 2 1, 3) := by decide +kernel
theorem dX6_settles_169 : decode cX6_settles 169 = .ok (.goto (-79), 3) := by decide +kernel
theorem dX6_settles_172 : decode cX6_settles 172 = .ok (.bipush (-9), 2) := by decide +kernel
theorem dX6_settles_174 : decode cX6_settles 174 = .ok (.ireturn, 1) := by decide +kernel
theorem dX6_pips_0 : decode cX6_pips 0 = .ok (.iload_n 1, 1) := by decide +kernel
theorem dX6_pips_1 : decode cX6_pips 1 = .ok (.ifCond .ne 17, 3) := by decide +kernel
theorem dX6_pips_4 : decode cX6_pips 4 = .ok (.aload_n 0, 1) := by decide +kernel
theorem dX6_pips_5 : decode cX6_pips 5 = .ok (.getfield 10, 3) := by decide +kernel
theorem dX6_pips_8 : decode cX6_pips 8 = .ok (.sipush 14336, 3) := by decide +kernel
theorem dX6_pips_11 : decode cX6_pips 11 = .ok (.iand, 1) := by decide +kernel
theorem dX6_pips_12 : decode cX6_pips 12 = .ok (.invokestatic 82, 3) := by decide +kernel
theorem dX6_pips_15 : decode cX6_pips 15 = .ok (.goto 25, 3) := by decide +kernel
theorem dX6_pips_18 : decode cX6_pips 18 = .ok (.iload_n 1, 1) := by decide +kernel
theorem dX6_pips_19 : decode cX6_pips 19 = .ok (.iconst 1, 1) := by decide +kernel
theorem dX6_pips_20 : decode cX6_pips 20 = .ok (.if_icmp .ne 14, 3) := by decide +kernel
theorem dX6_pips_23 : decode cX6_pips 23 = .ok (.aload_n 0, 1) := by decide +kernel
theorem dX6_pips_24 : decode cX6_pips 24 = .ok (.getfield 10, 3) := by decide +kernel
theorem dX6_pips_27 : decode cX6_pips 27 = .ok (.iconst 2, 1) := by decide +kernel
theorem dX6_pips_28 : decode cX6_pips 28 = .ok (.ishr, 1) := by decide +kernel
theorem dX6_pips_29 : decode cX6_pips 29 = .ok (.iconst 1, 1) := by decide +kernel
theorem dX6_pips_30 : decode cX6_pips 30 = .ok (.iand, 1) := by decide +kernel
theorem dX6_pips_31 : decode cX6_pips 31 = .ok (.goto 9, 3) := by decide +kernel
theorem dX6_pips_34 : decode cX6_pips 34 = .ok (.aload_n 0, 1) := by decide +kernel
theorem dX6_pips_35 : decode cX6_pips 35 = .ok (.bipush (-2), 2) := by decide +kernel
theorem dX6_pips_37 : decode cX6_pips 37 = .ok (.invokevirtual 52, 3) := by decide +kernel
theorem dX6_pips_40 : decode cX6_pips 40 = .ok (.ireturn, 1) := by decide +kernel
theorem dX6_grudge_0 : decode cX6_grudge 0 = .ok (.aload_n 0, 1) := by decide +kernel
theorem dX6_grudge_1 : decode cX6_grudge 1 = .ok (.iload_n 1, 1) := by decide +kernel
theorem dX6_grudge_2 : decode cX6_grudge 2 = .ok (.invokevirtual 168, 3) := by decide +kernel
theorem dX6_grudge_5 : decode cX6_grudge 5 = .ok (.ifCond .ne 9, 3) := by decide +kernel
theorem dX6_grudge_8 : decode cX6_grudge 8 = .ok (.aload_n 0, 1) := by decide +kernel
theorem dX6_grudge_9 : decode cX6_grudge 9 = .ok (.iconst (-1), 1) := by decide +kernel
theorem dX6_grudge_10 : decode cX6_grudge 10 = .ok (.invokevirtual 52, 3) := by decide +kernel
theorem dX6_grudge_13 : decode cX6_grudge 13 = .ok (.ireturn, 1) := by decide +kernel
theorem dX6_grudge_14 : decode cX6_grudge 14 = .ok (.bipush (-9), 2) := by decide +kernel
theorem dX6_grudge_16 : decode cX6_grudge 16 = .ok (.istore_n 2, 1) := by decide +kernel
theorem dX6_grudge_17 : decode cX6_grudge 17 = .ok (.ldc 51, 2) := by decide +kernel
theorem dX6_grudge_19 : decode cX6_grudge 19 = .ok (.istore_n 3, 1) := by decide +kernel
theorem dX6_grudge_20 : decode cX6_grudge 20 = .ok (.iconst 0, 1) := by decide +kernel
theorem dX6_grudge_21 : decode cX6_grudge 21 = .ok (.istore 4, 2) := by decide +kernel
theorem dX6_grudge_23 : decode cX6_grudge 23 = .ok (.iload 4, 2) := by decide +kernel
theorem dX6_grudge_25 : decode cX6_grudge 25 = .ok (.aload_n 0, 1) := by decide +kernel
theorem dX6_grudge_26 : decode cX6_grudge 26 = .ok (.getfield 62, 3) := by decide +kernel
theorem dX6_grudge_29 : decode cX6_grudge 29 = .ok (.if_icmp .ge 77, 3) := by decide +kernel
theorem dX6_grudge_32 : decode cX6_grudge 32 = .ok (.iload 4, 2) := by decide +kernel
theorem dX6_grudge_34 : decode cX6_grudge 34 = .ok (.iload_n 1, 1) := by decide +kernel
theorem dX6_grudge_35 : decode cX6_grudge 35 = .ok (.if_icmp .ne 8, 3) := by decide +kernel
theorem dX6_grudge_38 : decode cX6_grudge 38 = .ok (.bipush (-9), 2) := by decide +kernel
theorem dX6_grudge_40 : decode cX6_grudge 40 = .ok (.goto 14, 3) := by decide +kernel
theorem dX6_grudge_43 : decode cX6_grudge 43 = .ok (.aload_n 0, 1) := by decide +kernel
theorem dX6_grudge_44 : decode cX6_grudge 44 = .ok (.aload_n 0, 1) := by decide +kernel
theorem dX6_grudge_45 : decode cX6_grudge 45 = .ok (.getfield 10, 3) := by decide +kernel
theorem dX6_grudge_48 : decode cX6_grudge 48 = .ok (.iload 4, 2) := by decide +kernel
theorem dX6_grudge_50 : decode cX6_grudge 50 = .ok (.iconst 1, 1) := by decide +kernel
theorem dX6_grudge_51 : decode cX6_grudge 51 = .ok (.invokevirtual 183, 3) := by decide +kernel
theorem dX6_grudge_54 : decode cX6_grudge 54 = .ok (.istore 5, 2) := by decide +kernel
theorem dX6_grudge_56 : decode cX6_grudge 56 = .ok (.iload 5, 2) := by decide +kernel
theorem dX6_grudge_58 : decode cX6_grudge 58 = .ok (.ifCond .lt 42, 3) := by decide +kernel
theorem dX6_grudge_61 : decode cX6_grudge 61 = .ok (.aload_n 0, 1) := by decide +kernel
theorem dX6_grudge_62 : decode cX6_grudge 62 = .ok (.aload_n 0, 1) := by decide +kernel
theorem dX6_grudge_63 : decode cX6_grudge 63 = .ok (.getfield 10, 3) := by decide +kernel
theorem dX6_grudge_66 : decode cX6_grudge 66 = .ok (.iload 5, 2) := by decide +kernel
theorem dX6_grudge_68 : decode cX6_grudge 68 = .ok (.invokestatic 186, 3) := by decide +kernel
theorem dX6_grudge_71 : decode cX6_grudge 71 = .ok (.iload_n 1, 1) := by decide +kernel
theorem dX6_grudge_72 : decode cX6_grudge 72 = .ok (.invokevirtual 98, 3) := by decide +kernel
theorem dX6_grudge_75 : decode cX6_grudge 75 = .ok (.iload_n 3, 1) := by decide +kernel
theorem dX6_grudge_76 : decode cX6_grudge 76 = .ok (.if_icmp .lt 6, 3) := by decide +kernel
theorem dX6_grudge_79 : decode cX6_grudge 79 = .ok (.goto 21, 3) := by decide +kernel
theorem dX6_grudge_82 : decode cX6_grudge 82 = .ok (.iload 4, 2) := by decide +kernel
theorem dX6_grudge_84 : decode cX6_grudge 84 = .ok (.istore_n 2, 1) := by decide +kernel
theorem dX6_grudge_85 : decode cX6_grudge 85 = .ok (.aload_n 0, 1) := by decide +kernel
theorem dX6_grudge_86 : decode cX6_grudge 86 = .ok (.aload_n 0, 1) := by decide +kernel
theorem dX6_grudge_87 : decode cX6_grudge 87 = .ok (.getfield 10, 3) := by decide +kernel
theorem dX6_grudge_90 : decode cX6_grudge 90 = .ok (.iload 5, 2) := by decide +kernel
theorem dX6_grudge_92 : decode cX6_grudge 92 = .ok (.invokestatic 186, 3) := by decide +kernel
theorem dX6_grudge_95 : decode cX6_grudge 95 = .ok (.iload_n 1, 1) := by decide +kernel
theorem dX6_grudge_96 : decode cX6_grudge 96 = .ok (.invokevirtual 98, 3) := by decide +kernel
theorem dX6_grudge_99 : decode cX6_grudge 99 = .ok (.istore_n 3, 1) := by decide +kernel
theorem dX6_grudge_100 : decode cX6_grudge 100 = .ok (.iinc 4 1, 3) := by decide +kernel
theorem dX6_grudge_103 : decode cX6_grudge 103 = .ok (.goto (-80), 3) := by decide +kernel
theorem dX6_grudge_106 : decode cX6_grudge 106 = .ok (.iload_n 2, 1) := by decide +kernel
theorem dX6_grudge_107 : decode cX6_grudge 107 = .ok (.ireturn, 1) := by decide +kernel
theorem dX6_areTwo_0 : decode cX6_areTwo 0 = .ok (.aload_n 0, 1) := by decide +kernel
theorem dX6_areTwo_1 : decode cX6_areTwo 1 = .ok (.iload_n 1, 1) := by decide +kernel
theorem dX6_areTwo_2 : decode cX6_areTwo 2 = .ok (.invokevirtual 168, 3) := by decide +kernel
theorem dX6_areTwo_5 : decode cX6_areTwo 5 = .ok (.ifCond .eq 20, 3) := by decide +kernel
theorem dX6_areTwo_8 : decode cX6_areTwo 8 = .ok (.aload_n 0, 1) := by decide +kernel
theorem dX6_areTwo_9 : decode cX6_areTwo 9 = .ok (.iload_n 2, 1) := by decide +kernel
theorem dX6_areTwo_10 : decode cX6_areTwo 10 = .ok (.invokevirtual 168, 3) := by decide +kernel
theorem dX6_areTwo_13 : decode cX6_areTwo 13 = .ok (.ifCond .eq 12, 3) := by decide +kernel
theorem dX6_areTwo_16 : decode cX6_areTwo 16 = .ok (.iload_n 1, 1) := by decide +kernel
theorem dX6_areTwo_17 : decode cX6_areTwo 17 = .ok (.iload_n 2, 1) := by decide +kernel
theorem dX6_areTwo_18 : decode cX6_areTwo 18 = .ok (.if_icmp .eq 7, 3) := by decide +kernel
theorem dX6_areTwo_21 : decode cX6_areTwo 21 = .ok (.iconst 1, 1) := by decide +kernel
theorem dX6_areTwo_22 : decode cX6_areTwo 22 = .ok (.goto 4, 3) := by decide +kernel
theorem dX6_areTwo_25 : decode cX6_areTwo 25 = .ok (.iconst 0, 1) := by decide +kernel
theorem dX6_areTwo_26 : decode cX6_areTwo 26 = .ok (.ireturn, 1) := by decide +kernel
theorem dX6_gain_0 : decode cX6_gain 0 = .ok (.aload_n 0, 1) := by decide +kernel
theorem dX6_gain_1 : decode cX6_gain 1 = .ok (.iload_n 1, 1) := by decide +kernel
theorem dX6_gain_2 : decode cX6_gain 2 = .ok (.iload_n 2, 1) := by decide +kernel
theorem dX6_gain_3 : decode cX6_gain 3 = .ok (.invokevirtual 204, 3) := by decide +kernel
theorem dX6_gain_6 : decode cX6_gain 6 = .ok (.ifCond .eq 38, 3) := by decide +kernel
theorem dX6_gain_9 : decode cX6_gain 9 = .ok (.aload_n 0, 1) := by decide +kernel
theorem dX6_gain_10 : decode cX6_gain 10 = .ok (.aload_n 0, 1) := by decide +kernel
theorem dX6_gain_11 : decode cX6_gain 11 = .ok (.getfield 10, 3) := by decide +kernel
theorem dX6_gain_14 : decode cX6_gain 14 = .ok (.aload_n 0, 1) := by decide +kernel
theorem dX6_gain_15 : decode cX6_gain 15 = .ok (.aload_n 0, 1) := by decide +kernel
theorem dX6_gain_16 : decode cX6_gain 16 = .ok (.getfield 10, 3) := by decide +kernel
theorem dX6_gain_19 : decode cX6_gain 19 = .ok (.iload_n 1, 1) := by decide +kernel
theorem dX6_gain_20 : decode cX6_gain 20 = .ok (.iconst 1, 1) := by decide +kernel
theorem dX6_gain_21 : decode cX6_gain 21 = .ok (.invokevirtual 183, 3) := by decide +kernel
theorem dX6_gain_24 : decode cX6_gain 24 = .ok (.invokestatic 186, 3) := by decide +kernel
theorem dX6_gain_27 : decode cX6_gain 27 = .ok (.iload_n 2, 1) := by decide +kernel
theorem dX6_gain_28 : decode cX6_gain 28 = .ok (.invokevirtual 98, 3) := by decide +kernel
theorem dX6_gain_31 : decode cX6_gain 31 = .ok (.aload_n 0, 1) := by decide +kernel
theorem dX6_gain_32 : decode cX6_gain 32 = .ok (.aload_n 0, 1) := by decide +kernel
theorem dX6_gain_33 : decode cX6_gain 33 = .ok (.getfield 10, 3) := by decide +kernel
theorem dX6_gain_36 : decode cX6_gain 36 = .ok (.iload_n 2, 1) := by decide +kernel
theorem dX6_gain_37 : decode cX6_gain 37 = .ok (.invokevirtual 98, 3) := by decide +kernel
theorem dX6_gain_40 : decode cX6_gain 40 = .ok (.isub, 1) := by decide +kernel
theorem dX6_gain_41 : decode cX6_gain 41 = .ok (.goto 8, 3) := by decide +kernel
theorem dX6_gain_44 : decode cX6_gain 44 = .ok (.aload_n 0, 1) := by decide +kernel
theorem dX6_gain_45 : decode cX6_gain 45 = .ok (.iconst (-1), 1) := by decide +kernel
theorem dX6_gain_46 : decode cX6_gain 46 = .ok (.invokevirtual 207, 3) := by decide +kernel
theorem dX6_gain_49 : decode cX6_gain 49 = .ok (.ireturn, 1) := by decide +kernel
theorem dX6_join_0 : decode cX6_join 0 = .ok (.iload_n 1, 1) := by decide +kernel
theorem dX6_join_1 : decode cX6_join 1 = .ok (.invokestatic 130, 3) := by decide +kernel
theorem dX6_join_4 : decode cX6_join 4 = .ok (.ifCond .ne 9, 3) := by decide +kernel
theorem dX6_join_7 : decode cX6_join 7 = .ok (.aload_n 0, 1) := by decide +kernel
theorem dX6_join_8 : decode cX6_join 8 = .ok (.iconst (-1), 1) := by decide +kernel
theorem dX6_join_9 : decode cX6_join 9 = .ok (.invokevirtual 52, 3) := by decide +kernel
theorem dX6_join_12 : decode cX6_join 12 = .ok (.ireturn, 1) := by decide +kernel
theorem dX6_join_13 : decode cX6_join 13 = .ok (.aload_n 0, 1) := by decide +kernel
theorem dX6_join_14 : decode cX6_join 14 = .ok (.getfield 10, 3) := by decide +kernel
theorem dX6_join_17 : decode cX6_join 17 = .ok (.iload_n 1, 1) := by decide +kernel
theorem dX6_join_18 : decode cX6_join 18 = .ok (.invokestatic 72, 3) := by decide +kernel
theorem dX6_join_21 : decode cX6_join 21 = .ok (.ifCond .eq 12, 3) := by decide +kernel
theorem dX6_join_24 : decode cX6_join 24 = .ok (.aload_n 0, 1) := by decide +kernel
theorem dX6_join_25 : decode cX6_join 25 = .ok (.bipush (-3), 2) := by decide +kernel
theorem dX6_join_27 : decode cX6_join 27 = .ok (.invokevirtual 52, 3) := by decide +kernel
theorem dX6_join_30 : decode cX6_join 30 = .ok (.goto 14, 3) := by decide +kernel
theorem dX6_join_33 : decode cX6_join 33 = .ok (.aload_n 0, 1) := by decide +kernel
theorem dX6_join_34 : decode cX6_join 34 = .ok (.getfield 10, 3) := by decide +kernel
theorem dX6_join_37 : decode cX6_join 37 = .ok (.iconst 1, 1) := by decide +kernel
theorem dX6_join_38 : decode cX6_join 38 = .ok (.iload_n 1, 1) := by decide +kernel
theorem dX6_join_39 : decode cX6_join 39 = .ok (.ishl, 1) := by decide +kernel
theorem dX6_join_40 : decode cX6_join 40 = .ok (.ior, 1) := by decide +kernel
theorem dX6_join_41 : decode cX6_join 41 = .ok (.invokestatic 91, 3) := by decide +kernel
theorem dX6_join_44 : decode cX6_join 44 = .ok (.ireturn, 1) := by decide +kernel
theorem dX6_stepsFrom_0 : decode cX6_stepsFrom 0 = .ok (.iconst 0, 1) := by decide +kernel
theorem dX6_stepsFrom_1 : decode cX6_stepsFrom 1 = .ok (.istore_n 2, 1) := by decide +kernel
theorem dX6_stepsFrom_2 : decode cX6_stepsFrom 2 = .ok (.iconst 0, 1) := by decide +kernel
theorem dX6_stepsFrom_3 : decode cX6_stepsFrom 3 = .ok (.istore_n 3, 1) := by decide +kernel
theorem dX6_stepsFrom_4 : decode cX6_stepsFrom 4 = .ok (.iload_n 3, 1) := by decide +kernel
theorem dX6_stepsFrom_5 : decode cX6_stepsFrom 5 = .ok (.bipush 25, 2) := by decide +kernel
theorem dX6_stepsFrom_7 : decode cX6_stepsFrom 7 = .ok (.if_icmp .ge 62, 3) := by decide +kernel
theorem dX6_stepsFrom_10 : decode cX6_stepsFrom 10 = .ok (.iload_n 3, 1) := by decide +kernel
theorem dX6_stepsFrom_11 : decode cX6_stepsFrom 11 = .ok (.iconst 5, 1) := by decide +kernel
theorem dX6_stepsFrom_12 : decode cX6_stepsFrom 12 = .ok (.idiv, 1) := by decide +kernel
theorem dX6_stepsFrom_13 : decode cX6_stepsFrom 13 = .ok (.iload_n 1, 1) := by decide +kernel
theorem dX6_stepsFrom_14 : decode cX6_stepsFrom 14 = .ok (.iconst 5, 1) := by decide +kernel
theorem dX6_stepsFrom_15 : decode cX6_stepsFrom 15 = .ok (.idiv, 1) := by decide +kernel
theorem dX6_stepsFrom_16 : decode cX6_stepsFrom 16 = .ok (.isub, 1) := by decide +kernel
theorem dX6_stepsFrom_17 : decode cX6_stepsFrom 17 = .ok (.istore 4, 2) := by decide +kernel
theorem dX6_stepsFrom_19 : decode cX6_stepsFrom 19 = .ok (.iload_n 3, 1) := by decide +kernel
theorem dX6_stepsFrom_20 : decode cX6_stepsFrom 20 = .ok (.iconst 5, 1) := by decide +kernel
theorem dX6_stepsFrom_21 : decode cX6_stepsFrom 21 = .ok (.irem, 1) := by decide +kernel
theorem dX6_stepsFrom_22 : decode cX6_stepsFrom 22 = .ok (.iload_n 1, 1) := by decide +kernel
theorem dX6_stepsFrom_23 : decode cX6_stepsFrom 23 = .ok (.iconst 5, 1) := by decide +kernel
theorem dX6_stepsFrom_24 : decode cX6_stepsFrom 24 = .ok (.irem, 1) := by decide +kernel
theorem dX6_stepsFrom_25 : decode cX6_stepsFrom 25 = .ok (.isub, 1) := by decide +kernel
theorem dX6_stepsFrom_26 : decode cX6_stepsFrom 26 = .ok (.istore 5, 2) := by decide +kernel
theorem dX6_stepsFrom_28 : decode cX6_stepsFrom 28 = .ok (.iload_n 2, 1) := by decide +kernel
theorem dX6_stepsFrom_29 : decode cX6_stepsFrom 29 = .ok (.aload_n 0, 1) := by decide +kernel
theorem dX6_stepsFrom_30 : decode cX6_stepsFrom 30 = .ok (.getfield 10, 3) := by decide +kernel
theorem dX6_stepsFrom_33 : decode cX6_stepsFrom 33 = .ok (.iload_n 3, 1) := by decide +kernel
theorem dX6_stepsFrom_34 : decode cX6_stepsFrom 34 = .ok (.invokestatic 72, 3) := by decide +kernel
theorem dX6_stepsFrom_37 : decode cX6_stepsFrom 37 = .ok (.ifCond .eq 23, 3) := by decide +kernel
theorem dX6_stepsFrom_40 : decode cX6_stepsFrom 40 = .ok (.iload 4, 2) := by decide +kernel
theorem dX6_stepsFrom_42 : decode cX6_stepsFrom 42 = .ok (.iload 4, 2) := by decide +kernel
theorem dX6_stepsFrom_44 : decode cX6_stepsFrom 44 = .ok (.ineg, 1) := by decide +kernel
theorem dX6_stepsFrom_45 : decode cX6_stepsFrom 45 = .ok (.invokestatic 88, 3) := by decide +kernel
theorem dX6_stepsFrom_48 : decode cX6_stepsFrom 48 = .ok (.iload 5, 2) := by decide +kernel
theorem dX6_stepsFrom_50 : decode cX6_stepsFrom 50 = .ok (.iload 5, 2) := by decide +kernel
theorem dX6_stepsFrom_52 : decode cX6_stepsFrom 52 = .ok (.ineg, 1) := by decide +kernel
theorem dX6_stepsFrom_53 : decode cX6_stepsFrom 53 = .ok (.invokestatic 88, 3) := by decide +kernel
theorem dX6_stepsFrom_56 : decode cX6_stepsFrom 56 = .ok (.iadd, 1) := by decide +kernel
theorem dX6_stepsFrom_57 : decode cX6_stepsFrom 57 = .ok (.goto 4, 3) := by decide +kernel
theorem dX6_stepsFrom_60 : decode cX6_stepsFrom 60 = .ok (.iconst 0, 1) := by decide +kernel
theorem dX6_stepsFrom_61 : decode cX6_stepsFrom 61 = .ok (.iadd, 1) := by decide +kernel
theorem dX6_stepsFrom_62 : decode cX6_stepsFrom 62 = .ok (.istore_n 2, 1) := by decide +kernel
theorem dX6_stepsFrom_63 : decode cX6_stepsFrom 63 = .ok (.iinc 3 1, 3) := by decide +kernel
theorem dX6_stepsFrom_66 : decode cX6_stepsFrom 66 = .ok (.goto (-62), 3) := by decide +kernel
theorem dX6_stepsFrom_69 : decode cX6_stepsFrom 69 = .ok (.iload_n 2, 1) := by decide +kernel
theorem dX6_stepsFrom_70 : decode cX6_stepsFrom 70 = .ok (.ireturn, 1) := by decide +kernel
theorem dX6_bridge_0 : decode cX6_bridge 0 = .ok (.iload_n 1, 1) := by decide +kernel
theorem dX6_bridge_1 : decode cX6_bridge 1 = .ok (.iconst 0, 1) := by decide +kernel
theorem dX6_bridge_2 : decode cX6_bridge 2 = .ok (.iconst 2, 1) := by decide +kernel
theorem dX6_bridge_3 : decode cX6_bridge 3 = .ok (.invokestatic 58, 3) := by decide +kernel
theorem dX6_bridge_6 : decode cX6_bridge 6 = .ok (.ifCond .ne 10, 3) := by decide +kernel
theorem dX6_bridge_9 : decode cX6_bridge 9 = .ok (.aload_n 0, 1) := by decide +kernel
theorem dX6_bridge_10 : decode cX6_bridge 10 = .ok (.bipush (-2), 2) := by decide +kernel
theorem dX6_bridge_12 : decode cX6_bridge 12 = .ok (.invokevirtual 52, 3) := by decide +kernel
theorem dX6_bridge_15 : decode cX6_bridge 15 = .ok (.ireturn, 1) := by decide +kernel
theorem dX6_bridge_16 : decode cX6_bridge 16 = .ok (.iconst 0, 1) := by decide +kernel
theorem dX6_bridge_17 : decode cX6_bridge 17 = .ok (.istore_n 2, 1) := by decide +kernel
theorem dX6_bridge_18 : decode cX6_bridge 18 = .ok (.bipush (-9), 2) := by decide +kernel
theorem dX6_bridge_20 : decode cX6_bridge 20 = .ok (.istore_n 3, 1) := by decide +kernel
theorem dX6_bridge_21 : decode cX6_bridge 21 = .ok (.bipush (-9), 2) := by decide +kernel
theorem dX6_bridge_23 : decode cX6_bridge 23 = .ok (.istore 4, 2) := by decide +kernel
theorem dX6_bridge_25 : decode cX6_bridge 25 = .ok (.bipush 24, 2) := by decide +kernel
theorem dX6_bridge_27 : decode cX6_bridge 27 = .ok (.istore 5, 2) := by decide +kernel
theorem dX6_bridge_29 : decode cX6_bridge 29 = .ok (.iload 5, 2) := by decide +kernel
theorem dX6_bridge_31 : decode cX6_bridge 31 = .ok (.ifCond .lt 109, 3) := by decide +kernel
theorem dX6_bridge_34 : decode cX6_bridge 34 = .ok (.aload_n 0, 1) := by decide +kernel
theorem dX6_bridge_35 : decode cX6_bridge 35 = .ok (.getfield 10, 3) := by decide +kernel
theorem dX6_bridge_38 : decode cX6_bridge 38 = .ok (.iload 5, 2) := by decide +kernel
theorem dX6_bridge_40 : decode cX6_bridge 40 = .ok (.invokestatic 72, 3) := by decide +kernel
theorem dX6_bridge_43 : decode cX6_bridge 43 = .ok (.ifCond .ne 6, 3) := by decide +kernel
theorem dX6_bridge_46 : decode cX6_bridge 46 = .ok (.goto 88, 3) := by decide +kernel
theorem dX6_bridge_49 : decode cX6_bridge 49 = .ok (.aload_n 0, 1) := by decide +kernel
theorem dX6_bridge_50 : decode cX6_bridge 50 = .ok (.getfield 10, 3) := by decide +kernel
theorem dX6_bridge_53 : decode cX6_bridge 53 = .ok (.iconst 1, 1) := by decide +kernel
theorem dX6_bridge_54 : decode cX6_bridge 54 = .ok (.iload 5, 2) := by decide +kernel
theorem dX6_bridge_56 : decode cX6_bridge 56 = .ok (.ishl, 1) := by decide +kernel
theorem dX6_bridge_57 : decode cX6_bridge 57 = .ok (.iconst (-1), 1) := by decide +kernel
theorem dX6_bridge_58 : decode cX6_bridge 58 = .ok (.ixor, 1) := by decide +kernel
theorem dX6_bridge_59 : decode cX6_bridge 59 = .ok (.iand, 1) := by decide +kernel
theorem dX6_bridge_60 : decode cX6_bridge 60 = .ok (.invokestatic 91, 3) := by decide +kernel
theorem dX6_bridge_63 : decode cX6_bridge 63 = .ok (.aload_n 0, 1) := by decide +kernel
theorem dX6_bridge_64 : decode cX6_bridge 64 = .ok (.getfield 10, 3) := by decide +kernel
theorem dX6_bridge_67 : decode cX6_bridge 67 = .ok (.invokestatic 91, 3) := by decide +kernel
theorem dX6_bridge_70 : decode cX6_bridge 70 = .ok (.if_icmp .le 7, 3) := by decide +kernel
theorem dX6_bridge_73 : decode cX6_bridge 73 = .ok (.iconst 1, 1) := by decide +kernel
theorem dX6_bridge_74 : decode cX6_bridge 74 = .ok (.goto 4, 3) := by decide +kernel
theorem dX6_bridge_77 : decode cX6_bridge 77 = .ok (.iconst 0, 1) := by decide +kernel
theorem dX6_bridge_78 : decode cX6_bridge 78 = .ok (.istore 6, 2) := by decide +kernel
theorem dX6_bridge_80 : decode cX6_bridge 80 = .ok (.iload_n 2, 1) := by decide +kernel
theorem dX6_bridge_81 : decode cX6_bridge 81 = .ok (.iload 6, 2) := by decide +kernel
theorem dX6_bridge_83 : decode cX6_bridge 83 = .ok (.ifCond .eq 7, 3) := by decide +kernel
theorem dX6_bridge_86 : decode cX6_bridge 86 = .ok (.iconst 1, 1) := by decide +kernel
theorem dX6_bridge_87 : decode cX6_bridge 87 = .ok (.goto 4, 3) := by decide +kernel
theorem dX6_bridge_90 : decode cX6_bridge 90 = .ok (.iconst 0, 1) := by decide +kernel
theorem dX6_bridge_91 : decode cX6_bridge 91 = .ok (.iadd, 1) := by decide +kernel
theorem dX6_bridge_92 : decode cX6_bridge 92 = .ok (.istore_n 2, 1) := by decide +kernel
theorem dX6_bridge_93 : decode cX6_bridge 93 = .ok (.iload 6, 2) := by decide +kernel
theorem dX6_bridge_95 : decode cX6_bridge 95 = .ok (.ifCond .eq 8, 3) := by decide +kernel
theorem dX6_bridge_98 : decode cX6_bridge 98 = .ok (.iload 5, 2) := by decide +kernel
theorem dX6_bridge_100 : decode cX6_bridge 100 = .ok (.goto 4, 3) := by decide +kernel
theorem dX6_bridge_103 : decode cX6_bridge 103 = .ok (.iload_n 3, 1) := by decide +kernel
theorem dX6_bridge_104 : decode cX6_bridge 104 = .ok (.istore_n 3, 1) := by decide +kernel
theorem dX6_bridge_105 : decode cX6_bridge 105 = .ok (.iload 4, 2) := by decide +kernel
theorem dX6_bridge_107 : decode cX6_bridge 107 = .ok (.ifCond .lt 18, 3) := by decide +kernel
theorem dX6_bridge_110 : decode cX6_bridge 110 = .ok (.aload_n 0, 1) := by decide +kernel
theorem dX6_bridge_111 : decode cX6_bridge 111 = .ok (.iload 5, 2) := by decide +kernel
theorem dX6_bridge_113 : decode cX6_bridge 113 = .ok (.invokevirtual 210, 3) := by decide +kernel
theorem dX6_bridge_116 : decode cX6_bridge 116 = .ok (.aload_n 0, 1) := by decide +kernel
theorem dX6_bridge_117 : decode cX6_bridge 117 = .ok (.iload 4, 2) := by decide +kernel
theorem dX6_bridge_119 : decode cX6_bridge 119 = .ok (.invokevirtual 210, 3) := by decide +kernel
theorem dX6_bridge_122 : decode cX6_bridge 122 = .ok (.if_icmp .gt 8, 3) := by decide +kernel
theorem dX6_bridge_125 : decode cX6_bridge 125 = .ok (.iload 5, 2) := by decide +kernel
theorem dX6_bridge_127 : decode cX6_bridge 127 = .ok (.goto 5, 3) := by decide +kernel
theorem dX6_bridge_130 : decode cX6_bridge 130 = .ok (.iload 4, 2) := by decide +kernel
theorem dX6_bridge_132 : decode cX6_bridge 132 = .ok (.istore 4, 2) := by decide +kernel
theorem dX6_bridge_134 : decode cX6_bridge 134 = .ok (.iinc 5 (-1), 3) := by decide +kernel
theorem dX6_bridge_137 : decode cX6_bridge 137 = .ok (.goto (-108), 3) := by decide +kernel
theorem dX6_bridge_140 : decode cX6_bridge 140 = .ok (.iload_n 1, 1) := by decide +kernel
theorem dX6_bridge_141 : decode cX6_bridge 141 = .ok (.ifCond .ne 7, 3) := by decide +kernel
theorem dX6_bridge_144 : decode cX6_bridge 144 = .ok (.iload_n 2, 1) := by decide +kernel
theorem dX6_bridge_145 : decode cX6_bridge 145 = .ok (.goto 14, 3) := by decide +kernel
theorem dX6_bridge_148 : decode cX6_bridge 148 = .ok (.iload_n 1, 1) := by decide +kernel
theorem dX6_bridge_149 : decode cX6_bridge 149 = .ok (.iconst 1, 1) := by decide +kernel
theorem dX6_bridge_150 : decode cX6_bridge 150 = .ok (.if_icmp .ne 7, 3) := by decide +kernel
theorem dX6_bridge_153 : decode cX6_bridge 153 = .ok (.iload_n 3, 1) := by decide +kernel
theorem dX6_bridge_154 : decode cX6_bridge 154 = .ok (.goto 5, 3) := by decide +kernel
theorem dX6_bridge_157 : decode cX6_bridge 157 = .ok (.iload 4, 2) := by decide +kernel
theorem dX6_bridge_159 : decode cX6_bridge 159 = .ok (.ireturn, 1) := by decide +kernel
theorem dX6_firstBite_0 : decode cX6_firstBite 0 = .ok (.iconst 0, 1) := by decide +kernel
theorem dX6_firstBite_1 : decode cX6_firstBite 1 = .ok (.istore_n 2, 1) := by decide +kernel
theorem dX6_firstBite_2 : decode cX6_firstBite 2 = .ok (.iload_n 2, 1) := by decide +kernel
theorem dX6_firstBite_3 : decode cX6_firstBite 3 = .ok (.iconst 4, 1) := by decide +kernel
theorem dX6_firstBite_4 : decode cX6_firstBite 4 = .ok (.if_icmp .ge 39, 3) := by decide +kernel
theorem dX6_firstBite_7 : decode cX6_firstBite 7 = .ok (.iconst 0, 1) := by decide +kernel
theorem dX6_firstBite_8 : decode cX6_firstBite 8 = .ok (.istore_n 3, 1) := by decide +kernel
theorem dX6_firstBite_9 : decode cX6_firstBite 9 = .ok (.iload_n 3, 1) := by decide +kernel
theorem dX6_firstBite_10 : decode cX6_firstBite 10 = .ok (.bipush 25, 2) := by decide +kernel
theorem dX6_firstBite_12 : decode cX6_firstBite 12 = .ok (.if_icmp .ge 25, 3) := by decide +kernel
theorem dX6_firstBite_15 : decode cX6_firstBite 15 = .ok (.iload_n 1, 1) := by decide +kernel
theorem dX6_firstBite_16 : decode cX6_firstBite 16 = .ok (.iload_n 2, 1) := by decide +kernel
theorem dX6_firstBite_17 : decode cX6_firstBite 17 = .ok (.iload_n 3, 1) := by decide +kernel
theorem dX6_firstBite_18 : decode cX6_firstBite 18 = .ok (.invokestatic 134, 3) := by decide +kernel
theorem dX6_firstBite_21 : decode cX6_firstBite 21 = .ok (.ifCond .eq 10, 3) := by decide +kernel
theorem dX6_firstBite_24 : decode cX6_firstBite 24 = .ok (.bipush 100, 2) := by decide +kernel
theorem dX6_firstBite_26 : decode cX6_firstBite 26 = .ok (.iload_n 2, 1) := by decide +kernel
theorem dX6_firstBite_27 : decode cX6_firstBite 27 = .ok (.imul, 1) := by decide +kernel
theorem dX6_firstBite_28 : decode cX6_firstBite 28 = .ok (.iload_n 3, 1) := by decide +kernel
theorem dX6_firstBite_29 : decode cX6_firstBite 29 = .ok (.iadd, 1) := by decide +kernel
theorem dX6_firstBite_30 : decode cX6_firstBite 30 = .ok (.ireturn, 1) := by decide +kernel
theorem dX6_firstBite_31 : decode cX6_firstBite 31 = .ok (.iinc 3 1, 3) := by decide +kernel
theorem dX6_firstBite_34 : decode cX6_firstBite 34 = .ok (.goto (-25), 3) := by decide +kernel
theorem dX6_firstBite_37 : decode cX6_firstBite 37 = .ok (.iinc 2 1, 3) := by decide +kernel
theorem dX6_firstBite_40 : decode cX6_firstBite 40 = .ok (.goto (-38), 3) := by decide +kernel
theorem dX6_firstBite_43 : decode cX6_firstBite 43 = .ok (.bipush (-9), 2) := by decide +kernel
theorem dX6_firstBite_45 : decode cX6_firstBite 45 = .ok (.ireturn, 1) := by decide +kernel
theorem dX6_shareBoth_0 : decode cX6_shareBoth 0 = .ok (.aload_n 0, 1) := by decide +kernel
theorem dX6_shareBoth_1 : decode cX6_shareBoth 1 = .ok (.getfield 10, 3) := by decide +kernel
theorem dX6_shareBoth_4 : decode cX6_shareBoth 4 = .ok (.iload_n 3, 1) := by decide +kernel
theorem dX6_shareBoth_5 : decode cX6_shareBoth 5 = .ok (.ifCond .ne 16, 3) := by decide +kernel
theorem dX6_shareBoth_8 : decode cX6_shareBoth 8 = .ok (.aload_n 0, 1) := by decide +kernel
theorem dX6_shareBoth_9 : decode cX6_shareBoth 9 = .ok (.aload_n 0, 1) := by decide +kernel
theorem dX6_shareBoth_10 : decode cX6_shareBoth 10 = .ok (.getfield 10, 3) := by decide +kernel
theorem dX6_shareBoth_13 : decode cX6_shareBoth 13 = .ok (.iload_n 2, 1) := by decide +kernel
theorem dX6_shareBoth_14 : decode cX6_shareBoth 14 = .ok (.iconst 1, 1) := by decide +kernel
theorem dX6_shareBoth_15 : decode cX6_shareBoth 15 = .ok (.invokevirtual 183, 3) := by decide +kernel
theorem dX6_shareBoth_18 : decode cX6_shareBoth 18 = .ok (.goto 11, 3) := by decide +kernel
theorem dX6_shareBoth_21 : decode cX6_shareBoth 21 = .ok (.aload_n 0, 1) := by decide +kernel
theorem dX6_shareBoth_22 : decode cX6_shareBoth 22 = .ok (.aload_n 0, 1) := by decide +kernel
theorem dX6_shareBoth_23 : decode cX6_shareBoth 23 = .ok (.getfield 10, 3) := by decide +kernel
theorem dX6_shareBoth_26 : decode cX6_shareBoth 26 = .ok (.invokevirtual 213, 3) := by decide +kernel
theorem dX6_shareBoth_29 : decode cX6_shareBoth 29 = .ok (.invokestatic 186, 3) := by decide +kernel
theorem dX6_shareBoth_32 : decode cX6_shareBoth 32 = .ok (.istore 6, 2) := by decide +kernel
theorem dX6_shareBoth_34 : decode cX6_shareBoth 34 = .ok (.aload_n 0, 1) := by decide +kernel
theorem dX6_shareBoth_35 : decode cX6_shareBoth 35 = .ok (.iload 6, 2) := by decide +kernel
theorem dX6_shareBoth_37 : decode cX6_shareBoth 37 = .ok (.iload 5, 2) := by decide +kernel
theorem dX6_shareBoth_39 : decode cX6_shareBoth 39 = .ok (.ifCond .ne 15, 3) := by decide +kernel
theorem dX6_shareBoth_42 : decode cX6_shareBoth 42 = .ok (.aload_n 0, 1) := by decide +kernel
theorem dX6_shareBoth_43 : decode cX6_shareBoth 43 = .ok (.iload 6, 2) := by decide +kernel
theorem dX6_shareBoth_45 : decode cX6_shareBoth 45 = .ok (.iload 4, 2) := by decide +kernel
theorem dX6_shareBoth_47 : decode cX6_shareBoth 47 = .ok (.iconst 1, 1) := by decide +kernel
theorem dX6_shareBoth_48 : decode cX6_shareBoth 48 = .ok (.invokevirtual 183, 3) := by decide +kernel
theorem dX6_shareBoth_51 : decode cX6_shareBoth 51 = .ok (.goto 9, 3) := by decide +kernel
theorem dX6_shareBoth_54 : decode cX6_shareBoth 54 = .ok (.aload_n 0, 1) := by decide +kernel
theorem dX6_shareBoth_55 : decode cX6_shareBoth 55 = .ok (.iload 6, 2) := by decide +kernel
theorem dX6_shareBoth_57 : decode cX6_shareBoth 57 = .ok (.invokevirtual 213, 3) := by decide +kernel
theorem dX6_shareBoth_60 : decode cX6_shareBoth 60 = .ok (.invokestatic 186, 3) := by decide +kernel
theorem dX6_shareBoth_63 : decode cX6_shareBoth 63 = .ok (.iload_n 1, 1) := by decide +kernel
theorem dX6_shareBoth_64 : decode cX6_shareBoth 64 = .ok (.invokevirtual 98, 3) := by decide +kernel
theorem dX6_shareBoth_67 : decode cX6_shareBoth 67 = .ok (.ireturn, 1) := by decide +kernel
theorem dX6_two_0 : decode cX6_two 0 = .ok (.aload_n 0, 1) := by decide +kernel
theorem dX6_two_1 : decode cX6_two 1 = .ok (.iload_n 1, 1) := by decide +kernel
theorem dX6_two_2 : decode cX6_two 2 = .ok (.iload_n 2, 1) := by decide +kernel
theorem dX6_two_3 : decode cX6_two 3 = .ok (.invokevirtual 204, 3) := by decide +kernel
theorem dX6_two_6 : decode cX6_two 6 = .ok (.ifCond .ne 9, 3) := by decide +kernel
theorem dX6_two_9 : decode cX6_two 9 = .ok (.aload_n 0, 1) := by decide +kernel
theorem dX6_two_10 : decode cX6_two 10 = .ok (.iconst (-1), 1) := by decide +kernel
theorem dX6_two_11 : decode cX6_two 11 = .ok (.invokevirtual 52, 3) := by decide +kernel
theorem dX6_two_14 : decode cX6_two 14 = .ok (.ireturn, 1) := by decide +kernel
theorem dX6_two_15 : decode cX6_two 15 = .ok (.iconst 0, 1) := by decide +kernel
theorem dX6_two_16 : decode cX6_two 16 = .ok (.istore_n 3, 1) := by decide +kernel
theorem dX6_two_17 : decode cX6_two 17 = .ok (.iload_n 3, 1) := by decide +kernel
theorem dX6_two_18 : decode cX6_two 18 = .ok (.iconst 4, 1) := by decide +kernel
theorem dX6_two_19 : decode cX6_two 19 = .ok (.if_icmp .ge 82, 3) := by decide +kernel
theorem dX6_two_22 : decode cX6_two 22 = .ok (.iload_n 3, 1) := by decide +kernel
theorem dX6_two_23 : decode cX6_two 23 = .ok (.iconst 2, 1) := by decide +kernel
theorem dX6_two_24 : decode cX6_two 24 = .ok (.idiv, 1) := by decide +kernel
theorem dX6_two_25 : decode cX6_two 25 = .ok (.istore 4, 2) := by decide +kernel
theorem dX6_two_27 : decode cX6_two 27 = .ok (.iload_n 3, 1) := by decide +kernel
theorem dX6_two_28 : decode cX6_two 28 = .ok (.iconst 2, 1) := by decide +kernel
theorem dX6_two_29 : decode cX6_two 29 = .ok (.irem, 1) := by decide +kernel
theorem dX6_two_30 : decode cX6_two 30 = .ok (.istore 5, 2) := by decide +kernel
theorem dX6_two_32 : decode cX6_two 32 = .ok (.aload_n 0, 1) := by decide +kernel
theorem dX6_two_33 : decode cX6_two 33 = .ok (.iload_n 1, 1) := by decide +kernel
theorem dX6_two_34 : decode cX6_two 34 = .ok (.iload_n 1, 1) := by decide +kernel
theorem dX6_two_35 : decode cX6_two 35 = .ok (.iconst 1, 1) := by decide +kernel
theorem dX6_two_36 : decode cX6_two 36 = .ok (.iload 4, 2) := by decide +kernel
theorem dX6_two_38 : decode cX6_two 38 = .ok (.isub, 1) := by decide +kernel
theorem dX6_two_39 : decode cX6_two 39 = .ok (.iload_n 2, 1) := by decide +kernel
theorem dX6_two_40 : decode cX6_two 40 = .ok (.iload 5, 2) := by decide +kernel
theorem dX6_two_42 : decode cX6_two 42 = .ok (.invokevirtual 216, 3) := by decide +kernel
theorem dX6_two_45 : decode cX6_two 45 = .ok (.aload_n 0, 1) := by decide +kernel
theorem dX6_two_46 : decode cX6_two 46 = .ok (.iload_n 1, 1) := by decide +kernel
theorem dX6_two_47 : decode cX6_two 47 = .ok (.iload_n 1, 1) := by decide +kernel
theorem dX6_two_48 : decode cX6_two 48 = .ok (.iload 4, 2) := by decide +kernel
theorem dX6_two_50 : decode cX6_two 50 = .ok (.iload_n 2, 1) := by decide +kernel
theorem dX6_two_51 : decode cX6_two 51 = .ok (.iload 5, 2) := by decide +kernel
theorem dX6_two_53 : decode cX6_two 53 = .ok (.invokevirtual 216, 3) := by decide +kernel
theorem dX6_two_56 : decode cX6_two 56 = .ok (.if_icmp .gt 39, 3) := by decide +kernel
theorem dX6_two_59 : decode cX6_two 59 = .ok (.aload_n 0, 1) := by decide +kernel
theorem dX6_two_60 : decode cX6_two 60 = .ok (.iload_n 2, 1) := by decide +kernel
theorem dX6_two_61 : decode cX6_two 61 = .ok (.iload_n 1, 1) := by decide +kernel
theorem dX6_two_62 : decode cX6_two 62 = .ok (.iload 4, 2) := by decide +kernel
theorem dX6_two_64 : decode cX6_two 64 = .ok (.iload_n 2, 1) := by decide +kernel
theorem dX6_two_65 : decode cX6_two 65 = .ok (.iconst 1, 1) := by decide +kernel
theorem dX6_two_66 : decode cX6_two 66 = .ok (.iload 5, 2) := by decide +kernel
theorem dX6_two_68 : decode cX6_two 68 = .ok (.isub, 1) := by decide +kernel
theorem dX6_two_69 : decode cX6_two 69 = .ok (.invokevirtual 216, 3) := by decide +kernel
theorem dX6_two_72 : decode cX6_two 72 = .ok (.aload_n 0, 1) := by decide +kernel
theorem dX6_two_73 : decode cX6_two 73 = .ok (.iload_n 2, 1) := by decide +kernel
theorem dX6_two_74 : decode cX6_two 74 = .ok (.iload_n 1, 1) := by decide +kernel
theorem dX6_two_75 : decode cX6_two 75 = .ok (.iload 4, 2) := by decide +kernel
theorem dX6_two_77 : decode cX6_two 77 = .ok (.iload_n 2, 1) := by decide +kernel
theorem dX6_two_78 : decode cX6_two 78 = .ok (.iload 5, 2) := by decide +kernel
theorem dX6_two_80 : decode cX6_two 80 = .ok (.invokevirtual 216, 3) := by decide +kernel
theorem dX6_two_83 : decode cX6_two 83 = .ok (.if_icmp .gt 12, 3) := by decide +kernel
theorem dX6_two_86 : decode cX6_two 86 = .ok (.bipush 10, 2) := by decide +kernel
theorem dX6_two_88 : decode cX6_two 88 = .ok (.iload 4, 2) := by decide +kernel
theorem dX6_two_90 : decode cX6_two 90 = .ok (.imul, 1) := by decide +kernel
theorem dX6_two_91 : decode cX6_two 91 = .ok (.iload 5, 2) := by decide +kernel
theorem dX6_two_93 : decode cX6_two 93 = .ok (.iadd, 1) := by decide +kernel
theorem dX6_two_94 : decode cX6_two 94 = .ok (.ireturn, 1) := by decide +kernel
theorem dX6_two_95 : decode cX6_two 95 = .ok (.iinc 3 1, 3) := by decide +kernel
theorem dX6_two_98 : decode cX6_two 98 = .ok (.goto (-81), 3) := by decide +kernel
theorem dX6_two_101 : decode cX6_two 101 = .ok (.bipush (-9), 2) := by decide +kernel
theorem dX6_two_103 : decode cX6_two 103 = .ok (.ireturn, 1) := by decide +kernel
theorem dX6_gcd_0 : decode cX6_gcd 0 = .ok (.lload_n 0, 1) := by decide +kernel
theorem dX6_gcd_1 : decode cX6_gcd 1 = .ok (.lstore 4, 2) := by decide +kernel
theorem dX6_gcd_3 : decode cX6_gcd 3 = .ok (.lload_n 2, 1) := by decide +kernel
theorem dX6_gcd_4 : decode cX6_gcd 4 = .ok (.lstore 6, 2) := by decide +kernel
theorem dX6_gcd_6 : decode cX6_gcd 6 = .ok (.lload 6, 2) := by decide +kernel
theorem dX6_gcd_8 : decode cX6_gcd 8 = .ok (.lconst 0, 1) := by decide +kernel
theorem dX6_gcd_9 : decode cX6_gcd 9 = .ok (.lcmp, 1) := by decide +kernel
theorem dX6_gcd_10 : decode cX6_gcd 10 = .ok (.ifCond .eq 21, 3) := by decide +kernel
theorem dX6_gcd_13 : decode cX6_gcd 13 = .ok (.lload 4, 2) := by decide +kernel
theorem dX6_gcd_15 : decode cX6_gcd 15 = .ok (.lload 6, 2) := by decide +kernel
theorem dX6_gcd_17 : decode cX6_gcd 17 = .ok (.lrem, 1) := by decide +kernel
theorem dX6_gcd_18 : decode cX6_gcd 18 = .ok (.lstore 8, 2) := by decide +kernel
theorem dX6_gcd_20 : decode cX6_gcd 20 = .ok (.lload 6, 2) := by decide +kernel
theorem dX6_gcd_22 : decode cX6_gcd 22 = .ok (.lstore 4, 2) := by decide +kernel
theorem dX6_gcd_24 : decode cX6_gcd 24 = .ok (.lload 8, 2) := by decide +kernel
theorem dX6_gcd_26 : decode cX6_gcd 26 = .ok (.lstore 6, 2) := by decide +kernel
theorem dX6_gcd_28 : decode cX6_gcd 28 = .ok (.goto (-22), 3) := by decide +kernel
theorem dX6_gcd_31 : decode cX6_gcd 31 = .ok (.lload 4, 2) := by decide +kernel
theorem dX6_gcd_33 : decode cX6_gcd 33 = .ok (.lreturn, 1) := by decide +kernel
theorem dX6_partOf_0 : decode cX6_partOf 0 = .ok (.lload_n 0, 1) := by decide +kernel
theorem dX6_partOf_1 : decode cX6_partOf 1 = .ok (.lconst 0, 1) := by decide +kernel
theorem dX6_partOf_2 : decode cX6_partOf 2 = .ok (.lcmp, 1) := by decide +kernel
theorem dX6_partOf_3 : decode cX6_partOf 3 = .ok (.ifCond .ne 7, 3) := by decide +kernel
theorem dX6_partOf_6 : decode cX6_partOf 6 = .ok (.iload 4, 2) := by decide +kernel
theorem dX6_partOf_8 : decode cX6_partOf 8 = .ok (.i2l, 1) := by decide +kernel
theorem dX6_partOf_9 : decode cX6_partOf 9 = .ok (.lreturn, 1) := by decide +kernel
theorem dX6_partOf_10 : decode cX6_partOf 10 = .ok (.iload 4, 2) := by decide +kernel
theorem dX6_partOf_12 : decode cX6_partOf 12 = .ok (.ifCond .ne 7, 3) := by decide +kernel
theorem dX6_partOf_15 : decode cX6_partOf 15 = .ok (.lload_n 0, 1) := by decide +kernel
theorem dX6_partOf_16 : decode cX6_partOf 16 = .ok (.goto 4, 3) := by decide +kernel
theorem dX6_partOf_19 : decode cX6_partOf 19 = .ok (.lload_n 2, 1) := by decide +kernel
theorem dX6_partOf_20 : decode cX6_partOf 20 = .ok (.lload_n 0, 1) := by decide +kernel
theorem dX6_partOf_21 : decode cX6_partOf 21 = .ok (.lload_n 2, 1) := by decide +kernel
theorem dX6_partOf_22 : decode cX6_partOf 22 = .ok (.invokestatic 220, 3) := by decide +kernel
theorem dX6_partOf_25 : decode cX6_partOf 25 = .ok (.ldiv, 1) := by decide +kernel
theorem dX6_partOf_26 : decode cX6_partOf 26 = .ok (.lreturn, 1) := by decide +kernel
theorem dX6_waysFor_0 : decode cX6_waysFor 0 = .ok (.iload 4, 2) := by decide +kernel
theorem dX6_waysFor_2 : decode cX6_waysFor 2 = .ok (.ifCond .eq 7, 3) := by decide +kernel
theorem dX6_waysFor_5 : decode cX6_waysFor 5 = .ok (.iload_n 1, 1) := by decide +kernel
theorem dX6_waysFor_6 : decode cX6_waysFor 6 = .ok (.ifCond .ne 19, 3) := by decide +kernel
theorem dX6_waysFor_9 : decode cX6_waysFor 9 = .ok (.aload_n 0, 1) := by decide +kernel
theorem dX6_waysFor_10 : decode cX6_waysFor 10 = .ok (.iload_n 1, 1) := by decide +kernel
theorem dX6_waysFor_11 : decode cX6_waysFor 11 = .ok (.iload_n 2, 1) := by decide +kernel
theorem dX6_waysFor_12 : decode cX6_waysFor 12 = .ok (.invokevirtual 98, 3) := by decide +kernel
theorem dX6_waysFor_15 : decode cX6_waysFor 15 = .ok (.iload_n 3, 1) := by decide +kernel
theorem dX6_waysFor_16 : decode cX6_waysFor 16 = .ok (.if_icmp .lt 7, 3) := by decide +kernel
theorem dX6_waysFor_19 : decode cX6_waysFor 19 = .ok (.lconst 1, 1) := by decide +kernel
theorem dX6_waysFor_20 : decode cX6_waysFor 20 = .ok (.goto 4, 3) := by decide +kernel
theorem dX6_waysFor_23 : decode cX6_waysFor 23 = .ok (.lconst 0, 1) := by decide +kernel
theorem dX6_waysFor_24 : decode cX6_waysFor 24 = .ok (.lreturn, 1) := by decide +kernel
theorem dX6_waysFor_25 : decode cX6_waysFor 25 = .ok (.lconst 0, 1) := by decide +kernel
theorem dX6_waysFor_26 : decode cX6_waysFor 26 = .ok (.lstore 5, 2) := by decide +kernel
theorem dX6_waysFor_28 : decode cX6_waysFor 28 = .ok (.iconst 0, 1) := by decide +kernel
theorem dX6_waysFor_29 : decode cX6_waysFor 29 = .ok (.istore 7, 2) := by decide +kernel
theorem dX6_waysFor_31 : decode cX6_waysFor 31 = .ok (.iload 7, 2) := by decide +kernel
theorem dX6_waysFor_33 : decode cX6_waysFor 33 = .ok (.bipush 25, 2) := by decide +kernel
theorem dX6_waysFor_35 : decode cX6_waysFor 35 = .ok (.if_icmp .ge 45, 3) := by decide +kernel
theorem dX6_waysFor_38 : decode cX6_waysFor 38 = .ok (.lload 5, 2) := by decide +kernel
theorem dX6_waysFor_40 : decode cX6_waysFor 40 = .ok (.iload_n 1, 1) := by decide +kernel
theorem dX6_waysFor_41 : decode cX6_waysFor 41 = .ok (.iload 7, 2) := by decide +kernel
theorem dX6_waysFor_43 : decode cX6_waysFor 43 = .ok (.invokestatic 72, 3) := by decide +kernel
theorem dX6_waysFor_46 : decode cX6_waysFor 46 = .ok (.ifCond .eq 24, 3) := by decide +kernel
theorem dX6_waysFor_49 : decode cX6_waysFor 49 = .ok (.aload_n 0, 1) := by decide +kernel
theorem dX6_waysFor_50 : decode cX6_waysFor 50 = .ok (.iload_n 1, 1) := by decide +kernel
theorem dX6_waysFor_51 : decode cX6_waysFor 51 = .ok (.iconst 1, 1) := by decide +kernel
theorem dX6_waysFor_52 : decode cX6_waysFor 52 = .ok (.iload 7, 2) := by decide +kernel
theorem dX6_waysFor_54 : decode cX6_waysFor 54 = .ok (.ishl, 1) := by decide +kernel
theorem dX6_waysFor_55 : decode cX6_waysFor 55 = .ok (.iconst (-1), 1) := by decide +kernel
theorem dX6_waysFor_56 : decode cX6_waysFor 56 = .ok (.ixor, 1) := by decide +kernel
theorem dX6_waysFor_57 : decode cX6_waysFor 57 = .ok (.iand, 1) := by decide +kernel
theorem dX6_waysFor_58 : decode cX6_waysFor 58 = .ok (.iload_n 2, 1) := by decide +kernel
theorem dX6_waysFor_59 : decode cX6_waysFor 59 = .ok (.iload_n 3, 1) := by decide +kernel
theorem dX6_waysFor_60 : decode cX6_waysFor 60 = .ok (.iload 4, 2) := by decide +kernel
theorem dX6_waysFor_62 : decode cX6_waysFor 62 = .ok (.iconst 1, 1) := by decide +kernel
theorem dX6_waysFor_63 : decode cX6_waysFor 63 = .ok (.isub, 1) := by decide +kernel
theorem dX6_waysFor_64 : decode cX6_waysFor 64 = .ok (.invokevirtual 224, 3) := by decide +kernel
theorem dX6_waysFor_67 : decode cX6_waysFor 67 = .ok (.goto 4, 3) := by decide +kernel
theorem dX6_waysFor_70 : decode cX6_waysFor 70 = .ok (.lconst 0, 1) := by decide +kernel
theorem dX6_waysFor_71 : decode cX6_waysFor 71 = .ok (.ladd, 1) := by decide +kernel
theorem dX6_waysFor_72 : decode cX6_waysFor 72 = .ok (.lstore 5, 2) := by decide +kernel
theorem dX6_waysFor_74 : decode cX6_waysFor 74 = .ok (.iinc 7 1, 3) := by decide +kernel
theorem dX6_waysFor_77 : decode cX6_waysFor 77 = .ok (.goto (-46), 3) := by decide +kernel
theorem dX6_waysFor_80 : decode cX6_waysFor 80 = .ok (.lload 5, 2) := by decide +kernel
theorem dX6_waysFor_82 : decode cX6_waysFor 82 = .ok (.lreturn, 1) := by decide +kernel
theorem dX6_chance_0 : decode cX6_chance 0 = .ok (.aload_n 0, 1) := by decide +kernel
theorem dX6_chance_1 : decode cX6_chance 1 = .ok (.iload_n 1, 1) := by decide +kernel
theorem dX6_chance_2 : decode cX6_chance 2 = .ok (.invokevirtual 168, 3) := by decide +kernel
theorem dX6_chance_5 : decode cX6_chance 5 = .ok (.ifCond .ne 9, 3) := by decide +kernel
theorem dX6_chance_8 : decode cX6_chance 8 = .ok (.aload_n 0, 1) := by decide +kernel
theorem dX6_chance_9 : decode cX6_chance 9 = .ok (.iconst (-1), 1) := by decide +kernel
theorem dX6_chance_10 : decode cX6_chance 10 = .ok (.invokevirtual 228, 3) := by decide +kernel
theorem dX6_chance_13 : decode cX6_chance 13 = .ok (.lreturn, 1) := by decide +kernel
theorem dX6_chance_14 : decode cX6_chance 14 = .ok (.iload_n 2, 1) := by decide +kernel
theorem dX6_chance_15 : decode cX6_chance 15 = .ok (.ifCond .lt 7, 3) := by decide +kernel
theorem dX6_chance_18 : decode cX6_chance 18 = .ok (.iload_n 3, 1) := by decide +kernel
theorem dX6_chance_19 : decode cX6_chance 19 = .ok (.ifCond .ge 10, 3) := by decide +kernel
theorem dX6_chance_22 : decode cX6_chance 22 = .ok (.aload_n 0, 1) := by decide +kernel
theorem dX6_chance_23 : decode cX6_chance 23 = .ok (.bipush (-4), 2) := by decide +kernel
theorem dX6_chance_25 : decode cX6_chance 25 = .ok (.invokevirtual 228, 3) := by decide +kernel
theorem dX6_chance_28 : decode cX6_chance 28 = .ok (.lreturn, 1) := by decide +kernel
theorem dX6_chance_29 : decode cX6_chance 29 = .ok (.iload_n 2, 1) := by decide +kernel
theorem dX6_chance_30 : decode cX6_chance 30 = .ok (.iconst 2, 1) := by decide +kernel
theorem dX6_chance_31 : decode cX6_chance 31 = .ok (.if_icmp .gt 9, 3) := by decide +kernel
theorem dX6_chance_34 : decode cX6_chance 34 = .ok (.iload_n 3, 1) := by decide +kernel
theorem dX6_chance_35 : decode cX6_chance 35 = .ok (.bipush 40, 2) := by decide +kernel
theorem dX6_chance_37 : decode cX6_chance 37 = .ok (.if_icmp .le 10, 3) := by decide +kernel
theorem dX6_chance_40 : decode cX6_chance 40 = .ok (.aload_n 0, 1) := by decide +kernel
theorem dX6_chance_41 : decode cX6_chance 41 = .ok (.bipush (-6), 2) := by decide +kernel
theorem dX6_chance_43 : decode cX6_chance 43 = .ok (.invokevirtual 228, 3) := by decide +kernel
theorem dX6_chance_46 : decode cX6_chance 46 = .ok (.lreturn, 1) := by decide +kernel
theorem dX6_chance_47 : decode cX6_chance 47 = .ok (.iload 4, 2) := by decide +kernel
theorem dX6_chance_49 : decode cX6_chance 49 = .ok (.iconst 0, 1) := by decide +kernel
theorem dX6_chance_50 : decode cX6_chance 50 = .ok (.iconst 1, 1) := by decide +kernel
theorem dX6_chance_51 : decode cX6_chance 51 = .ok (.invokestatic 58, 3) := by decide +kernel
theorem dX6_chance_54 : decode cX6_chance 54 = .ok (.ifCond .ne 10, 3) := by decide +kernel
theorem dX6_chance_57 : decode cX6_chance 57 = .ok (.aload_n 0, 1) := by decide +kernel
theorem dX6_chance_58 : decode cX6_chance 58 = .ok (.bipush (-2), 2) := by decide +kernel
theorem dX6_chance_60 : decode cX6_chance 60 = .ok (.invokevirtual 228, 3) := by decide +kernel
theorem dX6_chance_63 : decode cX6_chance 63 = .ok (.lreturn, 1) := by decide +kernel
theorem dX6_chance_64 : decode cX6_chance 64 = .ok (.lconst 1, 1) := by decide +kernel
theorem dX6_chance_65 : decode cX6_chance 65 = .ok (.lstore 5, 2) := by decide +kernel
theorem dX6_chance_67 : decode cX6_chance 67 = .ok (.iconst 0, 1) := by decide +kernel
theorem dX6_chance_68 : decode cX6_chance 68 = .ok (.istore 7, 2) := by decide +kernel
theorem dX6_chance_70 : decode cX6_chance 70 = .ok (.iload 7, 2) := by decide +kernel
theorem dX6_chance_72 : decode cX6_chance 72 = .ok (.iload_n 2, 1) := by decide +kernel
theorem dX6_chance_73 : decode cX6_chance 73 = .ok (.if_icmp .ge 37, 3) := by decide +kernel
theorem dX6_chance_76 : decode cX6_chance 76 = .ok (.aload_n 0, 1) := by decide +kernel
theorem dX6_chance_77 : decode cX6_chance 77 = .ok (.getfield 10, 3) := by decide +kernel
theorem dX6_chance_80 : decode cX6_chance 80 = .ok (.invokestatic 82, 3) := by decide +kernel
theorem dX6_chance_83 : decode cX6_chance 83 = .ok (.iload 7, 2) := by decide +kernel
theorem dX6_chance_85 : decode cX6_chance 85 = .ok (.if_icmp .le 25, 3) := by decide +kernel
theorem dX6_chance_88 : decode cX6_chance 88 = .ok (.lload 5, 2) := by decide +kernel
theorem dX6_chance_90 : decode cX6_chance 90 = .ok (.aload_n 0, 1) := by decide +kernel
theorem dX6_chance_91 : decode cX6_chance 91 = .ok (.getfield 10, 3) := by decide +kernel
theorem dX6_chance_94 : decode cX6_chance 94 = .ok (.invokestatic 82, 3) := by decide +kernel
theorem dX6_chance_97 : decode cX6_chance 97 = .ok (.iload 7, 2) := by decide +kernel
theorem dX6_chance_99 : decode cX6_chance 99 = .ok (.isub, 1) := by decide +kernel
theorem dX6_chance_100 : decode cX6_chance 100 = .ok (.i2l, 1) := by decide +kernel
theorem dX6_chance_101 : decode cX6_chance 101 = .ok (.lmul, 1) := by decide +kernel
theorem dX6_chance_102 : decode cX6_chance 102 = .ok (.lstore 5, 2) := by decide +kernel
theorem dX6_chance_104 : decode cX6_chance 104 = .ok (.iinc 7 1, 3) := by decide +kernel
theorem dX6_chance_107 : decode cX6_chance 107 = .ok (.goto (-37), 3) := by decide +kernel
theorem dX6_chance_110 : decode cX6_chance 110 = .ok (.aload_n 0, 1) := by decide +kernel
theorem dX6_chance_111 : decode cX6_chance 111 = .ok (.aload_n 0, 1) := by decide +kernel
theorem dX6_chance_112 : decode cX6_chance 112 = .ok (.getfield 10, 3) := by decide +kernel
theorem dX6_chance_115 : decode cX6_chance 115 = .ok (.iload_n 1, 1) := by decide +kernel
theorem dX6_chance_116 : decode cX6_chance 116 = .ok (.iload_n 3, 1) := by decide +kernel
theorem dX6_chance_117 : decode cX6_chance 117 = .ok (.iload_n 2, 1) := by decide +kernel
theorem dX6_chance_118 : decode cX6_chance 118 = .ok (.invokevirtual 224, 3) := by decide +kernel
theorem dX6_chance_121 : decode cX6_chance 121 = .ok (.lload 5, 2) := by decide +kernel
theorem dX6_chance_123 : decode cX6_chance 123 = .ok (.iload 4, 2) := by decide +kernel
theorem dX6_chance_125 : decode cX6_chance 125 = .ok (.invokestatic 232, 3) := by decide +kernel
theorem dX6_chance_128 : decode cX6_chance 128 = .ok (.lreturn, 1) := by decide +kernel
theorem dX6_mean_0 : decode cX6_mean 0 = .ok (.iload_n 1, 1) := by decide +kernel
theorem dX6_mean_1 : decode cX6_mean 1 = .ok (.iconst 0, 1) := by decide +kernel
theorem dX6_mean_2 : decode cX6_mean 2 = .ok (.iconst 1, 1) := by decide +kernel
theorem dX6_mean_3 : decode cX6_mean 3 = .ok (.invokestatic 58, 3) := by decide +kernel
theorem dX6_mean_6 : decode cX6_mean 6 = .ok (.ifCond .eq 24, 3) := by decide +kernel
theorem dX6_mean_9 : decode cX6_mean 9 = .ok (.aload_n 0, 1) := by decide +kernel
theorem dX6_mean_10 : decode cX6_mean 10 = .ok (.aload_n 0, 1) := by decide +kernel
theorem dX6_mean_11 : decode cX6_mean 11 = .ok (.getfield 10, 3) := by decide +kernel
theorem dX6_mean_14 : decode cX6_mean 14 = .ok (.invokevirtual 174, 3) := by decide +kernel
theorem dX6_mean_17 : decode cX6_mean 17 = .ok (.i2l, 1) := by decide +kernel
theorem dX6_mean_18 : decode cX6_mean 18 = .ok (.aload_n 0, 1) := by decide +kernel
theorem dX6_mean_19 : decode cX6_mean 19 = .ok (.getfield 62, 3) := by decide +kernel
theorem dX6_mean_22 : decode cX6_mean 22 = .ok (.i2l, 1) := by decide +kernel
theorem dX6_mean_23 : decode cX6_mean 23 = .ok (.iload_n 1, 1) := by decide +kernel
theorem dX6_mean_24 : decode cX6_mean 24 = .ok (.invokestatic 232, 3) := by decide +kernel
theorem dX6_mean_27 : decode cX6_mean 27 = .ok (.goto 9, 3) := by decide +kernel
theorem dX6_mean_30 : decode cX6_mean 30 = .ok (.aload_n 0, 1) := by decide +kernel
theorem dX6_mean_31 : decode cX6_mean 31 = .ok (.bipush (-2), 2) := by decide +kernel
theorem dX6_mean_33 : decode cX6_mean 33 = .ok (.invokevirtual 228, 3) := by decide +kernel
theorem dX6_mean_36 : decode cX6_mean 36 = .ok (.lreturn, 1) := by decide +kernel
theorem dX6_whatIs_0 : decode cX6_whatIs 0 = .ok (.aload_n 0, 1) := by decide +kernel
theorem dX6_whatIs_1 : decode cX6_whatIs 1 = .ok (.iload_n 1, 1) := by decide +kernel
theorem dX6_whatIs_2 : decode cX6_whatIs 2 = .ok (.invokevirtual 168, 3) := by decide +kernel
theorem dX6_whatIs_5 : decode cX6_whatIs 5 = .ok (.ifCond .ne 9, 3) := by decide +kernel
theorem dX6_whatIs_8 : decode cX6_whatIs 8 = .ok (.aload_n 0, 1) := by decide +kernel
theorem dX6_whatIs_9 : decode cX6_whatIs 9 = .ok (.iconst (-1), 1) := by decide +kernel
theorem dX6_whatIs_10 : decode cX6_whatIs 10 = .ok (.invokevirtual 52, 3) := by decide +kernel
theorem dX6_whatIs_13 : decode cX6_whatIs 13 = .ok (.ireturn, 1) := by decide +kernel
theorem dX6_whatIs_14 : decode cX6_whatIs 14 = .ok (.iload_n 2, 1) := by decide +kernel
theorem dX6_whatIs_15 : decode cX6_whatIs 15 = .ok (.iconst 0, 1) := by decide +kernel
theorem dX6_whatIs_16 : decode cX6_whatIs 16 = .ok (.iconst 1, 1) := by decide +kernel
theorem dX6_whatIs_17 : decode cX6_whatIs 17 = .ok (.invokestatic 58, 3) := by decide +kernel
theorem dX6_whatIs_20 : decode cX6_whatIs 20 = .ok (.ifCond .ne 10, 3) := by decide +kernel
theorem dX6_whatIs_23 : decode cX6_whatIs 23 = .ok (.aload_n 0, 1) := by decide +kernel
theorem dX6_whatIs_24 : decode cX6_whatIs 24 = .ok (.bipush (-2), 2) := by decide +kernel
theorem dX6_whatIs_26 : decode cX6_whatIs 26 = .ok (.invokevirtual 52, 3) := by decide +kernel
theorem dX6_whatIs_29 : decode cX6_whatIs 29 = .ok (.ireturn, 1) := by decide +kernel
theorem dX6_whatIs_30 : decode cX6_whatIs 30 = .ok (.iconst 0, 1) := by decide +kernel
theorem dX6_whatIs_31 : decode cX6_whatIs 31 = .ok (.istore_n 3, 1) := by decide +kernel
theorem dX6_whatIs_32 : decode cX6_whatIs 32 = .ok (.iconst 0, 1) := by decide +kernel
theorem dX6_whatIs_33 : decode cX6_whatIs 33 = .ok (.istore 4, 2) := by decide +kernel
theorem dX6_whatIs_35 : decode cX6_whatIs 35 = .ok (.iload 4, 2) := by decide +kernel
theorem dX6_whatIs_37 : decode cX6_whatIs 37 = .ok (.iload_n 2, 1) := by decide +kernel
theorem dX6_whatIs_38 : decode cX6_whatIs 38 = .ok (.ifCond .ne 8, 3) := by decide +kernel
theorem dX6_whatIs_41 : decode cX6_whatIs 41 = .ok (.bipush 6, 2) := by decide +kernel
theorem dX6_whatIs_43 : decode cX6_whatIs 43 = .ok (.goto 5, 3) := by decide +kernel
theorem dX6_whatIs_46 : decode cX6_whatIs 46 = .ok (.bipush 10, 2) := by decide +kernel
theorem dX6_whatIs_48 : decode cX6_whatIs 48 = .ok (.if_icmp .ge 125, 3) := by decide +kernel
theorem dX6_whatIs_51 : decode cX6_whatIs 51 = .ok (.iconst 1, 1) := by decide +kernel
theorem dX6_whatIs_52 : decode cX6_whatIs 52 = .ok (.istore 5, 2) := by decide +kernel
theorem dX6_whatIs_54 : decode cX6_whatIs 54 = .ok (.iconst 0, 1) := by decide +kernel
theorem dX6_whatIs_55 : decode cX6_whatIs 55 = .ok (.istore 6, 2) := by decide +kernel
theorem dX6_whatIs_57 : decode cX6_whatIs 57 = .ok (.iload 6, 2) := by decide +kernel
theorem dX6_whatIs_59 : decode cX6_whatIs 59 = .ok (.aload_n 0, 1) := by decide +kernel
theorem dX6_whatIs_60 : decode cX6_whatIs 60 = .ok (.getfield 236, 3) := by decide +kernel
theorem dX6_whatIs_63 : decode cX6_whatIs 63 = .ok (.if_icmp .ge 88, 3) := by decide +kernel
theorem dX6_whatIs_66 : decode cX6_whatIs 66 = .ok (.iload 5, 2) := by decide +kernel
theorem dX6_whatIs_68 : decode cX6_whatIs 68 = .ok (.iload 6, 2) := by decide +kernel
theorem dX6_whatIs_70 : decode cX6_whatIs 70 = .ok (.ifCond .ne 10, 3) := by decide +kernel
theorem dX6_whatIs_73 : decode cX6_whatIs 73 = .ok (.aload_n 0, 1) := by decide +kernel
theorem dX6_whatIs_74 : decode cX6_whatIs 74 = .ok (.getfield 10, 3) := by decide +kernel
theorem dX6_whatIs_77 : decode cX6_whatIs 77 = .ok (.goto 16, 3) := by decide +kernel
theorem dX6_whatIs_80 : decode cX6_whatIs 80 = .ok (.aload_n 0, 1) := by decide +kernel
theorem dX6_whatIs_81 : decode cX6_whatIs 81 = .ok (.getfield 10, 3) := by decide +kernel
theorem dX6_whatIs_84 : decode cX6_whatIs 84 = .ok (.iconst 1, 1) := by decide +kernel
theorem dX6_whatIs_85 : decode cX6_whatIs 85 = .ok (.iload 6, 2) := by decide +kernel
theorem dX6_whatIs_87 : decode cX6_whatIs 87 = .ok (.iconst 1, 1) := by decide +kernel
theorem dX6_whatIs_88 : decode cX6_whatIs 88 = .ok (.isub, 1) := by decide +kernel
theorem dX6_whatIs_89 : decode cX6_whatIs 89 = .ok (.ishl, 1) := by decide +kernel
theorem dX6_whatIs_90 : decode cX6_whatIs 90 = .ok (.iconst (-1), 1) := by decide +kernel
theorem dX6_whatIs_91 : decode cX6_whatIs 91 = .ok (.ixor, 1) := by decide +kernel
theorem dX6_whatIs_92 : decode cX6_whatIs 92 = .ok (.iand, 1) := by decide +kernel
theorem dX6_whatIs_93 : decode cX6_whatIs 93 = .ok (.iload_n 2, 1) := by decide +kernel
theorem dX6_whatIs_94 : decode cX6_whatIs 94 = .ok (.ifCond .ne 8, 3) := by decide +kernel
theorem dX6_whatIs_97 : decode cX6_whatIs 97 = .ok (.iload 4, 2) := by decide +kernel
theorem dX6_whatIs_99 : decode cX6_whatIs 99 = .ok (.goto 9, 3) := by decide +kernel
theorem dX6_whatIs_102 : decode cX6_whatIs 102 = .ok (.aload_n 0, 1) := by decide +kernel
theorem dX6_whatIs_103 : decode cX6_whatIs 103 = .ok (.getfield 14, 3) := by decide +kernel
theorem dX6_whatIs_106 : decode cX6_whatIs 106 = .ok (.iload_n 1, 1) := by decide +kernel
theorem dX6_whatIs_107 : decode cX6_whatIs 107 = .ok (.iaload, 1) := by decide +kernel
theorem dX6_whatIs_108 : decode cX6_whatIs 108 = .ok (.iload_n 2, 1) := by decide +kernel
theorem dX6_whatIs_109 : decode cX6_whatIs 109 = .ok (.iconst 1, 1) := by decide +kernel
theorem dX6_whatIs_110 : decode cX6_whatIs 110 = .ok (.if_icmp .ne 8, 3) := by decide +kernel
theorem dX6_whatIs_113 : decode cX6_whatIs 113 = .ok (.iload 4, 2) := by decide +kernel
theorem dX6_whatIs_115 : decode cX6_whatIs 115 = .ok (.goto 9, 3) := by decide +kernel
theorem dX6_whatIs_118 : decode cX6_whatIs 118 = .ok (.aload_n 0, 1) := by decide +kernel
theorem dX6_whatIs_119 : decode cX6_whatIs 119 = .ok (.getfield 18, 3) := by decide +kernel
theorem dX6_whatIs_122 : decode cX6_whatIs 122 = .ok (.iload_n 1, 1) := by decide +kernel
theorem dX6_whatIs_123 : decode cX6_whatIs 123 = .ok (.iaload, 1) := by decide +kernel
theorem dX6_whatIs_124 : decode cX6_whatIs 124 = .ok (.invokestatic 94, 3) := by decide +kernel
theorem dX6_whatIs_127 : decode cX6_whatIs 127 = .ok (.aload_n 0, 1) := by decide +kernel
theorem dX6_whatIs_128 : decode cX6_whatIs 128 = .ok (.getfield 36, 3) := by decide +kernel
theorem dX6_whatIs_131 : decode cX6_whatIs 131 = .ok (.iload 6, 2) := by decide +kernel
theorem dX6_whatIs_133 : decode cX6_whatIs 133 = .ok (.iaload, 1) := by decide +kernel
theorem dX6_whatIs_134 : decode cX6_whatIs 134 = .ok (.if_icmp .ne 7, 3) := by decide +kernel
theorem dX6_whatIs_137 : decode cX6_whatIs 137 = .ok (.iconst 1, 1) := by decide +kernel
theorem dX6_whatIs_138 : decode cX6_whatIs 138 = .ok (.goto 4, 3) := by decide +kernel
theorem dX6_whatIs_141 : decode cX6_whatIs 141 = .ok (.iconst 0, 1) := by decide +kernel
theorem dX6_whatIs_142 : decode cX6_whatIs 142 = .ok (.iand, 1) := by decide +kernel
theorem dX6_whatIs_143 : decode cX6_whatIs 143 = .ok (.istore 5, 2) := by decide +kernel
theorem dX6_whatIs_145 : decode cX6_whatIs 145 = .ok (.iinc 6 1, 3) := by decide +kernel
theorem dX6_whatIs_148 : decode cX6_whatIs 148 = .ok (.goto (-91), 3) := by decide +kernel
theorem dX6_whatIs_151 : decode cX6_whatIs 151 = .ok (.iload_n 3, 1) := by decide +kernel
theorem dX6_whatIs_152 : decode cX6_whatIs 152 = .ok (.iload 5, 2) := by decide +kernel
theorem dX6_whatIs_154 : decode cX6_whatIs 154 = .ok (.ifCond .eq 10, 3) := by decide +kernel
theorem dX6_whatIs_157 : decode cX6_whatIs 157 = .ok (.iconst 1, 1) := by decide +kernel
theorem dX6_whatIs_158 : decode cX6_whatIs 158 = .ok (.iload 4, 2) := by decide +kernel
theorem dX6_whatIs_160 : decode cX6_whatIs 160 = .ok (.ishl, 1) := by decide +kernel
theorem dX6_whatIs_161 : decode cX6_whatIs 161 = .ok (.goto 4, 3) := by decide +kernel
theorem dX6_whatIs_164 : decode cX6_whatIs 164 = .ok (.iconst 0, 1) := by decide +kernel
theorem dX6_whatIs_165 : decode cX6_whatIs 165 = .ok (.ior, 1) := by decide +kernel
theorem dX6_whatIs_166 : decode cX6_whatIs 166 = .ok (.istore_n 3, 1) := by decide +kernel
theorem dX6_whatIs_167 : decode cX6_whatIs 167 = .ok (.iinc 4 1, 3) := by decide +kernel
theorem dX6_whatIs_170 : decode cX6_whatIs 170 = .ok (.goto (-135), 3) := by decide +kernel
theorem dX6_whatIs_173 : decode cX6_whatIs 173 = .ok (.iload_n 3, 1) := by decide +kernel
theorem dX6_whatIs_174 : decode cX6_whatIs 174 = .ok (.ireturn, 1) := by decide +kernel
theorem dX6_row_0 : decode cX6_row 0 = .ok (.iload_n 1, 1) := by decide +kernel
theorem dX6_row_1 : decode cX6_row 1 = .ok (.bipush 99, 2) := by decide +kernel
theorem dX6_row_3 : decode cX6_row 3 = .ok (.invokestatic 171, 3) := by decide +kernel
theorem dX6_row_6 : decode cX6_row 6 = .ok (.istore_n 2, 1) := by decide +kernel
theorem dX6_row_7 : decode cX6_row 7 = .ok (.iload_n 2, 1) := by decide +kernel
theorem dX6_row_8 : decode cX6_row 8 = .ok (.ifCond .ne 15, 3) := by decide +kernel
theorem dX6_row_11 : decode cX6_row 11 = .ok (.aload_n 0, 1) := by decide +kernel
theorem dX6_row_12 : decode cX6_row 12 = .ok (.getfield 236, 3) := by decide +kernel
theorem dX6_row_15 : decode cX6_row 15 = .ok (.bipush 16, 2) := by decide +kernel
theorem dX6_row_17 : decode cX6_row 17 = .ok (.if_icmp .ne 6, 3) := by decide +kernel
theorem dX6_row_20 : decode cX6_row 20 = .ok (.bipush (-6), 2) := by decide +kernel
theorem dX6_row_22 : decode cX6_row 22 = .ok (.istore_n 2, 1) := by decide +kernel
theorem dX6_row_23 : decode cX6_row 23 = .ok (.iload_n 2, 1) := by decide +kernel
theorem dX6_row_24 : decode cX6_row 24 = .ok (.ifCond .eq 9, 3) := by decide +kernel
theorem dX6_row_27 : decode cX6_row 27 = .ok (.aload_n 0, 1) := by decide +kernel
theorem dX6_row_28 : decode cX6_row 28 = .ok (.iload_n 2, 1) := by decide +kernel
theorem dX6_row_29 : decode cX6_row 29 = .ok (.invokevirtual 52, 3) := by decide +kernel
theorem dX6_row_32 : decode cX6_row 32 = .ok (.ireturn, 1) := by decide +kernel
theorem dX6_row_33 : decode cX6_row 33 = .ok (.aload_n 0, 1) := by decide +kernel
theorem dX6_row_34 : decode cX6_row 34 = .ok (.getfield 36, 3) := by decide +kernel
theorem dX6_row_37 : decode cX6_row 37 = .ok (.aload_n 0, 1) := by decide +kernel
theorem dX6_row_38 : decode cX6_row 38 = .ok (.getfield 236, 3) := by decide +kernel
theorem dX6_row_41 : decode cX6_row 41 = .ok (.iload_n 1, 1) := by decide +kernel
theorem dX6_row_42 : decode cX6_row 42 = .ok (.iastore, 1) := by decide +kernel
theorem dX6_row_43 : decode cX6_row 43 = .ok (.aload_n 0, 1) := by decide +kernel
theorem dX6_row_44 : decode cX6_row 44 = .ok (.dup, 1) := by decide +kernel
theorem dX6_row_45 : decode cX6_row 45 = .ok (.getfield 236, 3) := by decide +kernel
theorem dX6_row_48 : decode cX6_row 48 = .ok (.iconst 1, 1) := by decide +kernel
theorem dX6_row_49 : decode cX6_row 49 = .ok (.iadd, 1) := by decide +kernel
theorem dX6_row_50 : decode cX6_row 50 = .ok (.putfield 236, 3) := by decide +kernel
theorem dX6_row_53 : decode cX6_row 53 = .ok (.aload_n 0, 1) := by decide +kernel
theorem dX6_row_54 : decode cX6_row 54 = .ok (.getfield 236, 3) := by decide +kernel
theorem dX6_row_57 : decode cX6_row 57 = .ok (.ireturn, 1) := by decide +kernel
theorem dX6_judge_0 : decode cX6_judge 0 = .ok (.aload_n 0, 1) := by decide +kernel
theorem dX6_judge_1 : decode cX6_judge 1 = .ok (.getfield 236, 3) := by decide +kernel
theorem dX6_judge_4 : decode cX6_judge 4 = .ok (.istore_n 1, 1) := by decide +kernel
theorem dX6_judge_5 : decode cX6_judge 5 = .ok (.aload_n 0, 1) := by decide +kernel
theorem dX6_judge_6 : decode cX6_judge 6 = .ok (.iconst 0, 1) := by decide +kernel
theorem dX6_judge_7 : decode cX6_judge 7 = .ok (.putfield 236, 3) := by decide +kernel
theorem dX6_judge_10 : decode cX6_judge 10 = .ok (.iconst 0, 1) := by decide +kernel
theorem dX6_judge_11 : decode cX6_judge 11 = .ok (.istore_n 2, 1) := by decide +kernel
theorem dX6_judge_12 : decode cX6_judge 12 = .ok (.iload_n 2, 1) := by decide +kernel
theorem dX6_judge_13 : decode cX6_judge 13 = .ok (.iload_n 1, 1) := by decide +kernel
theorem dX6_judge_14 : decode cX6_judge 14 = .ok (.if_icmp .ge 37, 3) := by decide +kernel
theorem dX6_judge_17 : decode cX6_judge 17 = .ok (.aload_n 0, 1) := by decide +kernel
theorem dX6_judge_18 : decode cX6_judge 18 = .ok (.iload_n 2, 1) := by decide +kernel
theorem dX6_judge_19 : decode cX6_judge 19 = .ok (.invokevirtual 168, 3) := by decide +kernel
theorem dX6_judge_22 : decode cX6_judge 22 = .ok (.ifCond .eq 21, 3) := by decide +kernel
theorem dX6_judge_25 : decode cX6_judge 25 = .ok (.aload_n 0, 1) := by decide +kernel
theorem dX6_judge_26 : decode cX6_judge 26 = .ok (.aload_n 0, 1) := by decide +kernel
theorem dX6_judge_27 : decode cX6_judge 27 = .ok (.getfield 10, 3) := by decide +kernel
theorem dX6_judge_30 : decode cX6_judge 30 = .ok (.iload_n 2, 1) := by decide +kernel
theorem dX6_judge_31 : decode cX6_judge 31 = .ok (.invokevirtual 98, 3) := by decide +kernel
theorem dX6_judge_34 : decode cX6_judge 34 = .ok (.aload_n 0, 1) := by decide +kernel
theorem dX6_judge_35 : decode cX6_judge 35 = .ok (.getfield 36, 3) := by decide +kernel
theorem dX6_judge_38 : decode cX6_judge 38 = .ok (.iload_n 2, 1) := by decide +kernel
theorem dX6_judge_39 : decode cX6_judge 39 = .ok (.iaload, 1) := by decide +kernel
theorem dX6_judge_40 : decode cX6_judge 40 = .ok (.if_icmp .eq 5, 3) := by decide +kernel
theorem dX6_judge_43 : decode cX6_judge 43 = .ok (.iload_n 2, 1) := by decide +kernel
theorem dX6_judge_44 : decode cX6_judge 44 = .ok (.ireturn, 1) := by decide +kernel
theorem dX6_judge_45 : decode cX6_judge 45 = .ok (.iinc 2 1, 3) := by decide +kernel
theorem dX6_judge_48 : decode cX6_judge 48 = .ok (.goto (-36), 3) := by decide +kernel
theorem dX6_judge_51 : decode cX6_judge 51 = .ok (.bipush (-9), 2) := by decide +kernel
theorem dX6_judge_53 : decode cX6_judge 53 = .ok (.ireturn, 1) := by decide +kernel
theorem dX6_clear_0 : decode cX6_clear 0 = .ok (.aload_n 0, 1) := by decide +kernel
theorem dX6_clear_1 : decode cX6_clear 1 = .ok (.getfield 236, 3) := by decide +kernel
theorem dX6_clear_4 : decode cX6_clear 4 = .ok (.istore_n 1, 1) := by decide +kernel
theorem dX6_clear_5 : decode cX6_clear 5 = .ok (.aload_n 0, 1) := by decide +kernel
theorem dX6_clear_6 : decode cX6_clear 6 = .ok (.iconst 0, 1) := by decide +kernel
theorem dX6_clear_7 : decode cX6_clear 7 = .ok (.putfield 236, 3) := by decide +kernel
theorem dX6_clear_10 : decode cX6_clear 10 = .ok (.iload_n 1, 1) := by decide +kernel
theorem dX6_clear_11 : decode cX6_clear 11 = .ok (.ireturn, 1) := by decide +kernel
theorem dX6_drawn_0 : decode cX6_drawn 0 = .ok (.aload_n 0, 1) := by decide +kernel
theorem dX6_drawn_1 : decode cX6_drawn 1 = .ok (.aload_n 0, 1) := by decide +kernel
theorem dX6_drawn_2 : decode cX6_drawn 2 = .ok (.getfield 239, 3) := by decide +kernel
theorem dX6_drawn_5 : decode cX6_drawn 5 = .ok (.ldc 242, 2) := by decide +kernel
theorem dX6_drawn_7 : decode cX6_drawn 7 = .ok (.imul, 1) := by decide +kernel
theorem dX6_drawn_8 : decode cX6_drawn 8 = .ok (.ldc 243, 2) := by decide +kernel
theorem dX6_drawn_10 : decode cX6_drawn 10 = .ok (.iadd, 1) := by decide +kernel
theorem dX6_drawn_11 : decode cX6_drawn 11 = .ok (.putfield 239, 3) := by decide +kernel
theorem dX6_drawn_14 : decode cX6_drawn 14 = .ok (.aload_n 0, 1) := by decide +kernel
theorem dX6_drawn_15 : decode cX6_drawn 15 = .ok (.getfield 239, 3) := by decide +kernel
theorem dX6_drawn_18 : decode cX6_drawn 18 = .ok (.ldc 244, 2) := by decide +kernel
theorem dX6_drawn_20 : decode cX6_drawn 20 = .ok (.iand, 1) := by decide +kernel
theorem dX6_drawn_21 : decode cX6_drawn 21 = .ok (.sipush 256, 3) := by decide +kernel
theorem dX6_drawn_24 : decode cX6_drawn 24 = .ok (.idiv, 1) := by decide +kernel
theorem dX6_drawn_25 : decode cX6_drawn 25 = .ok (.iload_n 1, 1) := by decide +kernel
theorem dX6_drawn_26 : decode cX6_drawn 26 = .ok (.irem, 1) := by decide +kernel
theorem dX6_drawn_27 : decode cX6_drawn 27 = .ok (.ireturn, 1) := by decide +kernel
theorem dX6_lots_0 : decode cX6_lots 0 = .ok (.iload_n 1, 1) := by decide +kernel
theorem dX6_lots_1 : decode cX6_lots 1 = .ok (.iconst 1, 1) := by decide +kernel
theorem dX6_lots_2 : decode cX6_lots 2 = .ok (.if_icmp .ge 10, 3) := by decide +kernel
theorem dX6_lots_5 : decode cX6_lots 5 = .ok (.aload_n 0, 1) := by decide +kernel
theorem dX6_lots_6 : decode cX6_lots 6 = .ok (.bipush (-4), 2) := by decide +kernel
theorem dX6_lots_8 : decode cX6_lots 8 = .ok (.invokevirtual 52, 3) := by decide +kernel
theorem dX6_lots_11 : decode cX6_lots 11 = .ok (.ireturn, 1) := by decide +kernel
theorem dX6_lots_12 : decode cX6_lots 12 = .ok (.iload_n 1, 1) := by decide +kernel
theorem dX6_lots_13 : decode cX6_lots 13 = .ok (.bipush 20, 2) := by decide +kernel
theorem dX6_lots_15 : decode cX6_lots 15 = .ok (.if_icmp .le 10, 3) := by decide +kernel
theorem dX6_lots_18 : decode cX6_lots 18 = .ok (.aload_n 0, 1) := by decide +kernel
theorem dX6_lots_19 : decode cX6_lots 19 = .ok (.bipush (-6), 2) := by decide +kernel
theorem dX6_lots_21 : decode cX6_lots 21 = .ok (.invokevirtual 52, 3) := by decide +kernel
theorem dX6_lots_24 : decode cX6_lots 24 = .ok (.ireturn, 1) := by decide +kernel
theorem dX6_lots_25 : decode cX6_lots 25 = .ok (.iload_n 3, 1) := by decide +kernel
theorem dX6_lots_26 : decode cX6_lots 26 = .ok (.iconst 0, 1) := by decide +kernel
theorem dX6_lots_27 : decode cX6_lots 27 = .ok (.iconst 1, 1) := by decide +kernel
theorem dX6_lots_28 : decode cX6_lots 28 = .ok (.invokestatic 58, 3) := by decide +kernel
theorem dX6_lots_31 : decode cX6_lots 31 = .ok (.ifCond .ne 10, 3) := by decide +kernel
theorem dX6_lots_34 : decode cX6_lots 34 = .ok (.aload_n 0, 1) := by decide +kernel
theorem dX6_lots_35 : decode cX6_lots 35 = .ok (.bipush (-2), 2) := by decide +kernel
theorem dX6_lots_37 : decode cX6_lots 37 = .ok (.invokevirtual 52, 3) := by decide +kernel
theorem dX6_lots_40 : decode cX6_lots 40 = .ok (.ireturn, 1) := by decide +kernel
theorem dX6_lots_41 : decode cX6_lots 41 = .ok (.aload_n 0, 1) := by decide +kernel
theorem dX6_lots_42 : decode cX6_lots 42 = .ok (.iload_n 2, 1) := by decide +kernel
theorem dX6_lots_43 : decode cX6_lots 43 = .ok (.putfield 239, 3) := by decide +kernel
theorem dX6_lots_46 : decode cX6_lots 46 = .ok (.iconst 0, 1) := by decide +kernel
theorem dX6_lots_47 : decode cX6_lots 47 = .ok (.istore 4, 2) := by decide +kernel
theorem dX6_lots_49 : decode cX6_lots 49 = .ok (.iconst 0, 1) := by decide +kernel
theorem dX6_lots_50 : decode cX6_lots 50 = .ok (.istore 5, 2) := by decide +kernel
theorem dX6_lots_52 : decode cX6_lots 52 = .ok (.iload 5, 2) := by decide +kernel
theorem dX6_lots_54 : decode cX6_lots 54 = .ok (.iload_n 1, 1) := by decide +kernel
theorem dX6_lots_55 : decode cX6_lots 55 = .ok (.if_icmp .ge 108, 3) := by decide +kernel
theorem dX6_lots_58 : decode cX6_lots 58 = .ok (.aload_n 0, 1) := by decide +kernel
theorem dX6_lots_59 : decode cX6_lots 59 = .ok (.getfield 10, 3) := by decide +kernel
theorem dX6_lots_62 : decode cX6_lots 62 = .ok (.istore 6, 2) := by decide +kernel
theorem dX6_lots_64 : decode cX6_lots 64 = .ok (.iconst 0, 1) := by decide +kernel
theorem dX6_lots_65 : decode cX6_lots 65 = .ok (.istore 7, 2) := by decide +kernel
theorem dX6_lots_67 : decode cX6_lots 67 = .ok (.iload 7, 2) := by decide +kernel
theorem dX6_lots_69 : decode cX6_lots 69 = .ok (.bipush 6, 2) := by decide +kernel
theorem dX6_lots_71 : decode cX6_lots 71 = .ok (.if_icmp .ge 55, 3) := by decide +kernel
theorem dX6_lots_74 : decode cX6_lots 74 = .ok (.aload_n 0, 1) := by decide +kernel
theorem dX6_lots_75 : decode cX6_lots 75 = .ok (.iconst 4, 1) := by decide +kernel
theorem dX6_lots_76 : decode cX6_lots 76 = .ok (.invokevirtual 245, 3) := by decide +kernel
theorem dX6_lots_79 : decode cX6_lots 79 = .ok (.istore 8, 2) := by decide +kernel
theorem dX6_lots_81 : decode cX6_lots 81 = .ok (.aload_n 0, 1) := by decide +kernel
theorem dX6_lots_82 : decode cX6_lots 82 = .ok (.bipush 25, 2) := by decide +kernel
theorem dX6_lots_84 : decode cX6_lots 84 = .ok (.invokevirtual 245, 3) := by decide +kernel
theorem dX6_lots_87 : decode cX6_lots 87 = .ok (.istore 9, 2) := by decide +kernel
theorem dX6_lots_89 : decode cX6_lots 89 = .ok (.iload 6, 2) := by decide +kernel
theorem dX6_lots_91 : decode cX6_lots 91 = .ok (.iload 8, 2) := by decide +kernel
theorem dX6_lots_93 : decode cX6_lots 93 = .ok (.iload 9, 2) := by decide +kernel
theorem dX6_lots_95 : decode cX6_lots 95 = .ok (.invokestatic 134, 3) := by decide +kernel
theorem dX6_lots_98 : decode cX6_lots 98 = .ok (.ifCond .eq 18, 3) := by decide +kernel
theorem dX6_lots_101 : decode cX6_lots 101 = .ok (.iload 6, 2) := by decide +kernel
theorem dX6_lots_103 : decode cX6_lots 103 = .ok (.iload 8, 2) := by decide +kernel
theorem dX6_lots_105 : decode cX6_lots 105 = .ok (.iload 9, 2) := by decide +kernel
theorem dX6_lots_107 : decode cX6_lots 107 = .ok (.invokestatic 65, 3) := by decide +kernel
theorem dX6_lots_110 : decode cX6_lots 110 = .ok (.iconst (-1), 1) := by decide +kernel
theorem dX6_lots_111 : decode cX6_lots 111 = .ok (.ixor, 1) := by decide +kernel
theorem dX6_lots_112 : decode cX6_lots 112 = .ok (.iand, 1) := by decide +kernel
theorem dX6_lots_113 : decode cX6_lots 113 = .ok (.goto 5, 3) := by decide +kernel
theorem dX6_lots_116 : decode cX6_lots 116 = .ok (.iload 6, 2) := by decide +kernel
theorem dX6_lots_118 : decode cX6_lots 118 = .ok (.istore 6, 2) := by decide +kernel
theorem dX6_lots_120 : decode cX6_lots 120 = .ok (.iinc 7 1, 3) := by decide +kernel
theorem dX6_lots_123 : decode cX6_lots 123 = .ok (.goto (-56), 3) := by decide +kernel
theorem dX6_lots_126 : decode cX6_lots 126 = .ok (.iload 4, 2) := by decide +kernel
theorem dX6_lots_128 : decode cX6_lots 128 = .ok (.iload_n 3, 1) := by decide +kernel
theorem dX6_lots_129 : decode cX6_lots 129 = .ok (.ifCond .ne 12, 3) := by decide +kernel
theorem dX6_lots_132 : decode cX6_lots 132 = .ok (.aload_n 0, 1) := by decide +kernel
theorem dX6_lots_133 : decode cX6_lots 133 = .ok (.iload 6, 2) := by decide +kernel
theorem dX6_lots_135 : decode cX6_lots 135 = .ok (.invokevirtual 174, 3) := by decide +kernel
theorem dX6_lots_138 : decode cX6_lots 138 = .ok (.goto 16, 3) := by decide +kernel
theorem dX6_lots_141 : decode cX6_lots 141 = .ok (.iload 6, 2) := by decide +kernel
theorem dX6_lots_143 : decode cX6_lots 143 = .ok (.invokestatic 85, 3) := by decide +kernel
theorem dX6_lots_146 : decode cX6_lots 146 = .ok (.ifCond .ne 7, 3) := by decide +kernel
theorem dX6_lots_149 : decode cX6_lots 149 = .ok (.iconst 1, 1) := by decide +kernel
theorem dX6_lots_150 : decode cX6_lots 150 = .ok (.goto 4, 3) := by decide +kernel
theorem dX6_lots_153 : decode cX6_lots 153 = .ok (.iconst 0, 1) := by decide +kernel
theorem dX6_lots_154 : decode cX6_lots 154 = .ok (.iadd, 1) := by decide +kernel
theorem dX6_lots_155 : decode cX6_lots 155 = .ok (.istore 4, 2) := by decide +kernel
theorem dX6_lots_157 : decode cX6_lots 157 = .ok (.iinc 5 1, 3) := by decide +kernel
theorem dX6_lots_160 : decode cX6_lots 160 = .ok (.goto (-108), 3) := by decide +kernel
theorem dX6_lots_163 : decode cX6_lots 163 = .ok (.iload 4, 2) := by decide +kernel
theorem dX6_lots_165 : decode cX6_lots 165 = .ok (.ireturn, 1) := by decide +kernel
theorem dX6_image_0 : decode cX6_image 0 = .ok (.aload_n 0, 1) := by decide +kernel
theorem dX6_image_1 : decode cX6_image 1 = .ok (.aload_n 0, 1) := by decide +kernel
theorem dX6_image_2 : decode cX6_image 2 = .ok (.getfield 10, 3) := by decide +kernel
theorem dX6_image_5 : decode cX6_image 5 = .ok (.putfield 248, 3) := by decide +kernel
theorem dX6_image_8 : decode cX6_image 8 = .ok (.aload_n 0, 1) := by decide +kernel
theorem dX6_image_9 : decode cX6_image 9 = .ok (.aload_n 0, 1) := by decide +kernel
theorem dX6_image_10 : decode cX6_image 10 = .ok (.getfield 124, 3) := by decide +kernel
theorem dX6_image_13 : decode cX6_image 13 = .ok (.putfield 251, 3) := by decide +kernel
theorem dX6_image_16 : decode cX6_image 16 = .ok (.aload_n 0, 1) := by decide +kernel
theorem dX6_image_17 : decode cX6_image 17 = .ok (.aload_n 0, 1) := by decide +kernel
theorem dX6_image_18 : decode cX6_image 18 = .ok (.getfield 62, 3) := by decide +kernel
theorem dX6_image_21 : decode cX6_image 21 = .ok (.putfield 254, 3) := by decide +kernel
theorem dX6_image_24 : decode cX6_image 24 = .ok (.iconst 0, 1) := by decide +kernel
theorem dX6_image_25 : decode cX6_image 25 = .ok (.istore_n 1, 1) := by decide +kernel
theorem dX6_image_26 : decode cX6_image 26 = .ok (.iload_n 1, 1) := by decide +kernel
theorem dX6_image_27 : decode cX6_image 27 = .ok (.iconst 5, 1) := by decide +kernel
theorem dX6_image_28 : decode cX6_image 28 = .ok (.if_icmp .ge 33, 3) := by decide +kernel
theorem dX6_image_31 : decode cX6_image 31 = .ok (.aload_n 0, 1) := by decide +kernel
theorem dX6_image_32 : decode cX6_image 32 = .ok (.getfield 21, 3) := by decide +kernel
theorem dX6_image_35 : decode cX6_image 35 = .ok (.iload_n 1, 1) := by decide +kernel
theorem dX6_image_36 : decode cX6_image 36 = .ok (.aload_n 0, 1) := by decide +kernel
theorem dX6_image_37 : decode cX6_image 37 = .ok (.getfield 14, 3) := by decide +kernel
theorem dX6_image_40 : decode cX6_image 40 = .ok (.iload_n 1, 1) := by decide +kernel
theorem dX6_image_41 : decode cX6_image 41 = .ok (.iaload, 1) := by decide +kernel
theorem dX6_image_42 : decode cX6_image 42 = .ok (.iastore, 1) := by decide +kernel
theorem dX6_image_43 : decode cX6_image 43 = .ok (.aload_n 0, 1) := by decide +kernel
theorem dX6_image_44 : decode cX6_image 44 = .ok (.getfield 24, 3) := by decide +kernel
theorem dX6_image_47 : decode cX6_image 47 = .ok (.iload_n 1, 1) := by decide +kernel
theorem dX6_image_48 : decode cX6_image 48 = .ok (.aload_n 0, 1) := by decide +kernel
theorem dX6_image_49 : decode cX6_image 49 = .ok (.getfield 18, 3) := by decide +kernel
theorem dX6_image_52 : decode cX6_image 52 = .ok (.iload_n 1, 1) := by decide +kernel
theorem dX6_image_53 : decode cX6_image 53 = .ok (.iaload, 1) := by decide +kernel
theorem dX6_image_54 : decode cX6_image 54 = .ok (.iastore, 1) := by decide +kernel
theorem dX6_image_55 : decode cX6_image 55 = .ok (.iinc 1 1, 3) := by decide +kernel
theorem dX6_image_58 : decode cX6_image 58 = .ok (.goto (-32), 3) := by decide +kernel
theorem dX6_image_61 : decode cX6_image 61 = .ok (.aload_n 0, 1) := by decide +kernel
theorem dX6_image_62 : decode cX6_image 62 = .ok (.iconst 1, 1) := by decide +kernel
theorem dX6_image_63 : decode cX6_image 63 = .ok (.putfield 257, 3) := by decide +kernel
theorem dX6_image_66 : decode cX6_image 66 = .ok (.aload_n 0, 1) := by decide +kernel
theorem dX6_image_67 : decode cX6_image 67 = .ok (.getfield 124, 3) := by decide +kernel
theorem dX6_image_70 : decode cX6_image 70 = .ok (.ireturn, 1) := by decide +kernel
theorem dX6_on_0 : decode cX6_on 0 = .ok (.aload_n 0, 1) := by decide +kernel
theorem dX6_on_1 : decode cX6_on 1 = .ok (.getfield 257, 3) := by decide +kernel
theorem dX6_on_4 : decode cX6_on 4 = .ok (.ifCond .ne 10, 3) := by decide +kernel
theorem dX6_on_7 : decode cX6_on 7 = .ok (.aload_n 0, 1) := by decide +kernel
theorem dX6_on_8 : decode cX6_on 8 = .ok (.bipush (-3), 2) := by decide +kernel
theorem dX6_on_10 : decode cX6_on 10 = .ok (.invokevirtual 52, 3) := by decide +kernel
theorem dX6_on_13 : decode cX6_on 13 = .ok (.ireturn, 1) := by decide +kernel
theorem dX6_on_14 : decode cX6_on 14 = .ok (.aload_n 0, 1) := by decide +kernel
theorem dX6_on_15 : decode cX6_on 15 = .ok (.aload_n 0, 1) := by decide +kernel
theorem dX6_on_16 : decode cX6_on 16 = .ok (.getfield 248, 3) := by decide +kernel
theorem dX6_on_19 : decode cX6_on 19 = .ok (.putfield 10, 3) := by decide +kernel
theorem dX6_on_22 : decode cX6_on 22 = .ok (.aload_n 0, 1) := by decide +kernel
theorem dX6_on_23 : decode cX6_on 23 = .ok (.aload_n 0, 1) := by decide +kernel
theorem dX6_on_24 : decode cX6_on 24 = .ok (.getfield 251, 3) := by decide +kernel
theorem dX6_on_27 : decode cX6_on 27 = .ok (.putfield 124, 3) := by decide +kernel
theorem dX6_on_30 : decode cX6_on 30 = .ok (.aload_n 0, 1) := by decide +kernel
theorem dX6_on_31 : decode cX6_on 31 = .ok (.aload_n 0, 1) := by decide +kernel
theorem dX6_on_32 : decode cX6_on 32 = .ok (.getfield 254, 3) := by decide +kernel
theorem dX6_on_35 : decode cX6_on 35 = .ok (.putfield 62, 3) := by decide +kernel
theorem dX6_on_38 : decode cX6_on 38 = .ok (.iconst 0, 1) := by decide +kernel
theorem dX6_on_39 : decode cX6_on 39 = .ok (.istore_n 1, 1) := by decide +kernel
theorem dX6_on_40 : decode cX6_on 40 = .ok (.iload_n 1, 1) := by decide +kernel
theorem dX6_on_41 : decode cX6_on 41 = .ok (.iconst 5, 1) := by decide +kernel
theorem dX6_on_42 : decode cX6_on 42 = .ok (.if_icmp .ge 33, 3) := by decide +kernel
theorem dX6_on_45 : decode cX6_on 45 = .ok (.aload_n 0, 1) := by decide +kernel
theorem dX6_on_46 : decode cX6_on 46 = .ok (.getfield 14, 3) := by decide +kernel
theorem dX6_on_49 : decode cX6_on 49 = .ok (.iload_n 1, 1) := by decide +kernel
theorem dX6_on_50 : decode cX6_on 50 = .ok (.aload_n 0, 1) := by decide +kernel
theorem dX6_on_51 : decode cX6_on 51 = .ok (.getfield 21, 3) := by decide +kernel
theorem dX6_on_54 : decode cX6_on 54 = .ok (.iload_n 1, 1) := by decide +kernel
theorem dX6_on_55 : decode cX6_on 55 = .ok (.iaload, 1) := by decide +kernel
theorem dX6_on_56 : decode cX6_on 56 = .ok (.iastore, 1) := by decide +kernel
theorem dX6_on_57 : decode cX6_on 57 = .ok (.aload_n 0, 1) := by decide +kernel
theorem dX6_on_58 : decode cX6_on 58 = .ok (.getfield 18, 3) := by decide +kernel
theorem dX6_on_61 : decode cX6_on 61 = .ok (.iload_n 1, 1) := by decide +kernel
theorem dX6_on_62 : decode cX6_on 62 = .ok (.aload_n 0, 1) := by decide +kernel
theorem dX6_on_63 : decode cX6_on 63 = .ok (.getfield 24, 3) := by decide +kernel
theorem dX6_on_66 : decode cX6_on 66 = .ok (.iload_n 1, 1) := by decide +kernel
theorem dX6_on_67 : decode cX6_on 67 = .ok (.iaload, 1) := by decide +kernel
theorem dX6_on_68 : decode cX6_on 68 = .ok (.iastore, 1) := by decide +kernel
theorem dX6_on_69 : decode cX6_on 69 = .ok (.iinc 1 1, 3) := by decide +kernel
theorem dX6_on_72 : decode cX6_on 72 = .ok (.goto (-32), 3) := by decide +kernel
theorem dX6_on_75 : decode cX6_on 75 = .ok (.aload_n 0, 1) := by decide +kernel
theorem dX6_on_76 : decode cX6_on 76 = .ok (.getfield 124, 3) := by decide +kernel
theorem dX6_on_79 : decode cX6_on 79 = .ok (.ireturn, 1) := by decide +kernel
theorem dX6_count_0 : decode cX6_count 0 = .ok (.iload_n 1, 1) := by decide +kernel
theorem dX6_count_1 : decode cX6_count 1 = .ok (.bipush 11, 2) := by decide +kernel
theorem dX6_count_3 : decode cX6_count 3 = .ok (.bipush 16, 2) := by decide +kernel
theorem dX6_count_5 : decode cX6_count 5 = .ok (.invokestatic 58, 3) := by decide +kernel
theorem dX6_count_8 : decode cX6_count 8 = .ok (.ifCond .eq 13, 3) := by decide +kernel
theorem dX6_count_11 : decode cX6_count 11 = .ok (.aload_n 0, 1) := by decide +kernel
theorem dX6_count_12 : decode cX6_count 12 = .ok (.getfield 39, 3) := by decide +kernel
theorem dX6_count_15 : decode cX6_count 15 = .ok (.iload_n 1, 1) := by decide +kernel
theorem dX6_count_16 : decode cX6_count 16 = .ok (.bipush 10, 2) := by decide +kernel
theorem dX6_count_18 : decode cX6_count 18 = .ok (.isub, 1) := by decide +kernel
theorem dX6_count_19 : decode cX6_count 19 = .ok (.iaload, 1) := by decide +kernel
theorem dX6_count_20 : decode cX6_count 20 = .ok (.ireturn, 1) := by decide +kernel
theorem dX6_count_21 : decode cX6_count 21 = .ok (.iload_n 1, 1) := by decide +kernel
theorem dX6_count_22 : decode cX6_count 22 = .ok (.tableswitch 104 0 7 #[46, 51, 56, 61, 69, 78, 94, 99], 46) := by decide +kernel
theorem dX6_count_68 : decode cX6_count 68 = .ok (.aload_n 0, 1) := by decide +kernel
theorem dX6_count_69 : decode cX6_count 69 = .ok (.getfield 62, 3) := by decide +kernel
theorem dX6_count_72 : decode cX6_count 72 = .ok (.ireturn, 1) := by decide +kernel
theorem dX6_count_73 : decode cX6_count 73 = .ok (.aload_n 0, 1) := by decide +kernel
theorem dX6_count_74 : decode cX6_count 74 = .ok (.getfield 124, 3) := by decide +kernel
theorem dX6_count_77 : decode cX6_count 77 = .ok (.ireturn, 1) := by decide +kernel
theorem dX6_count_78 : decode cX6_count 78 = .ok (.aload_n 0, 1) := by decide +kernel
theorem dX6_count_79 : decode cX6_count 79 = .ok (.getfield 10, 3) := by decide +kernel
theorem dX6_count_82 : decode cX6_count 82 = .ok (.ireturn, 1) := by decide +kernel
theorem dX6_count_83 : decode cX6_count 83 = .ok (.aload_n 0, 1) := by decide +kernel
theorem dX6_count_84 : decode cX6_count 84 = .ok (.getfield 10, 3) := by decide +kernel
theorem dX6_count_87 : decode cX6_count 87 = .ok (.invokestatic 82, 3) := by decide +kernel
theorem dX6_count_90 : decode cX6_count 90 = .ok (.ireturn, 1) := by decide +kernel
theorem dX6_count_91 : decode cX6_count 91 = .ok (.aload_n 0, 1) := by decide +kernel
theorem dX6_count_92 : decode cX6_count 92 = .ok (.aload_n 0, 1) := by decide +kernel
theorem dX6_count_93 : decode cX6_count 93 = .ok (.getfield 10, 3) := by decide +kernel
theorem dX6_count_96 : decode cX6_count 96 = .ok (.invokevirtual 174, 3) := by decide +kernel
theorem dX6_count_99 : decode cX6_count 99 = .ok (.ireturn, 1) := by decide +kernel
theorem dX6_count_100 : decode cX6_count 100 = .ok (.aload_n 0, 1) := by decide +kernel
theorem dX6_count_101 : decode cX6_count 101 = .ok (.getfield 10, 3) := by decide +kernel
theorem dX6_count_104 : decode cX6_count 104 = .ok (.invokestatic 85, 3) := by decide +kernel
theorem dX6_count_107 : decode cX6_count 107 = .ok (.ifCond .ne 7, 3) := by decide +kernel
theorem dX6_count_110 : decode cX6_count 110 = .ok (.iconst 1, 1) := by decide +kernel
theorem dX6_count_111 : decode cX6_count 111 = .ok (.goto 4, 3) := by decide +kernel
theorem dX6_count_114 : decode cX6_count 114 = .ok (.iconst 0, 1) := by decide +kernel
theorem dX6_count_115 : decode cX6_count 115 = .ok (.ireturn, 1) := by decide +kernel
theorem dX6_count_116 : decode cX6_count 116 = .ok (.aload_n 0, 1) := by decide +kernel
theorem dX6_count_117 : decode cX6_count 117 = .ok (.getfield 236, 3) := by decide +kernel
theorem dX6_count_120 : decode cX6_count 120 = .ok (.ireturn, 1) := by decide +kernel
theorem dX6_count_121 : decode cX6_count 121 = .ok (.aload_n 0, 1) := by decide +kernel
theorem dX6_count_122 : decode cX6_count 122 = .ok (.getfield 104, 3) := by decide +kernel
theorem dX6_count_125 : decode cX6_count 125 = .ok (.ireturn, 1) := by decide +kernel
theorem dX6_count_126 : decode cX6_count 126 = .ok (.bipush (-9), 2) := by decide +kernel
theorem dX6_count_128 : decode cX6_count 128 = .ok (.ireturn, 1) := by decide +kernel
theorem dJ11_isValidCodePoint_9a6ad_0 : decode cJ11_isValidCodePoint_9a6ad 0 = .ok (.iload_n 0, 1) := by decide +kernel
theorem dJ11_isValidCodePoint_9a6ad_1 : decode cJ11_isValidCodePoint_9a6ad 1 = .ok (.bipush 16, 2) := by decide +kernel
theorem dJ11_isValidCodePoint_9a6ad_3 : decode cJ11_isValidCodePoint_9a6ad 3 = .ok (.iushr, 1) := by decide +kernel
theorem dJ11_isValidCodePoint_9a6ad_4 : decode cJ11_isValidCodePoint_9a6ad 4 = .ok (.istore_n 1, 1) := by decide +kernel
theorem dJ11_isValidCodePoint_9a6ad_5 : decode cJ11_isValidCodePoint_9a6ad 5 = .ok (.iload_n 1, 1) := by decide +kernel
theorem dJ11_isValidCodePoint_9a6ad_6 : decode cJ11_isValidCodePoint_9a6ad 6 = .ok (.bipush 17, 2) := by decide +kernel
theorem dJ11_isValidCodePoint_9a6ad_8 : decode cJ11_isValidCodePoint_9a6ad 8 = .ok (.if_icmp .ge 7, 3) := by decide +kernel
theorem dJ11_isValidCodePoint_9a6ad_11 : decode cJ11_isValidCodePoint_9a6ad 11 = .ok (.iconst 1, 1) := by decide +kernel
theorem dJ11_isValidCodePoint_9a6ad_12 : decode cJ11_isValidCodePoint_9a6ad 12 = .ok (.goto 4, 3) := by decide +kernel
theorem dJ11_isValidCodePoint_9a6ad_15 : decode cJ11_isValidCodePoint_9a6ad 15 = .ok (.iconst 0, 1) := by decide +kernel
theorem dJ11_isValidCodePoint_9a6ad_16 : decode cJ11_isValidCodePoint_9a6ad 16 = .ok (.ireturn, 1) := by decide +kernel
theorem dJ11_highSurrogate_5068e_0 : decode cJ11_highSurrogate_5068e 0 = .ok (.iload_n 0, 1) := by decide +kernel
theorem dJ11_highSurrogate_5068e_1 : decode cJ11_highSurrogate_5068e 1 = .ok (.bipush 10, 2) := by decide +kernel
theorem dJ11_highSurrogate_5068e_3 : decode cJ11_highSurrogate_5068e 3 = .ok (.iushr, 1) := by decide +kernel
theorem dJ11_highSurrogate_5068e_4 : decode cJ11_highSurrogate_5068e 4 = .ok (.ldc 110, 2) := by decide +kernel
theorem dJ11_highSurrogate_5068e_6 : decode cJ11_highSurrogate_5068e 6 = .ok (.iadd, 1) := by decide +kernel
theorem dJ11_highSurrogate_5068e_7 : decode cJ11_highSurrogate_5068e 7 = .ok (.i2c, 1) := by decide +kernel
theorem dJ11_highSurrogate_5068e_8 : decode cJ11_highSurrogate_5068e 8 = .ok (.ireturn, 1) := by decide +kernel
theorem dJ11_lowSurrogate_5068e_0 : decode cJ11_lowSurrogate_5068e 0 = .ok (.iload_n 0, 1) := by decide +kernel
theorem dJ11_lowSurrogate_5068e_1 : decode cJ11_lowSurrogate_5068e 1 = .ok (.sipush 1023, 3) := by decide +kernel
theorem dJ11_lowSurrogate_5068e_4 : decode cJ11_lowSurrogate_5068e 4 = .ok (.iand, 1) := by decide +kernel
theorem dJ11_lowSurrogate_5068e_5 : decode cJ11_lowSurrogate_5068e 5 = .ok (.ldc 76, 2) := by decide +kernel
theorem dJ11_lowSurrogate_5068e_7 : decode cJ11_lowSurrogate_5068e 7 = .ok (.iadd, 1) := by decide +kernel
theorem dJ11_lowSurrogate_5068e_8 : decode cJ11_lowSurrogate_5068e 8 = .ok (.i2c, 1) := by decide +kernel
theorem dJ11_lowSurrogate_5068e_9 : decode cJ11_lowSurrogate_5068e 9 = .ok (.ireturn, 1) := by decide +kernel
theorem dJ6_bitCount_0f7a4_0 : decode cJ6_bitCount_0f7a4 0 = .ok (.iload_n 0, 1) := by decide +kernel
theorem dJ6_bitCount_0f7a4_1 : decode cJ6_bitCount_0f7a4 1 = .ok (.iload_n 0, 1) := by decide +kernel
theorem dJ6_bitCount_0f7a4_2 : decode cJ6_bitCount_0f7a4 2 = .ok (.iconst 1, 1) := by decide +kernel
theorem dJ6_bitCount_0f7a4_3 : decode cJ6_bitCount_0f7a4 3 = .ok (.iushr, 1) := by decide +kernel
theorem dJ6_bitCount_0f7a4_4 : decode cJ6_bitCount_0f7a4 4 = .ok (.ldc_w 265, 3) := by decide +kernel
theorem dJ6_bitCount_0f7a4_7 : decode cJ6_bitCount_0f7a4 7 = .ok (.iand, 1) := by decide +kernel
theorem dJ6_bitCount_0f7a4_8 : decode cJ6_bitCount_0f7a4 8 = .ok (.isub, 1) := by decide +kernel
theorem dJ6_bitCount_0f7a4_9 : decode cJ6_bitCount_0f7a4 9 = .ok (.istore_n 0, 1) := by decide +kernel
theorem dJ6_bitCount_0f7a4_10 : decode cJ6_bitCount_0f7a4 10 = .ok (.iload_n 0, 1) := by decide +kernel
theorem dJ6_bitCount_0f7a4_11 : decode cJ6_bitCount_0f7a4 11 = .ok (.ldc_w 266, 3) := by decide +kernel
theorem dJ6_bitCount_0f7a4_14 : decode cJ6_bitCount_0f7a4 14 = .ok (.iand, 1) := by decide +kernel
theorem dJ6_bitCount_0f7a4_15 : decode cJ6_bitCount_0f7a4 15 = .ok (.iload_n 0, 1) := by decide +kernel
theorem dJ6_bitCount_0f7a4_16 : decode cJ6_bitCount_0f7a4 16 = .ok (.iconst 2, 1) := by decide +kernel
theorem dJ6_bitCount_0f7a4_17 : decode cJ6_bitCount_0f7a4 17 = .ok (.iushr, 1) := by decide +kernel
theorem dJ6_bitCount_0f7a4_18 : decode cJ6_bitCount_0f7a4 18 = .ok (.ldc_w 266, 3) := by decide +kernel
theorem dJ6_bitCount_0f7a4_21 : decode cJ6_bitCount_0f7a4 21 = .ok (.iand, 1) := by decide +kernel
theorem dJ6_bitCount_0f7a4_22 : decode cJ6_bitCount_0f7a4 22 = .ok (.iadd, 1) := by decide +kernel
theorem dJ6_bitCount_0f7a4_23 : decode cJ6_bitCount_0f7a4 23 = .ok (.istore_n 0, 1) := by decide +kernel
theorem dJ6_bitCount_0f7a4_24 : decode cJ6_bitCount_0f7a4 24 = .ok (.iload_n 0, 1) := by decide +kernel
theorem dJ6_bitCount_0f7a4_25 : decode cJ6_bitCount_0f7a4 25 = .ok (.iload_n 0, 1) := by decide +kernel
theorem dJ6_bitCount_0f7a4_26 : decode cJ6_bitCount_0f7a4 26 = .ok (.iconst 4, 1) := by decide +kernel
theorem dJ6_bitCount_0f7a4_27 : decode cJ6_bitCount_0f7a4 27 = .ok (.iushr, 1) := by decide +kernel
theorem dJ6_bitCount_0f7a4_28 : decode cJ6_bitCount_0f7a4 28 = .ok (.iadd, 1) := by decide +kernel
theorem dJ6_bitCount_0f7a4_29 : decode cJ6_bitCount_0f7a4 29 = .ok (.ldc_w 267, 3) := by decide +kernel
theorem dJ6_bitCount_0f7a4_32 : decode cJ6_bitCount_0f7a4 32 = .ok (.iand, 1) := by decide +kernel
theorem dJ6_bitCount_0f7a4_33 : decode cJ6_bitCount_0f7a4 33 = .ok (.istore_n 0, 1) := by decide +kernel
theorem dJ6_bitCount_0f7a4_34 : decode cJ6_bitCount_0f7a4 34 = .ok (.iload_n 0, 1) := by decide +kernel
theorem dJ6_bitCount_0f7a4_35 : decode cJ6_bitCount_0f7a4 35 = .ok (.iload_n 0, 1) := by decide +kernel
theorem dJ6_bitCount_0f7a4_36 : decode cJ6_bitCount_0f7a4 36 = .ok (.bipush 8, 2) := by decide +kernel
theorem dJ6_bitCount_0f7a4_38 : decode cJ6_bitCount_0f7a4 38 = .ok (.iushr, 1) := by decide +kernel
theorem dJ6_bitCount_0f7a4_39 : decode cJ6_bitCount_0f7a4 39 = .ok (.iadd, 1) := by decide +kernel
theorem dJ6_bitCount_0f7a4_40 : decode cJ6_bitCount_0f7a4 40 = .ok (.istore_n 0, 1) := by decide +kernel
theorem dJ6_bitCount_0f7a4_41 : decode cJ6_bitCount_0f7a4 41 = .ok (.iload_n 0, 1) := by decide +kernel
theorem dJ6_bitCount_0f7a4_42 : decode cJ6_bitCount_0f7a4 42 = .ok (.iload_n 0, 1) := by decide +kernel
theorem dJ6_bitCount_0f7a4_43 : decode cJ6_bitCount_0f7a4 43 = .ok (.bipush 16, 2) := by decide +kernel
theorem dJ6_bitCount_0f7a4_45 : decode cJ6_bitCount_0f7a4 45 = .ok (.iushr, 1) := by decide +kernel
theorem dJ6_bitCount_0f7a4_46 : decode cJ6_bitCount_0f7a4 46 = .ok (.iadd, 1) := by decide +kernel
theorem dJ6_bitCount_0f7a4_47 : decode cJ6_bitCount_0f7a4 47 = .ok (.istore_n 0, 1) := by decide +kernel
theorem dJ6_bitCount_0f7a4_48 : decode cJ6_bitCount_0f7a4 48 = .ok (.iload_n 0, 1) := by decide +kernel
theorem dJ6_bitCount_0f7a4_49 : decode cJ6_bitCount_0f7a4 49 = .ok (.bipush 63, 2) := by decide +kernel
theorem dJ6_bitCount_0f7a4_51 : decode cJ6_bitCount_0f7a4 51 = .ok (.iand, 1) := by decide +kernel
theorem dJ6_bitCount_0f7a4_52 : decode cJ6_bitCount_0f7a4 52 = .ok (.ireturn, 1) := by decide +kernel
theorem dJ9_abs_0f7a4_0 : decode cJ9_abs_0f7a4 0 = .ok (.iload_n 0, 1) := by decide +kernel
theorem dJ9_abs_0f7a4_1 : decode cJ9_abs_0f7a4 1 = .ok (.ifCond .ge 8, 3) := by decide +kernel
theorem dJ9_abs_0f7a4_4 : decode cJ9_abs_0f7a4 4 = .ok (.iload_n 0, 1) := by decide +kernel
theorem dJ9_abs_0f7a4_5 : decode cJ9_abs_0f7a4 5 = .ok (.ineg, 1) := by decide +kernel
theorem dJ9_abs_0f7a4_6 : decode cJ9_abs_0f7a4 6 = .ok (.goto 4, 3) := by decide +kernel
theorem dJ9_abs_0f7a4_9 : decode cJ9_abs_0f7a4 9 = .ok (.iload_n 0, 1) := by decide +kernel
theorem dJ9_abs_0f7a4_10 : decode cJ9_abs_0f7a4 10 = .ok (.ireturn, 1) := by decide +kernel
theorem dJ9_max_7cf53_0 : decode cJ9_max_7cf53 0 = .ok (.iload_n 0, 1) := by decide +kernel
theorem dJ9_max_7cf53_1 : decode cJ9_max_7cf53 1 = .ok (.iload_n 1, 1) := by decide +kernel
theorem dJ9_max_7cf53_2 : decode cJ9_max_7cf53 2 = .ok (.if_icmp .lt 7, 3) := by decide +kernel
theorem dJ9_max_7cf53_5 : decode cJ9_max_7cf53 5 = .ok (.iload_n 0, 1) := by decide +kernel
theorem dJ9_max_7cf53_6 : decode cJ9_max_7cf53 6 = .ok (.goto 4, 3) := by decide +kernel
theorem dJ9_max_7cf53_9 : decode cJ9_max_7cf53 9 = .ok (.iload_n 1, 1) := by decide +kernel
theorem dJ9_max_7cf53_10 : decode cJ9_max_7cf53 10 = .ok (.ireturn, 1) := by decide +kernel
theorem dJ9_min_7cf53_0 : decode cJ9_min_7cf53 0 = .ok (.iload_n 0, 1) := by decide +kernel
theorem dJ9_min_7cf53_1 : decode cJ9_min_7cf53 1 = .ok (.iload_n 1, 1) := by decide +kernel
theorem dJ9_min_7cf53_2 : decode cJ9_min_7cf53 2 = .ok (.if_icmp .gt 7, 3) := by decide +kernel
theorem dJ9_min_7cf53_5 : decode cJ9_min_7cf53 5 = .ok (.iload_n 0, 1) := by decide +kernel
theorem dJ9_min_7cf53_6 : decode cJ9_min_7cf53 6 = .ok (.goto 4, 3) := by decide +kernel
theorem dJ9_min_7cf53_9 : decode cJ9_min_7cf53 9 = .ok (.iload_n 1, 1) := by decide +kernel
theorem dJ9_min_7cf53_10 : decode cJ9_min_7cf53 10 = .ok (.ireturn, 1) := by decide +kernel
theorem dJ0_length_8abf5_0 : decode cJ0_length_8abf5 0 = .ok (.aload_n 0, 1) := by decide +kernel
theorem dJ0_length_8abf5_1 : decode cJ0_length_8abf5 1 = .ok (.getfield 9, 3) := by decide +kernel
theorem dJ0_length_8abf5_4 : decode cJ0_length_8abf5 4 = .ok (.arraylength, 1) := by decide +kernel
theorem dJ0_length_8abf5_5 : decode cJ0_length_8abf5 5 = .ok (.aload_n 0, 1) := by decide +kernel
theorem dJ0_length_8abf5_6 : decode cJ0_length_8abf5 6 = .ok (.invokevirtual 335, 3) := by decide +kernel
theorem dJ0_length_8abf5_9 : decode cJ0_length_8abf5 9 = .ok (.ishr, 1) := by decide +kernel
theorem dJ0_length_8abf5_10 : decode cJ0_length_8abf5 10 = .ok (.ireturn, 1) := by decide +kernel
theorem dJ0_charAt_5068e_0 : decode cJ0_charAt_5068e 0 = .ok (.aload_n 0, 1) := by decide +kernel
theorem dJ0_charAt_5068e_1 : decode cJ0_charAt_5068e 1 = .ok (.invokevirtual 492, 3) := by decide +kernel
theorem dJ0_charAt_5068e_4 : decode cJ0_charAt_5068e 4 = .ok (.ifCond .eq 12, 3) := by decide +kernel
theorem dJ0_charAt_5068e_7 : decode cJ0_charAt_5068e 7 = .ok (.aload_n 0, 1) := by decide +kernel
theorem dJ0_charAt_5068e_8 : decode cJ0_charAt_5068e 8 = .ok (.getfield 9, 3) := by decide +kernel
theorem dJ0_charAt_5068e_11 : decode cJ0_charAt_5068e 11 = .ok (.iload_n 1, 1) := by decide +kernel
theorem dJ0_charAt_5068e_12 : decode cJ0_charAt_5068e 12 = .ok (.invokestatic 495, 3) := by decide +kernel
theorem dJ0_charAt_5068e_15 : decode cJ0_charAt_5068e 15 = .ok (.ireturn, 1) := by decide +kernel
theorem dJ0_charAt_5068e_16 : decode cJ0_charAt_5068e 16 = .ok (.aload_n 0, 1) := by decide +kernel
theorem dJ0_charAt_5068e_17 : decode cJ0_charAt_5068e 17 = .ok (.getfield 9, 3) := by decide +kernel
theorem dJ0_charAt_5068e_20 : decode cJ0_charAt_5068e 20 = .ok (.iload_n 1, 1) := by decide +kernel
theorem dJ0_charAt_5068e_21 : decode cJ0_charAt_5068e 21 = .ok (.invokestatic 498, 3) := by decide +kernel
theorem dJ0_charAt_5068e_24 : decode cJ0_charAt_5068e 24 = .ok (.ireturn, 1) := by decide +kernel
theorem dJ0_indexOf_0f7a4_0 : decode cJ0_indexOf_0f7a4 0 = .ok (.aload_n 0, 1) := by decide +kernel
theorem dJ0_indexOf_0f7a4_1 : decode cJ0_indexOf_0f7a4 1 = .ok (.iload_n 1, 1) := by decide +kernel
theorem dJ0_indexOf_0f7a4_2 : decode cJ0_indexOf_0f7a4 2 = .ok (.iconst 0, 1) := by decide +kernel
theorem dJ0_indexOf_0f7a4_3 : decode cJ0_indexOf_0f7a4 3 = .ok (.invokevirtual 633, 3) := by decide +kernel
theorem dJ0_indexOf_0f7a4_6 : decode cJ0_indexOf_0f7a4 6 = .ok (.ireturn, 1) := by decide +kernel
theorem dJ0_indexOf_7cf53_0 : decode cJ0_indexOf_7cf53 0 = .ok (.aload_n 0, 1) := by decide +kernel
theorem dJ0_indexOf_7cf53_1 : decode cJ0_indexOf_7cf53 1 = .ok (.invokevirtual 492, 3) := by decide +kernel
theorem dJ0_indexOf_7cf53_4 : decode cJ0_indexOf_7cf53 4 = .ok (.ifCond .eq 19, 3) := by decide +kernel
theorem dJ0_indexOf_7cf53_7 : decode cJ0_indexOf_7cf53 7 = .ok (.aload_n 0, 1) := by decide +kernel
theorem dJ0_indexOf_7cf53_8 : decode cJ0_indexOf_7cf53 8 = .ok (.getfield 9, 3) := by decide +kernel
theorem dJ0_indexOf_7cf53_11 : decode cJ0_indexOf_7cf53 11 = .ok (.iload_n 1, 1) := by decide +kernel
theorem dJ0_indexOf_7cf53_12 : decode cJ0_indexOf_7cf53 12 = .ok (.iload_n 2, 1) := by decide +kernel
theorem dJ0_indexOf_7cf53_13 : decode cJ0_indexOf_7cf53 13 = .ok (.aload_n 0, 1) := by decide +kernel
theorem dJ0_indexOf_7cf53_14 : decode cJ0_indexOf_7cf53 14 = .ok (.invokevirtual 505, 3) := by decide +kernel
theorem dJ0_indexOf_7cf53_17 : decode cJ0_indexOf_7cf53 17 = .ok (.invokestatic 637, 3) := by decide +kernel
theorem dJ0_indexOf_7cf53_20 : decode cJ0_indexOf_7cf53 20 = .ok (.goto 16, 3) := by decide +kernel
theorem dJ0_indexOf_7cf53_23 : decode cJ0_indexOf_7cf53 23 = .ok (.aload_n 0, 1) := by decide +kernel
theorem dJ0_indexOf_7cf53_24 : decode cJ0_indexOf_7cf53 24 = .ok (.getfield 9, 3) := by decide +kernel
theorem dJ0_indexOf_7cf53_27 : decode cJ0_indexOf_7cf53 27 = .ok (.iload_n 1, 1) := by decide +kernel
theorem dJ0_indexOf_7cf53_28 : decode cJ0_indexOf_7cf53 28 = .ok (.iload_n 2, 1) := by decide +kernel
theorem dJ0_indexOf_7cf53_29 : decode cJ0_indexOf_7cf53 29 = .ok (.aload_n 0, 1) := by decide +kernel
theorem dJ0_indexOf_7cf53_30 : decode cJ0_indexOf_7cf53 30 = .ok (.invokevirtual 505, 3) := by decide +kernel
theorem dJ0_indexOf_7cf53_33 : decode cJ0_indexOf_7cf53 33 = .ok (.invokestatic 640, 3) := by decide +kernel
theorem dJ0_indexOf_7cf53_36 : decode cJ0_indexOf_7cf53 36 = .ok (.ireturn, 1) := by decide +kernel
theorem dJ0_coder_7d493_0 : decode cJ0_coder_7d493 0 = .ok (.getstatic 38, 3) := by decide +kernel
theorem dJ0_coder_7d493_3 : decode cJ0_coder_7d493 3 = .ok (.ifCond .eq 10, 3) := by decide +kernel
theorem dJ0_coder_7d493_6 : decode cJ0_coder_7d493 6 = .ok (.aload_n 0, 1) := by decide +kernel
theorem dJ0_coder_7d493_7 : decode cJ0_coder_7d493 7 = .ok (.getfield 15, 3) := by decide +kernel
theorem dJ0_coder_7d493_10 : decode cJ0_coder_7d493 10 = .ok (.goto 4, 3) := by decide +kernel
theorem dJ0_coder_7d493_13 : decode cJ0_coder_7d493 13 = .ok (.iconst 1, 1) := by decide +kernel
theorem dJ0_coder_7d493_14 : decode cJ0_coder_7d493 14 = .ok (.ireturn, 1) := by decide +kernel
theorem dJ0_isLatin1_aae02_0 : decode cJ0_isLatin1_aae02 0 = .ok (.getstatic 38, 3) := by decide +kernel
theorem dJ0_isLatin1_aae02_3 : decode cJ0_isLatin1_aae02 3 = .ok (.ifCond .eq 14, 3) := by decide +kernel
theorem dJ0_isLatin1_aae02_6 : decode cJ0_isLatin1_aae02 6 = .ok (.aload_n 0, 1) := by decide +kernel
theorem dJ0_isLatin1_aae02_7 : decode cJ0_isLatin1_aae02 7 = .ok (.getfield 15, 3) := by decide +kernel
theorem dJ0_isLatin1_aae02_10 : decode cJ0_isLatin1_aae02 10 = .ok (.ifCond .ne 7, 3) := by decide +kernel
theorem dJ0_isLatin1_aae02_13 : decode cJ0_isLatin1_aae02 13 = .ok (.iconst 1, 1) := by decide +kernel
theorem dJ0_isLatin1_aae02_14 : decode cJ0_isLatin1_aae02 14 = .ok (.goto 4, 3) := by decide +kernel
theorem dJ0_isLatin1_aae02_17 : decode cJ0_isLatin1_aae02 17 = .ok (.iconst 0, 1) := by decide +kernel
theorem dJ0_isLatin1_aae02_18 : decode cJ0_isLatin1_aae02 18 = .ok (.ireturn, 1) := by decide +kernel
theorem dJ0_checkIndex_df160_0 : decode cJ0_checkIndex_df160 0 = .ok (.iload_n 0, 1) := by decide +kernel
theorem dJ0_checkIndex_df160_1 : decode cJ0_checkIndex_df160 1 = .ok (.iload_n 1, 1) := by decide +kernel
theorem dJ0_checkIndex_df160_2 : decode cJ0_checkIndex_df160 2 = .ok (.getstatic 1053, 3) := by decide +kernel
theorem dJ0_checkIndex_df160_5 : decode cJ0_checkIndex_df160 5 = .ok (.invokestatic 1059, 3) := by decide +kernel
theorem dJ0_checkIndex_df160_8 : decode cJ0_checkIndex_df160 8 = .ok (.pop, 1) := by decide +kernel
theorem dJ0_checkIndex_df160_9 : decode cJ0_checkIndex_df160 9 = .ok (.return_, 1) := by decide +kernel
theorem dJ0_checkBoundsBeginEnd_23922_0 : decode cJ0_checkBoundsBeginEnd_23922 0 = .ok (.iload_n 0, 1) := by decide +kernel
theorem dJ0_checkBoundsBeginEnd_23922_1 : decode cJ0_checkBoundsBeginEnd_23922 1 = .ok (.iload_n 1, 1) := by decide +kernel
theorem dJ0_checkBoundsBeginEnd_23922_2 : decode cJ0_checkBoundsBeginEnd_23922 2 = .ok (.iload_n 2, 1) := by decide +kernel
theorem dJ0_checkBoundsBeginEnd_23922_3 : decode cJ0_checkBoundsBeginEnd_23922 3 = .ok (.getstatic 1053, 3) := by decide +kernel
theorem dJ0_checkBoundsBeginEnd_23922_6 : decode cJ0_checkBoundsBeginEnd_23922 6 = .ok (.invokestatic 1062, 3) := by decide +kernel
theorem dJ0_checkBoundsBeginEnd_23922_9 : decode cJ0_checkBoundsBeginEnd_23922 9 = .ok (.pop, 1) := by decide +kernel
theorem dJ0_checkBoundsBeginEnd_23922_10 : decode cJ0_checkBoundsBeginEnd_23922 10 = .ok (.return_, 1) := by decide +kernel
theorem dJ1_charAt_3b067_0 : decode cJ1_charAt_3b067 0 = .ok (.iload_n 1, 1) := by decide +kernel
theorem dJ1_charAt_3b067_1 : decode cJ1_charAt_3b067 1 = .ok (.aload_n 0, 1) := by decide +kernel
theorem dJ1_charAt_3b067_2 : decode cJ1_charAt_3b067 2 = .ok (.arraylength, 1) := by decide +kernel
theorem dJ1_charAt_3b067_3 : decode cJ1_charAt_3b067 3 = .ok (.invokestatic 9, 3) := by decide +kernel
theorem dJ1_charAt_3b067_6 : decode cJ1_charAt_3b067 6 = .ok (.aload_n 0, 1) := by decide +kernel
theorem dJ1_charAt_3b067_7 : decode cJ1_charAt_3b067 7 = .ok (.iload_n 1, 1) := by decide +kernel
theorem dJ1_charAt_3b067_8 : decode cJ1_charAt_3b067 8 = .ok (.baload, 1) := by decide +kernel
theorem dJ1_charAt_3b067_9 : decode cJ1_charAt_3b067 9 = .ok (.sipush 255, 3) := by decide +kernel
theorem dJ1_charAt_3b067_12 : decode cJ1_charAt_3b067 12 = .ok (.iand, 1) := by decide +kernel
theorem dJ1_charAt_3b067_13 : decode cJ1_charAt_3b067 13 = .ok (.i2c, 1) := by decide +kernel
theorem dJ1_charAt_3b067_14 : decode cJ1_charAt_3b067 14 = .ok (.ireturn, 1) := by decide +kernel
theorem dJ1_canEncode_9a6ad_0 : decode cJ1_canEncode_9a6ad 0 = .ok (.iload_n 0, 1) := by decide +kernel
theorem dJ1_canEncode_9a6ad_1 : decode cJ1_canEncode_9a6ad 1 = .ok (.ifCond .lt 14, 3) := by decide +kernel
theorem dJ1_canEncode_9a6ad_4 : decode cJ1_canEncode_9a6ad 4 = .ok (.iload_n 0, 1) := by decide +kernel
theorem dJ1_canEncode_9a6ad_5 : decode cJ1_canEncode_9a6ad 5 = .ok (.sipush 255, 3) := by decide +kernel
theorem dJ1_canEncode_9a6ad_8 : decode cJ1_canEncode_9a6ad 8 = .ok (.if_icmp .gt 7, 3) := by decide +kernel
theorem dJ1_canEncode_9a6ad_11 : decode cJ1_canEncode_9a6ad 11 = .ok (.iconst 1, 1) := by decide +kernel
theorem dJ1_canEncode_9a6ad_12 : decode cJ1_canEncode_9a6ad 12 = .ok (.goto 4, 3) := by decide +kernel
theorem dJ1_canEncode_9a6ad_15 : decode cJ1_canEncode_9a6ad 15 = .ok (.iconst 0, 1) := by decide +kernel
theorem dJ1_canEncode_9a6ad_16 : decode cJ1_canEncode_9a6ad 16 = .ok (.ireturn, 1) := by decide +kernel
theorem dJ1_indexOf_4cfef_0 : decode cJ1_indexOf_4cfef 0 = .ok (.iload_n 1, 1) := by decide +kernel
theorem dJ1_indexOf_4cfef_1 : decode cJ1_indexOf_4cfef 1 = .ok (.invokestatic 88, 3) := by decide +kernel
theorem dJ1_indexOf_4cfef_4 : decode cJ1_indexOf_4cfef 4 = .ok (.ifCond .ne 5, 3) := by decide +kernel
theorem dJ1_indexOf_4cfef_7 : decode cJ1_indexOf_4cfef 7 = .ok (.iconst (-1), 1) := by decide +kernel
theorem dJ1_indexOf_4cfef_8 : decode cJ1_indexOf_4cfef 8 = .ok (.ireturn, 1) := by decide +kernel
theorem dJ1_indexOf_4cfef_9 : decode cJ1_indexOf_4cfef 9 = .ok (.iload_n 2, 1) := by decide +kernel
theorem dJ1_indexOf_4cfef_10 : decode cJ1_indexOf_4cfef 10 = .ok (.iconst 0, 1) := by decide +kernel
theorem dJ1_indexOf_4cfef_11 : decode cJ1_indexOf_4cfef 11 = .ok (.invokestatic 92, 3) := by decide +kernel
theorem dJ1_indexOf_4cfef_14 : decode cJ1_indexOf_4cfef 14 = .ok (.istore_n 2, 1) := by decide +kernel
theorem dJ1_indexOf_4cfef_15 : decode cJ1_indexOf_4cfef 15 = .ok (.iload_n 3, 1) := by decide +kernel
theorem dJ1_indexOf_4cfef_16 : decode cJ1_indexOf_4cfef 16 = .ok (.aload_n 0, 1) := by decide +kernel
theorem dJ1_indexOf_4cfef_17 : decode cJ1_indexOf_4cfef 17 = .ok (.arraylength, 1) := by decide +kernel
theorem dJ1_indexOf_4cfef_18 : decode cJ1_indexOf_4cfef 18 = .ok (.invokestatic 38, 3) := by decide +kernel
theorem dJ1_indexOf_4cfef_21 : decode cJ1_indexOf_4cfef 21 = .ok (.istore_n 3, 1) := by decide +kernel
theorem dJ1_indexOf_4cfef_22 : decode cJ1_indexOf_4cfef 22 = .ok (.iload_n 2, 1) := by decide +kernel
theorem dJ1_indexOf_4cfef_23 : decode cJ1_indexOf_4cfef 23 = .ok (.iload_n 3, 1) := by decide +kernel
theorem dJ1_indexOf_4cfef_24 : decode cJ1_indexOf_4cfef 24 = .ok (.if_icmp .lt 5, 3) := by decide +kernel
theorem dJ1_indexOf_4cfef_27 : decode cJ1_indexOf_4cfef 27 = .ok (.iconst (-1), 1) := by decide +kernel
theorem dJ1_indexOf_4cfef_28 : decode cJ1_indexOf_4cfef 28 = .ok (.ireturn, 1) := by decide +kernel
theorem dJ1_indexOf_4cfef_29 : decode cJ1_indexOf_4cfef 29 = .ok (.aload_n 0, 1) := by decide +kernel
theorem dJ1_indexOf_4cfef_30 : decode cJ1_indexOf_4cfef 30 = .ok (.iload_n 1, 1) := by decide +kernel
theorem dJ1_indexOf_4cfef_31 : decode cJ1_indexOf_4cfef 31 = .ok (.iload_n 2, 1) := by decide +kernel
theorem dJ1_indexOf_4cfef_32 : decode cJ1_indexOf_4cfef 32 = .ok (.iload_n 3, 1) := by decide +kernel
theorem dJ1_indexOf_4cfef_33 : decode cJ1_indexOf_4cfef 33 = .ok (.invokestatic 95, 3) := by decide +kernel
theorem dJ1_indexOf_4cfef_36 : decode cJ1_indexOf_4cfef 36 = .ok (.ireturn, 1) := by decide +kernel
theorem dJ1_indexOfChar_4cfef_0 : decode cJ1_indexOfChar_4cfef 0 = .ok (.iload_n 1, 1) := by decide +kernel
theorem dJ1_indexOfChar_4cfef_1 : decode cJ1_indexOfChar_4cfef 1 = .ok (.i2b, 1) := by decide +kernel
theorem dJ1_indexOfChar_4cfef_2 : decode cJ1_indexOfChar_4cfef 2 = .ok (.istore 4, 2) := by decide +kernel
theorem dJ1_indexOfChar_4cfef_4 : decode cJ1_indexOfChar_4cfef 4 = .ok (.iload_n 2, 1) := by decide +kernel
theorem dJ1_indexOfChar_4cfef_5 : decode cJ1_indexOfChar_4cfef 5 = .ok (.istore 5, 2) := by decide +kernel
theorem dJ1_indexOfChar_4cfef_7 : decode cJ1_indexOfChar_4cfef 7 = .ok (.iload 5, 2) := by decide +kernel
theorem dJ1_indexOfChar_4cfef_9 : decode cJ1_indexOfChar_4cfef 9 = .ok (.iload_n 3, 1) := by decide +kernel
theorem dJ1_indexOfChar_4cfef_10 : decode cJ1_indexOfChar_4cfef 10 = .ok (.if_icmp .ge 21, 3) := by decide +kernel
theorem dJ1_indexOfChar_4cfef_13 : decode cJ1_indexOfChar_4cfef 13 = .ok (.aload_n 0, 1) := by decide +kernel
theorem dJ1_indexOfChar_4cfef_14 : decode cJ1_indexOfChar_4cfef 14 = .ok (.iload 5, 2) := by decide +kernel
theorem dJ1_indexOfChar_4cfef_16 : decode cJ1_indexOfChar_4cfef 16 = .ok (.baload, 1) := by decide +kernel
theorem dJ1_indexOfChar_4cfef_17 : decode cJ1_indexOfChar_4cfef 17 = .ok (.iload 4, 2) := by decide +kernel
theorem dJ1_indexOfChar_4cfef_19 : decode cJ1_indexOfChar_4cfef 19 = .ok (.if_icmp .ne 6, 3) := by decide +kernel
theorem dJ1_indexOfChar_4cfef_22 : decode cJ1_indexOfChar_4cfef 22 = .ok (.iload 5, 2) := by decide +kernel
theorem dJ1_indexOfChar_4cfef_24 : decode cJ1_indexOfChar_4cfef 24 = .ok (.ireturn, 1) := by decide +kernel
theorem dJ1_indexOfChar_4cfef_25 : decode cJ1_indexOfChar_4cfef 25 = .ok (.iinc 5 1, 3) := by decide +kernel
theorem dJ1_indexOfChar_4cfef_28 : decode cJ1_indexOfChar_4cfef 28 = .ok (.goto (-21), 3) := by decide +kernel
theorem dJ1_indexOfChar_4cfef_31 : decode cJ1_indexOfChar_4cfef 31 = .ok (.iconst (-1), 1) := by decide +kernel
theorem dJ1_indexOfChar_4cfef_32 : decode cJ1_indexOfChar_4cfef 32 = .ok (.ireturn, 1) := by decide +kernel
theorem dJ2_getChar_3b067_0 : decode cJ2_getChar_3b067 0 = .ok (.getstatic 44, 3) := by decide +kernel
theorem dJ2_getChar_3b067_3 : decode cJ2_getChar_3b067 3 = .ok (.ifCond .ne 25, 3) := by decide +kernel
theorem dJ2_getChar_3b067_6 : decode cJ2_getChar_3b067 6 = .ok (.iload_n 1, 1) := by decide +kernel
theorem dJ2_getChar_3b067_7 : decode cJ2_getChar_3b067 7 = .ok (.ifCond .lt 11, 3) := by decide +kernel
theorem dJ2_getChar_3b067_10 : decode cJ2_getChar_3b067 10 = .ok (.iload_n 1, 1) := by decide +kernel
theorem dJ2_getChar_3b067_11 : decode cJ2_getChar_3b067 11 = .ok (.aload_n 0, 1) := by decide +kernel
theorem dJ2_getChar_3b067_12 : decode cJ2_getChar_3b067 12 = .ok (.invokestatic 48, 3) := by decide +kernel
theorem dJ2_getChar_3b067_15 : decode cJ2_getChar_3b067 15 = .ok (.if_icmp .lt 13, 3) := by decide +kernel
theorem dJ2_getChar_3b067_18 : decode cJ2_getChar_3b067 18 = .ok (.new 52, 3) := by decide +kernel
theorem dJ2_getChar_3b067_21 : decode cJ2_getChar_3b067 21 = .ok (.dup, 1) := by decide +kernel
theorem dJ2_getChar_3b067_22 : decode cJ2_getChar_3b067 22 = .ok (.ldc 54, 2) := by decide +kernel
theorem dJ2_getChar_3b067_24 : decode cJ2_getChar_3b067 24 = .ok (.invokespecial 56, 3) := by decide +kernel
theorem dJ2_getChar_3b067_27 : decode cJ2_getChar_3b067 27 = .ok (.athrow, 1) := by decide +kernel
theorem dJ2_getChar_3b067_28 : decode cJ2_getChar_3b067 28 = .ok (.iload_n 1, 1) := by decide +kernel
theorem dJ2_getChar_3b067_29 : decode cJ2_getChar_3b067 29 = .ok (.iconst 1, 1) := by decide +kernel
theorem dJ2_getChar_3b067_30 : decode cJ2_getChar_3b067 30 = .ok (.ishl, 1) := by decide +kernel
theorem dJ2_getChar_3b067_31 : decode cJ2_getChar_3b067 31 = .ok (.istore_n 1, 1) := by decide +kernel
theorem dJ2_getChar_3b067_32 : decode cJ2_getChar_3b067 32 = .ok (.aload_n 0, 1) := by decide +kernel
theorem dJ2_getChar_3b067_33 : decode cJ2_getChar_3b067 33 = .ok (.iload_n 1, 1) := by decide +kernel
theorem dJ2_getChar_3b067_34 : decode cJ2_getChar_3b067 34 = .ok (.iinc 1 1, 3) := by decide +kernel
theorem dJ2_getChar_3b067_37 : decode cJ2_getChar_3b067 37 = .ok (.baload, 1) := by decide +kernel
theorem dJ2_getChar_3b067_38 : decode cJ2_getChar_3b067 38 = .ok (.sipush 255, 3) := by decide +kernel
theorem dJ2_getChar_3b067_41 : decode cJ2_getChar_3b067 41 = .ok (.iand, 1) := by decide +kernel
theorem dJ2_getChar_3b067_42 : decode cJ2_getChar_3b067 42 = .ok (.getstatic 59, 3) := by decide +kernel
theorem dJ2_getChar_3b067_45 : decode cJ2_getChar_3b067 45 = .ok (.ishl, 1) := by decide +kernel
theorem dJ2_getChar_3b067_46 : decode cJ2_getChar_3b067 46 = .ok (.aload_n 0, 1) := by decide +kernel
theorem dJ2_getChar_3b067_47 : decode cJ2_getChar_3b067 47 = .ok (.iload_n 1, 1) := by decide +kernel
theorem dJ2_getChar_3b067_48 : decode cJ2_getChar_3b067 48 = .ok (.baload, 1) := by decide +kernel
theorem dJ2_getChar_3b067_49 : decode cJ2_getChar_3b067 49 = .ok (.sipush 255, 3) := by decide +kernel
theorem dJ2_getChar_3b067_52 : decode cJ2_getChar_3b067 52 = .ok (.iand, 1) := by decide +kernel
theorem dJ2_getChar_3b067_53 : decode cJ2_getChar_3b067 53 = .ok (.getstatic 63, 3) := by decide +kernel
theorem dJ2_getChar_3b067_56 : decode cJ2_getChar_3b067 56 = .ok (.ishl, 1) := by decide +kernel
theorem dJ2_getChar_3b067_57 : decode cJ2_getChar_3b067 57 = .ok (.ior, 1) := by decide +kernel
theorem dJ2_getChar_3b067_58 : decode cJ2_getChar_3b067 58 = .ok (.i2c, 1) := by decide +kernel
theorem dJ2_getChar_3b067_59 : decode cJ2_getChar_3b067 59 = .ok (.ireturn, 1) := by decide +kernel
theorem dJ2_length_9d52b_0 : decode cJ2_length_9d52b 0 = .ok (.aload_n 0, 1) := by decide +kernel
theorem dJ2_length_9d52b_1 : decode cJ2_length_9d52b 1 = .ok (.arraylength, 1) := by decide +kernel
theorem dJ2_length_9d52b_2 : decode cJ2_length_9d52b 2 = .ok (.iconst 1, 1) := by decide +kernel
theorem dJ2_length_9d52b_3 : decode cJ2_length_9d52b 3 = .ok (.ishr, 1) := by decide +kernel
theorem dJ2_length_9d52b_4 : decode cJ2_length_9d52b 4 = .ok (.ireturn, 1) := by decide +kernel
theorem dJ2_indexOf_4cfef_0 : decode cJ2_indexOf_4cfef 0 = .ok (.iload_n 2, 1) := by decide +kernel
theorem dJ2_indexOf_4cfef_1 : decode cJ2_indexOf_4cfef 1 = .ok (.iconst 0, 1) := by decide +kernel
theorem dJ2_indexOf_4cfef_2 : decode cJ2_indexOf_4cfef 2 = .ok (.invokestatic 224, 3) := by decide +kernel
theorem dJ2_indexOf_4cfef_5 : decode cJ2_indexOf_4cfef 5 = .ok (.istore_n 2, 1) := by decide +kernel
theorem dJ2_indexOf_4cfef_6 : decode cJ2_indexOf_4cfef 6 = .ok (.iload_n 3, 1) := by decide +kernel
theorem dJ2_indexOf_4cfef_7 : decode cJ2_indexOf_4cfef 7 = .ok (.aload_n 0, 1) := by decide +kernel
theorem dJ2_indexOf_4cfef_8 : decode cJ2_indexOf_4cfef 8 = .ok (.arraylength, 1) := by decide +kernel
theorem dJ2_indexOf_4cfef_9 : decode cJ2_indexOf_4cfef 9 = .ok (.iconst 1, 1) := by decide +kernel
theorem dJ2_indexOf_4cfef_10 : decode cJ2_indexOf_4cfef 10 = .ok (.ishr, 1) := by decide +kernel
theorem dJ2_indexOf_4cfef_11 : decode cJ2_indexOf_4cfef 11 = .ok (.invokestatic 183, 3) := by decide +kernel
theorem dJ2_indexOf_4cfef_14 : decode cJ2_indexOf_4cfef 14 = .ok (.istore_n 3, 1) := by decide +kernel
theorem dJ2_indexOf_4cfef_15 : decode cJ2_indexOf_4cfef 15 = .ok (.iload_n 2, 1) := by decide +kernel
theorem dJ2_indexOf_4cfef_16 : decode cJ2_indexOf_4cfef 16 = .ok (.iload_n 3, 1) := by decide +kernel
theorem dJ2_indexOf_4cfef_17 : decode cJ2_indexOf_4cfef 17 = .ok (.if_icmp .lt 5, 3) := by decide +kernel
theorem dJ2_indexOf_4cfef_20 : decode cJ2_indexOf_4cfef 20 = .ok (.iconst (-1), 1) := by decide +kernel
theorem dJ2_indexOf_4cfef_21 : decode cJ2_indexOf_4cfef 21 = .ok (.ireturn, 1) := by decide +kernel
theorem dJ2_indexOf_4cfef_22 : decode cJ2_indexOf_4cfef 22 = .ok (.iload_n 1, 1) := by decide +kernel
theorem dJ2_indexOf_4cfef_23 : decode cJ2_indexOf_4cfef 23 = .ok (.ldc 227, 2) := by decide +kernel
theorem dJ2_indexOf_4cfef_25 : decode cJ2_indexOf_4cfef 25 = .ok (.if_icmp .ge 11, 3) := by decide +kernel
theorem dJ2_indexOf_4cfef_28 : decode cJ2_indexOf_4cfef 28 = .ok (.aload_n 0, 1) := by decide +kernel
theorem dJ2_indexOf_4cfef_29 : decode cJ2_indexOf_4cfef 29 = .ok (.iload_n 1, 1) := by decide +kernel
theorem dJ2_indexOf_4cfef_30 : decode cJ2_indexOf_4cfef 30 = .ok (.iload_n 2, 1) := by decide +kernel
theorem dJ2_indexOf_4cfef_31 : decode cJ2_indexOf_4cfef 31 = .ok (.iload_n 3, 1) := by decide +kernel
theorem dJ2_indexOf_4cfef_32 : decode cJ2_indexOf_4cfef 32 = .ok (.invokestatic 228, 3) := by decide +kernel
theorem dJ2_indexOf_4cfef_35 : decode cJ2_indexOf_4cfef 35 = .ok (.ireturn, 1) := by decide +kernel
theorem dJ2_indexOf_4cfef_36 : decode cJ2_indexOf_4cfef 36 = .ok (.aload_n 0, 1) := by decide +kernel
theorem dJ2_indexOf_4cfef_37 : decode cJ2_indexOf_4cfef 37 = .ok (.iload_n 1, 1) := by decide +kernel
theorem dJ2_indexOf_4cfef_38 : decode cJ2_indexOf_4cfef 38 = .ok (.iload_n 2, 1) := by decide +kernel
theorem dJ2_indexOf_4cfef_39 : decode cJ2_indexOf_4cfef 39 = .ok (.iload_n 3, 1) := by decide +kernel
theorem dJ2_indexOf_4cfef_40 : decode cJ2_indexOf_4cfef 40 = .ok (.invokestatic 232, 3) := by decide +kernel
theorem dJ2_indexOf_4cfef_43 : decode cJ2_indexOf_4cfef 43 = .ok (.ireturn, 1) := by decide +kernel
theorem dJ2_indexOfChar_4cfef_0 : decode cJ2_indexOfChar_4cfef 0 = .ok (.iload_n 2, 1) := by decide +kernel
theorem dJ2_indexOfChar_4cfef_1 : decode cJ2_indexOfChar_4cfef 1 = .ok (.iload_n 3, 1) := by decide +kernel
theorem dJ2_indexOfChar_4cfef_2 : decode cJ2_indexOfChar_4cfef 2 = .ok (.aload_n 0, 1) := by decide +kernel
theorem dJ2_indexOfChar_4cfef_3 : decode cJ2_indexOfChar_4cfef 3 = .ok (.invokestatic 96, 3) := by decide +kernel
theorem dJ2_indexOfChar_4cfef_6 : decode cJ2_indexOfChar_4cfef 6 = .ok (.aload_n 0, 1) := by decide +kernel
theorem dJ2_indexOfChar_4cfef_7 : decode cJ2_indexOfChar_4cfef 7 = .ok (.iload_n 1, 1) := by decide +kernel
theorem dJ2_indexOfChar_4cfef_8 : decode cJ2_indexOfChar_4cfef 8 = .ok (.iload_n 2, 1) := by decide +kernel
theorem dJ2_indexOfChar_4cfef_9 : decode cJ2_indexOfChar_4cfef 9 = .ok (.iload_n 3, 1) := by decide +kernel
theorem dJ2_indexOfChar_4cfef_10 : decode cJ2_indexOfChar_4cfef 10 = .ok (.invokestatic 244, 3) := by decide +kernel
theorem dJ2_indexOfChar_4cfef_13 : decode cJ2_indexOfChar_4cfef 13 = .ok (.ireturn, 1) := by decide +kernel
theorem dJ2_indexOfCharUnsafe_4cfef_0 : decode cJ2_indexOfCharUnsafe_4cfef 0 = .ok (.iload_n 2, 1) := by decide +kernel
theorem dJ2_indexOfCharUnsafe_4cfef_1 : decode cJ2_indexOfCharUnsafe_4cfef 1 = .ok (.istore 4, 2) := by decide +kernel
theorem dJ2_indexOfCharUnsafe_4cfef_3 : decode cJ2_indexOfCharUnsafe_4cfef 3 = .ok (.iload 4, 2) := by decide +kernel
theorem dJ2_indexOfCharUnsafe_4cfef_5 : decode cJ2_indexOfCharUnsafe_4cfef 5 = .ok (.iload_n 3, 1) := by decide +kernel
theorem dJ2_indexOfCharUnsafe_4cfef_6 : decode cJ2_indexOfCharUnsafe_4cfef 6 = .ok (.if_icmp .ge 22, 3) := by decide +kernel
theorem dJ2_indexOfCharUnsafe_4cfef_9 : decode cJ2_indexOfCharUnsafe_4cfef 9 = .ok (.aload_n 0, 1) := by decide +kernel
theorem dJ2_indexOfCharUnsafe_4cfef_10 : decode cJ2_indexOfCharUnsafe_4cfef 10 = .ok (.iload 4, 2) := by decide +kernel
theorem dJ2_indexOfCharUnsafe_4cfef_12 : decode cJ2_indexOfCharUnsafe_4cfef 12 = .ok (.invokestatic 71, 3) := by decide +kernel
theorem dJ2_indexOfCharUnsafe_4cfef_15 : decode cJ2_indexOfCharUnsafe_4cfef 15 = .ok (.iload_n 1, 1) := by decide +kernel
theorem dJ2_indexOfCharUnsafe_4cfef_16 : decode cJ2_indexOfCharUnsafe_4cfef 16 = .ok (.if_icmp .ne 6, 3) := by decide +kernel
theorem dJ2_indexOfCharUnsafe_4cfef_19 : decode cJ2_indexOfCharUnsafe_4cfef 19 = .ok (.iload 4, 2) := by decide +kernel
theorem dJ2_indexOfCharUnsafe_4cfef_21 : decode cJ2_indexOfCharUnsafe_4cfef 21 = .ok (.ireturn, 1) := by decide +kernel
theorem dJ2_indexOfCharUnsafe_4cfef_22 : decode cJ2_indexOfCharUnsafe_4cfef 22 = .ok (.iinc 4 1, 3) := by decide +kernel
theorem dJ2_indexOfCharUnsafe_4cfef_25 : decode cJ2_indexOfCharUnsafe_4cfef 25 = .ok (.goto (-22), 3) := by decide +kernel
theorem dJ2_indexOfCharUnsafe_4cfef_28 : decode cJ2_indexOfCharUnsafe_4cfef 28 = .ok (.iconst (-1), 1) := by decide +kernel
theorem dJ2_indexOfCharUnsafe_4cfef_29 : decode cJ2_indexOfCharUnsafe_4cfef 29 = .ok (.ireturn, 1) := by decide +kernel
theorem dJ2_indexOfSupplementary_4cfef_0 : decode cJ2_indexOfSupplementary_4cfef 0 = .ok (.iload_n 1, 1) := by decide +kernel
theorem dJ2_indexOfSupplementary_4cfef_1 : decode cJ2_indexOfSupplementary_4cfef 1 = .ok (.invokestatic 164, 3) := by decide +kernel
theorem dJ2_indexOfSupplementary_4cfef_4 : decode cJ2_indexOfSupplementary_4cfef 4 = .ok (.ifCond .eq 65, 3) := by decide +kernel
theorem dJ2_indexOfSupplementary_4cfef_7 : decode cJ2_indexOfSupplementary_4cfef 7 = .ok (.iload_n 1, 1) := by decide +kernel
theorem dJ2_indexOfSupplementary_4cfef_8 : decode cJ2_indexOfSupplementary_4cfef 8 = .ok (.invokestatic 157, 3) := by decide +kernel
theorem dJ2_indexOfSupplementary_4cfef_11 : decode cJ2_indexOfSupplementary_4cfef 11 = .ok (.istore 4, 2) := by decide +kernel
theorem dJ2_indexOfSupplementary_4cfef_13 : decode cJ2_indexOfSupplementary_4cfef 13 = .ok (.iload_n 1, 1) := by decide +kernel
theorem dJ2_indexOfSupplementary_4cfef_14 : decode cJ2_indexOfSupplementary_4cfef 14 = .ok (.invokestatic 161, 3) := by decide +kernel
theorem dJ2_indexOfSupplementary_4cfef_17 : decode cJ2_indexOfSupplementary_4cfef 17 = .ok (.istore 5, 2) := by decide +kernel
theorem dJ2_indexOfSupplementary_4cfef_19 : decode cJ2_indexOfSupplementary_4cfef 19 = .ok (.iload_n 2, 1) := by decide +kernel
theorem dJ2_indexOfSupplementary_4cfef_20 : decode cJ2_indexOfSupplementary_4cfef 20 = .ok (.iload_n 3, 1) := by decide +kernel
theorem dJ2_indexOfSupplementary_4cfef_21 : decode cJ2_indexOfSupplementary_4cfef 21 = .ok (.aload_n 0, 1) := by decide +kernel
theorem dJ2_indexOfSupplementary_4cfef_22 : decode cJ2_indexOfSupplementary_4cfef 22 = .ok (.invokestatic 96, 3) := by decide +kernel
theorem dJ2_indexOfSupplementary_4cfef_25 : decode cJ2_indexOfSupplementary_4cfef 25 = .ok (.iload_n 2, 1) := by decide +kernel
theorem dJ2_indexOfSupplementary_4cfef_26 : decode cJ2_indexOfSupplementary_4cfef 26 = .ok (.istore 6, 2) := by decide +kernel
theorem dJ2_indexOfSupplementary_4cfef_28 : decode cJ2_indexOfSupplementary_4cfef 28 = .ok (.iload 6, 2) := by decide +kernel
theorem dJ2_indexOfSupplementary_4cfef_30 : decode cJ2_indexOfSupplementary_4cfef 30 = .ok (.iload_n 3, 1) := by decide +kernel
theorem dJ2_indexOfSupplementary_4cfef_31 : decode cJ2_indexOfSupplementary_4cfef 31 = .ok (.iconst 1, 1) := by decide +kernel
theorem dJ2_indexOfSupplementary_4cfef_32 : decode cJ2_indexOfSupplementary_4cfef 32 = .ok (.isub, 1) := by decide +kernel
theorem dJ2_indexOfSupplementary_4cfef_33 : decode cJ2_indexOfSupplementary_4cfef 33 = .ok (.if_icmp .ge 36, 3) := by decide +kernel
theorem dJ2_indexOfSupplementary_4cfef_36 : decode cJ2_indexOfSupplementary_4cfef 36 = .ok (.aload_n 0, 1) := by decide +kernel
theorem dJ2_indexOfSupplementary_4cfef_37 : decode cJ2_indexOfSupplementary_4cfef 37 = .ok (.iload 6, 2) := by decide +kernel
theorem dJ2_indexOfSupplementary_4cfef_39 : decode cJ2_indexOfSupplementary_4cfef 39 = .ok (.invokestatic 71, 3) := by decide +kernel
theorem dJ2_indexOfSupplementary_4cfef_42 : decode cJ2_indexOfSupplementary_4cfef 42 = .ok (.iload 4, 2) := by decide +kernel
theorem dJ2_indexOfSupplementary_4cfef_44 : decode cJ2_indexOfSupplementary_4cfef 44 = .ok (.if_icmp .ne 19, 3) := by decide +kernel
theorem dJ2_indexOfSupplementary_4cfef_47 : decode cJ2_indexOfSupplementary_4cfef 47 = .ok (.aload_n 0, 1) := by decide +kernel
theorem dJ2_indexOfSupplementary_4cfef_48 : decode cJ2_indexOfSupplementary_4cfef 48 = .ok (.iload 6, 2) := by decide +kernel
theorem dJ2_indexOfSupplementary_4cfef_50 : decode cJ2_indexOfSupplementary_4cfef 50 = .ok (.iconst 1, 1) := by decide +kernel
theorem dJ2_indexOfSupplementary_4cfef_51 : decode cJ2_indexOfSupplementary_4cfef 51 = .ok (.iadd, 1) := by decide +kernel
theorem dJ2_indexOfSupplementary_4cfef_52 : decode cJ2_indexOfSupplementary_4cfef 52 = .ok (.invokestatic 71, 3) := by decide +kernel
theorem dJ2_indexOfSupplementary_4cfef_55 : decode cJ2_indexOfSupplementary_4cfef 55 = .ok (.iload 5, 2) := by decide +kernel
theorem dJ2_indexOfSupplementary_4cfef_57 : decode cJ2_indexOfSupplementary_4cfef 57 = .ok (.if_icmp .ne 6, 3) := by decide +kernel
theorem dJ2_indexOfSupplementary_4cfef_60 : decode cJ2_indexOfSupplementary_4cfef 60 = .ok (.iload 6, 2) := by decide +kernel
theorem dJ2_indexOfSupplementary_4cfef_62 : decode cJ2_indexOfSupplementary_4cfef 62 = .ok (.ireturn, 1) := by decide +kernel
theorem dJ2_indexOfSupplementary_4cfef_63 : decode cJ2_indexOfSupplementary_4cfef 63 = .ok (.iinc 6 1, 3) := by decide +kernel
theorem dJ2_indexOfSupplementary_4cfef_66 : decode cJ2_indexOfSupplementary_4cfef 66 = .ok (.goto (-38), 3) := by decide +kernel
theorem dJ2_indexOfSupplementary_4cfef_69 : decode cJ2_indexOfSupplementary_4cfef 69 = .ok (.iconst (-1), 1) := by decide +kernel
theorem dJ2_indexOfSupplementary_4cfef_70 : decode cJ2_indexOfSupplementary_4cfef 70 = .ok (.ireturn, 1) := by decide +kernel
theorem dJ2_charAt_3b067_0 : decode cJ2_charAt_3b067 0 = .ok (.iload_n 1, 1) := by decide +kernel
theorem dJ2_charAt_3b067_1 : decode cJ2_charAt_3b067 1 = .ok (.aload_n 0, 1) := by decide +kernel
theorem dJ2_charAt_3b067_2 : decode cJ2_charAt_3b067 2 = .ok (.invokestatic 67, 3) := by decide +kernel
theorem dJ2_charAt_3b067_5 : decode cJ2_charAt_3b067 5 = .ok (.aload_n 0, 1) := by decide +kernel
theorem dJ2_charAt_3b067_6 : decode cJ2_charAt_3b067 6 = .ok (.iload_n 1, 1) := by decide +kernel
theorem dJ2_charAt_3b067_7 : decode cJ2_charAt_3b067 7 = .ok (.invokestatic 71, 3) := by decide +kernel
theorem dJ2_charAt_3b067_10 : decode cJ2_charAt_3b067 10 = .ok (.ireturn, 1) := by decide +kernel
theorem dJ2_checkIndex_2214a_0 : decode cJ2_checkIndex_2214a 0 = .ok (.iload_n 0, 1) := by decide +kernel
theorem dJ2_checkIndex_2214a_1 : decode cJ2_checkIndex_2214a 1 = .ok (.aload_n 1, 1) := by decide +kernel
theorem dJ2_checkIndex_2214a_2 : decode cJ2_checkIndex_2214a 2 = .ok (.invokestatic 48, 3) := by decide +kernel
theorem dJ2_checkIndex_2214a_5 : decode cJ2_checkIndex_2214a 5 = .ok (.invokestatic 414, 3) := by decide +kernel
theorem dJ2_checkIndex_2214a_8 : decode cJ2_checkIndex_2214a 8 = .ok (.return_, 1) := by decide +kernel
theorem dJ2_checkBoundsBeginEnd_d044e_0 : decode cJ2_checkBoundsBeginEnd_d044e 0 = .ok (.iload_n 0, 1) := by decide +kernel
theorem dJ2_checkBoundsBeginEnd_d044e_1 : decode cJ2_checkBoundsBeginEnd_d044e 1 = .ok (.iload_n 1, 1) := by decide +kernel
theorem dJ2_checkBoundsBeginEnd_d044e_2 : decode cJ2_checkBoundsBeginEnd_d044e 2 = .ok (.aload_n 2, 1) := by decide +kernel
theorem dJ2_checkBoundsBeginEnd_d044e_3 : decode cJ2_checkBoundsBeginEnd_d044e 3 = .ok (.invokestatic 48, 3) := by decide +kernel
theorem dJ2_checkBoundsBeginEnd_d044e_6 : decode cJ2_checkBoundsBeginEnd_d044e 6 = .ok (.invokestatic 241, 3) := by decide +kernel
theorem dJ2_checkBoundsBeginEnd_d044e_9 : decode cJ2_checkBoundsBeginEnd_d044e 9 = .ok (.return_, 1) := by decide +kernel
theorem dJ3_checkIndex_8e157_0 : decode cJ3_checkIndex_8e157 0 = .ok (.iload_n 0, 1) := by decide +kernel
theorem dJ3_checkIndex_8e157_1 : decode cJ3_checkIndex_8e157 1 = .ok (.ifCond .lt 8, 3) := by decide +kernel
theorem dJ3_checkIndex_8e157_4 : decode cJ3_checkIndex_8e157 4 = .ok (.iload_n 0, 1) := by decide +kernel
theorem dJ3_checkIndex_8e157_5 : decode cJ3_checkIndex_8e157 5 = .ok (.iload_n 1, 1) := by decide +kernel
theorem dJ3_checkIndex_8e157_6 : decode cJ3_checkIndex_8e157 6 = .ok (.if_icmp .lt 10, 3) := by decide +kernel
theorem dJ3_checkIndex_8e157_9 : decode cJ3_checkIndex_8e157 9 = .ok (.aload_n 2, 1) := by decide +kernel
theorem dJ3_checkIndex_8e157_10 : decode cJ3_checkIndex_8e157 10 = .ok (.iload_n 0, 1) := by decide +kernel
theorem dJ3_checkIndex_8e157_11 : decode cJ3_checkIndex_8e157 11 = .ok (.iload_n 1, 1) := by decide +kernel
theorem dJ3_checkIndex_8e157_12 : decode cJ3_checkIndex_8e157 12 = .ok (.invokestatic 95, 3) := by decide +kernel
theorem dJ3_checkIndex_8e157_15 : decode cJ3_checkIndex_8e157 15 = .ok (.athrow, 1) := by decide +kernel
theorem dJ3_checkIndex_8e157_16 : decode cJ3_checkIndex_8e157 16 = .ok (.iload_n 0, 1) := by decide +kernel
theorem dJ3_checkIndex_8e157_17 : decode cJ3_checkIndex_8e157 17 = .ok (.ireturn, 1) := by decide +kernel
theorem dJ3_checkFromToIndex_8c36e_0 : decode cJ3_checkFromToIndex_8c36e 0 = .ok (.iload_n 0, 1) := by decide +kernel
theorem dJ3_checkFromToIndex_8c36e_1 : decode cJ3_checkFromToIndex_8c36e 1 = .ok (.ifCond .lt 13, 3) := by decide +kernel
theorem dJ3_checkFromToIndex_8c36e_4 : decode cJ3_checkFromToIndex_8c36e 4 = .ok (.iload_n 0, 1) := by decide +kernel
theorem dJ3_checkFromToIndex_8c36e_5 : decode cJ3_checkFromToIndex_8c36e 5 = .ok (.iload_n 1, 1) := by decide +kernel
theorem dJ3_checkFromToIndex_8c36e_6 : decode cJ3_checkFromToIndex_8c36e 6 = .ok (.if_icmp .gt 8, 3) := by decide +kernel
theorem dJ3_checkFromToIndex_8c36e_9 : decode cJ3_checkFromToIndex_8c36e 9 = .ok (.iload_n 1, 1) := by decide +kernel
theorem dJ3_checkFromToIndex_8c36e_10 : decode cJ3_checkFromToIndex_8c36e 10 = .ok (.iload_n 2, 1) := by decide +kernel
theorem dJ3_checkFromToIndex_8c36e_11 : decode cJ3_checkFromToIndex_8c36e 11 = .ok (.if_icmp .le 11, 3) := by decide +kernel
theorem dJ3_checkFromToIndex_8c36e_14 : decode cJ3_checkFromToIndex_8c36e 14 = .ok (.aload_n 3, 1) := by decide +kernel
theorem dJ3_checkFromToIndex_8c36e_15 : decode cJ3_checkFromToIndex_8c36e 15 = .ok (.iload_n 0, 1) := by decide +kernel
theorem dJ3_checkFromToIndex_8c36e_16 : decode cJ3_checkFromToIndex_8c36e 16 = .ok (.iload_n 1, 1) := by decide +kernel
theorem dJ3_checkFromToIndex_8c36e_17 : decode cJ3_checkFromToIndex_8c36e 17 = .ok (.iload_n 2, 1) := by decide +kernel
theorem dJ3_checkFromToIndex_8c36e_18 : decode cJ3_checkFromToIndex_8c36e 18 = .ok (.invokestatic 99, 3) := by decide +kernel
theorem dJ3_checkFromToIndex_8c36e_21 : decode cJ3_checkFromToIndex_8c36e 21 = .ok (.athrow, 1) := by decide +kernel
theorem dJ3_checkFromToIndex_8c36e_22 : decode cJ3_checkFromToIndex_8c36e 22 = .ok (.iload_n 0, 1) := by decide +kernel
theorem dJ3_checkFromToIndex_8c36e_23 : decode cJ3_checkFromToIndex_8c36e 23 = .ok (.ireturn, 1) := by decide +kernel
theorem dL_law_0 : decode cL_law 0 = .ok (.new 7, 3) := by decide +kernel
theorem dL_law_3 : decode cL_law 3 = .ok (.dup, 1) := by decide +kernel
theorem dL_law_4 : decode cL_law 4 = .ok (.invokespecial 9, 3) := by decide +kernel
theorem dL_law_7 : decode cL_law 7 = .ok (.astore_n 1, 1) := by decide +kernel
theorem dL_law_8 : decode cL_law 8 = .ok (.new 10, 3) := by decide +kernel
theorem dL_law_11 : decode cL_law 11 = .ok (.dup, 1) := by decide +kernel
theorem dL_law_12 : decode cL_law 12 = .ok (.invokespecial 12, 3) := by decide +kernel
theorem dL_law_15 : decode cL_law 15 = .ok (.astore_n 2, 1) := by decide +kernel
theorem dL_law_16 : decode cL_law 16 = .ok (.iconst 0, 1) := by decide +kernel
theorem dL_law_17 : decode cL_law 17 = .ok (.istore_n 3, 1) := by decide +kernel
theorem dL_law_18 : decode cL_law 18 = .ok (.iload_n 3, 1) := by decide +kernel
theorem dL_law_19 : decode cL_law 19 = .ok (.aload_n 0, 1) := by decide +kernel
theorem dL_law_20 : decode cL_law 20 = .ok (.arraylength, 1) := by decide +kernel
theorem dL_law_21 : decode cL_law 21 = .ok (.iconst 5, 1) := by decide +kernel
theorem dL_law_22 : decode cL_law 22 = .ok (.isub, 1) := by decide +kernel
theorem dL_law_23 : decode cL_law 23 = .ok (.if_icmp .gt 1105, 3) := by decide +kernel
theorem dL_law_26 : decode cL_law 26 = .ok (.aload_n 0, 1) := by decide +kernel
theorem dL_law_27 : decode cL_law 27 = .ok (.iload_n 3, 1) := by decide +kernel
theorem dL_law_28 : decode cL_law 28 = .ok (.iaload, 1) := by decide +kernel
theorem dL_law_29 : decode cL_law 29 = .ok (.bipush 63, 2) := by decide +kernel
theorem dL_law_31 : decode cL_law 31 = .ok (.iand, 1) := by decide +kernel
theorem dL_law_32 : decode cL_law 32 = .ok (.tableswitch 1090 0 35 #[160, 183, 196, 229, 262, 295, 318, 341, 384, 397, 420, 443, 466, 499, 532, 575, 588, 611, 634, 657, 680, 703, 726, 759, 782, 805, 838, 892, 916, 949, 972, 985, 998, 1041, 1054, 1067], 160) := by decide +kernel
theorem dL_law_192 : decode cL_law 192 = .ok (.aload_n 1, 1) := by decide +kernel
theorem dL_law_193 : decode cL_law 193 = .ok (.aload_n 0, 1) := by decide +kernel
theorem dL_law_194 : decode cL_law 194 = .ok (.iload_n 3, 1) := by decide +kernel
theorem dL_law_195 : decode cL_law 195 = .ok (.iconst 1, 1) := by decide +kernel
theorem dL_law_196 : decode cL_law 196 = .ok (.iadd, 1) := by decide +kernel
theorem dL_law_197 : decode cL_law 197 = .ok (.iaload, 1) := by decide +kernel
theorem dL_law_198 : decode cL_law 198 = .ok (.invokevirtual 13, 3) := by decide +kernel
theorem dL_law_201 : decode cL_law 201 = .ok (.aload_n 2, 1) := by decide +kernel
theorem dL_law_202 : decode cL_law 202 = .ok (.aload_n 0, 1) := by decide +kernel
theorem dL_law_203 : decode cL_law 203 = .ok (.iload_n 3, 1) := by decide +kernel
theorem dL_law_204 : decode cL_law 204 = .ok (.iconst 1, 1) := by decide +kernel
theorem dL_law_205 : decode cL_law 205 = .ok (.iadd, 1) := by decide +kernel
theorem dL_law_206 : decode cL_law 206 = .ok (.iaload, 1) := by decide +kernel
theorem dL_law_207 : decode cL_law 207 = .ok (.invokevirtual 17, 3) := by decide +kernel
theorem dL_law_210 : decode cL_law 210 = .ok (.if_icmp .eq 912, 3) := by decide +kernel
theorem dL_law_213 : decode cL_law 213 = .ok (.iconst 0, 1) := by decide +kernel
theorem dL_law_214 : decode cL_law 214 = .ok (.ireturn, 1) := by decide +kernel
theorem dL_law_215 : decode cL_law 215 = .ok (.aload_n 1, 1) := by decide +kernel
theorem dL_law_216 : decode cL_law 216 = .ok (.invokevirtual 18, 3) := by decide +kernel
theorem dL_law_219 : decode cL_law 219 = .ok (.aload_n 2, 1) := by decide +kernel
theorem dL_law_220 : decode cL_law 220 = .ok (.invokevirtual 22, 3) := by decide +kernel
theorem dL_law_223 : decode cL_law 223 = .ok (.if_icmp .eq 899, 3) := by decide +kernel
theorem dL_law_226 : decode cL_law 226 = .ok (.iconst 0, 1) := by decide +kernel
theorem dL_law_227 : decode cL_law 227 = .ok (.ireturn, 1) := by decide +kernel
theorem dL_law_228 : decode cL_law 228 = .ok (.aload_n 1, 1) := by decide +kernel
theorem dL_law_229 : decode cL_law 229 = .ok (.aload_n 0, 1) := by decide +kernel
theorem dL_law_230 : decode cL_law 230 = .ok (.iload_n 3, 1) := by decide +kernel
theorem dL_law_231 : decode cL_law 231 = .ok (.iconst 1, 1) := by decide +kernel
theorem dL_law_232 : decode cL_law 232 = .ok (.iadd, 1) := by decide +kernel
theorem dL_law_233 : decode cL_law 233 = .ok (.iaload, 1) := by decide +kernel
theorem dL_law_234 : decode cL_law 234 = .ok (.aload_n 0, 1) := by decide +kernel
theorem dL_law_235 : decode cL_law 235 = .ok (.iload_n 3, 1) := by decide +kernel
theorem dL_law_236 : decode cL_law 236 = .ok (.iconst 2, 1) := by decide +kernel
theorem dL_law_237 : decode cL_law 237 = .ok (.iadd, 1) := by decide +kernel
theorem dL_law_238 : decode cL_law 238 = .ok (.iaload, 1) := by decide +kernel
theorem dL_law_239 : decode cL_law 239 = .ok (.invokevirtual 23, 3) := by decide +kernel
theorem dL_law_242 : decode cL_law 242 = .ok (.aload_n 2, 1) := by decide +kernel
theorem dL_law_243 : decode cL_law 243 = .ok (.aload_n 0, 1) := by decide +kernel
theorem dL_law_244 : decode cL_law 244 = .ok (.iload_n 3, 1) := by decide +kernel
theorem dL_law_245 : decode cL_law 245 = .ok (.iconst 1, 1) := by decide +kernel
theorem dL_law_246 : decode cL_law 246 = .ok (.iadd, 1) := by decide +kernel
theorem dL_law_247 : decode cL_law 247 = .ok (.iaload, 1) := by decide +kernel
theorem dL_law_248 : decode cL_law 248 = .ok (.aload_n 0, 1) := by decide +kernel
theorem dL_law_249 : decode cL_law 249 = .ok (.iload_n 3, 1) := by decide +kernel
theorem dL_law_250 : decode cL_law 250 = .ok (.iconst 2, 1) := by decide +kernel
theorem dL_law_251 : decode cL_law 251 = .ok (.iadd, 1) := by decide +kernel
theorem dL_law_252 : decode cL_law 252 = .ok (.iaload, 1) := by decide +kernel
theorem dL_law_253 : decode cL_law 253 = .ok (.invokevirtual 27, 3) := by decide +kernel
theorem dL_law_256 : decode cL_law 256 = .ok (.if_icmp .eq 866, 3) := by decide +kernel
theorem dL_law_259 : decode cL_law 259 = .ok (.iconst 0, 1) := by decide +kernel
theorem dL_law_260 : decode cL_law 260 = .ok (.ireturn, 1) := by decide +kernel
theorem dL_law_261 : decode cL_law 261 = .ok (.aload_n 1, 1) := by decide +kernel
theorem dL_law_262 : decode cL_law 262 = .ok (.aload_n 0, 1) := by decide +kernel
theorem dL_law_263 : decode cL_law 263 = .ok (.iload_n 3, 1) := by decide +kernel
theorem dL_law_264 : decode cL_law 264 = .ok (.iconst 1, 1) := by decide +kernel
theorem dL_law_265 : decode cL_law 265 = .ok (.iadd, 1) := by decide +kernel
theorem dL_law_266 : decode cL_law 266 = .ok (.iaload, 1) := by decide +kernel
theorem dL_law_267 : decode cL_law 267 = .ok (.aload_n 0, 1) := by decide +kernel
theorem dL_law_268 : decode cL_law 268 = .ok (.iload_n 3, 1) := by decide +kernel
theorem dL_law_269 : decode cL_law 269 = .ok (.iconst 2, 1) := by decide +kernel
theorem dL_law_270 : decode cL_law 270 = .ok (.iadd, 1) := by decide +kernel
theorem dL_law_271 : decode cL_law 271 = .ok (.iaload, 1) := by decide +kernel
theorem dL_law_272 : decode cL_law 272 = .ok (.invokevirtual 28, 3) := by decide +kernel
theorem dL_law_275 : decode cL_law 275 = .ok (.aload_n 2, 1) := by decide +kernel
theorem dL_law_276 : decode cL_law 276 = .ok (.aload_n 0, 1) := by decide +kernel
theorem dL_law_277 : decode cL_law 277 = .ok (.iload_n 3, 1) := by decide +kernel
theorem dL_law_278 : decode cL_law 278 = .ok (.iconst 1, 1) := by decide +kernel
theorem dL_law_279 : decode cL_law 279 = .ok (.iadd, 1) := by decide +kernel
theorem dL_law_280 : decode cL_law 280 = .ok (.iaload, 1) := by decide +kernel
theorem dL_law_281 : decode cL_law 281 = .ok (.aload_n 0, 1) := by decide +kernel
theorem dL_law_282 : decode cL_law 282 = .ok (.iload_n 3, 1) := by decide +kernel
theorem dL_law_283 : decode cL_law 283 = .ok (.iconst 2, 1) := by decide +kernel
theorem dL_law_284 : decode cL_law 284 = .ok (.iadd, 1) := by decide +kernel
theorem dL_law_285 : decode cL_law 285 = .ok (.iaload, 1) := by decide +kernel
theorem dL_law_286 : decode cL_law 286 = .ok (.invokevirtual 31, 3) := by decide +kernel
theorem dL_law_289 : decode cL_law 289 = .ok (.if_icmp .eq 833, 3) := by decide +kernel
theorem dL_law_292 : decode cL_law 292 = .ok (.iconst 0, 1) := by decide +kernel
theorem dL_law_293 : decode cL_law 293 = .ok (.ireturn, 1) := by decide +kernel
theorem dL_law_294 : decode cL_law 294 = .ok (.aload_n 1, 1) := by decide +kernel
theorem dL_law_295 : decode cL_law 295 = .ok (.aload_n 0, 1) := by decide +kernel
theorem dL_law_296 : decode cL_law 296 = .ok (.iload_n 3, 1) := by decide +kernel
theorem dL_law_297 : decode cL_law 297 = .ok (.iconst 1, 1) := by decide +kernel
theorem dL_law_298 : decode cL_law 298 = .ok (.iadd, 1) := by decide +kernel
theorem dL_law_299 : decode cL_law 299 = .ok (.iaload, 1) := by decide +kernel
theorem dL_law_300 : decode cL_law 300 = .ok (.aload_n 0, 1) := by decide +kernel
theorem dL_law_301 : decode cL_law 301 = .ok (.iload_n 3, 1) := by decide +kernel
theorem dL_law_302 : decode cL_law 302 = .ok (.iconst 2, 1) := by decide +kernel
theorem dL_law_303 : decode cL_law 303 = .ok (.iadd, 1) := by decide +kernel
theorem dL_law_304 : decode cL_law 304 = .ok (.iaload, 1) := by decide +kernel
theorem dL_law_305 : decode cL_law 305 = .ok (.invokevirtual 32, 3) := by decide +kernel
theorem dL_law_308 : decode cL_law 308 = .ok (.aload_n 2, 1) := by decide +kernel
theorem dL_law_309 : decode cL_law 309 = .ok (.aload_n 0, 1) := by decide +kernel
theorem dL_law_310 : decode cL_law 310 = .ok (.iload_n 3, 1) := by decide +kernel
theorem dL_law_311 : decode cL_law 311 = .ok (.iconst 1, 1) := by decide +kernel
theorem dL_law_312 : decode cL_law 312 = .ok (.iadd, 1) := by decide +kernel
theorem dL_law_313 : decode cL_law 313 = .ok (.iaload, 1) := by decide +kernel
theorem dL_law_314 : decode cL_law 314 = .ok (.aload_n 0, 1) := by decide +kernel
theorem dL_law_315 : decode cL_law 315 = .ok (.iload_n 3, 1) := by decide +kernel
theorem dL_law_316 : decode cL_law 316 = .ok (.iconst 2, 1) := by decide +kernel
theorem dL_law_317 : decode cL_law 317 = .ok (.iadd, 1) := by decide +kernel
theorem dL_law_318 : decode cL_law 318 = .ok (.iaload, 1) := by decide +kernel
theorem dL_law_319 : decode cL_law 319 = .ok (.invokevirtual 35, 3) := by decide +kernel
theorem dL_law_322 : decode cL_law 322 = .ok (.if_icmp .eq 800, 3) := by decide +kernel
theorem dL_law_325 : decode cL_law 325 = .ok (.iconst 0, 1) := by decide +kernel
theorem dL_law_326 : decode cL_law 326 = .ok (.ireturn, 1) := by decide +kernel
theorem dL_law_327 : decode cL_law 327 = .ok (.aload_n 1, 1) := by decide +kernel
theorem dL_law_328 : decode cL_law 328 = .ok (.aload_n 0, 1) := by decide +kernel
theorem dL_law_329 : decode cL_law 329 = .ok (.iload_n 3, 1) := by decide +kernel
theorem dL_law_330 : decode cL_law 330 = .ok (.iconst 1, 1) := by decide +kernel
theorem dL_law_331 : decode cL_law 331 = .ok (.iadd, 1) := by decide +kernel
theorem dL_law_332 : decode cL_law 332 = .ok (.iaload, 1) := by decide +kernel
theorem dL_law_333 : decode cL_law 333 = .ok (.invokevirtual 36, 3) := by decide +kernel
theorem dL_law_336 : decode cL_law 336 = .ok (.aload_n 2, 1) := by decide +kernel
theorem dL_law_337 : decode cL_law 337 = .ok (.aload_n 0, 1) := by decide +kernel
theorem dL_law_338 : decode cL_law 338 = .ok (.iload_n 3, 1) := by decide +kernel
theorem dL_law_339 : decode cL_law 339 = .ok (.iconst 1, 1) := by decide +kernel
theorem dL_law_340 : decode cL_law 340 = .ok (.iadd, 1) := by decide +kernel
theorem dL_law_341 : decode cL_law 341 = .ok (.iaload, 1) := by decide +kernel
theorem dL_law_342 : decode cL_law 342 = .ok (.invokevirtual 39, 3) := by decide +kernel
theorem dL_law_345 : decode cL_law 345 = .ok (.if_icmp .eq 777, 3) := by decide +kernel
theorem dL_law_348 : decode cL_law 348 = .ok (.iconst 0, 1) := by decide +kernel
theorem dL_law_349 : decode cL_law 349 = .ok (.ireturn, 1) := by decide +kernel
theorem dL_law_350 : decode cL_law 350 = .ok (.aload_n 1, 1) := by decide +kernel
theorem dL_law_351 : decode cL_law 351 = .ok (.aload_n 0, 1) := by decide +kernel
theorem dL_law_352 : decode cL_law 352 = .ok (.iload_n 3, 1) := by decide +kernel
theorem dL_law_353 : decode cL_law 353 = .ok (.iconst 1, 1) := by decide +kernel
theorem dL_law_354 : decode cL_law 354 = .ok (.iadd, 1) := by decide +kernel
theorem dL_law_355 : decode cL_law 355 = .ok (.iaload, 1) := by decide +kernel
theorem dL_law_356 : decode cL_law 356 = .ok (.invokevirtual 40, 3) := by decide +kernel
theorem dL_law_359 : decode cL_law 359 = .ok (.aload_n 2, 1) := by decide +kernel
theorem dL_law_360 : decode cL_law 360 = .ok (.aload_n 0, 1) := by decide +kernel
theorem dL_law_361 : decode cL_law 361 = .ok (.iload_n 3, 1) := by decide +kernel
theorem dL_law_362 : decode cL_law 362 = .ok (.iconst 1, 1) := by decide +kernel
theorem dL_law_363 : decode cL_law 363 = .ok (.iadd, 1) := by decide +kernel
theorem dL_law_364 : decode cL_law 364 = .ok (.iaload, 1) := by decide +kernel
theorem dL_law_365 : decode cL_law 365 = .ok (.invokevirtual 43, 3) := by decide +kernel
theorem dL_law_368 : decode cL_law 368 = .ok (.if_icmp .eq 754, 3) := by decide +kernel
theorem dL_law_371 : decode cL_law 371 = .ok (.iconst 0, 1) := by decide +kernel
theorem dL_law_372 : decode cL_law 372 = .ok (.ireturn, 1) := by decide +kernel
theorem dL_law_373 : decode cL_law 373 = .ok (.aload_n 1, 1) := by decide +kernel
theorem dL_law_374 : decode cL_law 374 = .ok (.aload_n 0, 1) := by decide +kernel
theorem dL_law_375 : decode cL_law 375 = .ok (.iload_n 3, 1) := by decide +kernel
theorem dL_law_376 : decode cL_law 376 = .ok (.iconst 1, 1) := by decide +kernel
theorem dL_law_377 : decode cL_law 377 = .ok (.iadd, 1) := by decide +kernel
theorem dL_law_378 : decode cL_law 378 = .ok (.iaload, 1) := by decide +kernel
theorem dL_law_379 : decode cL_law 379 = .ok (.aload_n 0, 1) := by decide +kernel
theorem dL_law_380 : decode cL_law 380 = .ok (.iload_n 3, 1) := by decide +kernel
theorem dL_law_381 : decode cL_law 381 = .ok (.iconst 2, 1) := by decide +kernel
theorem dL_law_382 : decode cL_law 382 = .ok (.iadd, 1) := by decide +kernel
theorem dL_law_383 : decode cL_law 383 = .ok (.iaload, 1) := by decide +kernel
theorem dL_law_384 : decode cL_law 384 = .ok (.aload_n 0, 1) := by decide +kernel
theorem dL_law_385 : decode cL_law 385 = .ok (.iload_n 3, 1) := by decide +kernel
theorem dL_law_386 : decode cL_law 386 = .ok (.iconst 3, 1) := by decide +kernel
theorem dL_law_387 : decode cL_law 387 = .ok (.iadd, 1) := by decide +kernel
theorem dL_law_388 : decode cL_law 388 = .ok (.iaload, 1) := by decide +kernel
theorem dL_law_389 : decode cL_law 389 = .ok (.invokevirtual 44, 3) := by decide +kernel
theorem dL_law_392 : decode cL_law 392 = .ok (.aload_n 2, 1) := by decide +kernel
theorem dL_law_393 : decode cL_law 393 = .ok (.aload_n 0, 1) := by decide +kernel
theorem dL_law_394 : decode cL_law 394 = .ok (.iload_n 3, 1) := by decide +kernel
theorem dL_law_395 : decode cL_law 395 = .ok (.iconst 1, 1) := by decide +kernel
theorem dL_law_396 : decode cL_law 396 = .ok (.iadd, 1) := by decide +kernel
theorem dL_law_397 : decode cL_law 397 = .ok (.iaload, 1) := by decide +kernel
theorem dL_law_398 : decode cL_law 398 = .ok (.aload_n 0, 1) := by decide +kernel
theorem dL_law_399 : decode cL_law 399 = .ok (.iload_n 3, 1) := by decide +kernel
theorem dL_law_400 : decode cL_law 400 = .ok (.iconst 2, 1) := by decide +kernel
theorem dL_law_401 : decode cL_law 401 = .ok (.iadd, 1) := by decide +kernel
theorem dL_law_402 : decode cL_law 402 = .ok (.iaload, 1) := by decide +kernel
theorem dL_law_403 : decode cL_law 403 = .ok (.aload_n 0, 1) := by decide +kernel
theorem dL_law_404 : decode cL_law 404 = .ok (.iload_n 3, 1) := by decide +kernel
theorem dL_law_405 : decode cL_law 405 = .ok (.iconst 3, 1) := by decide +kernel
theorem dL_law_406 : decode cL_law 406 = .ok (.iadd, 1) := by decide +kernel
theorem dL_law_407 : decode cL_law 407 = .ok (.iaload, 1) := by decide +kernel
theorem dL_law_408 : decode cL_law 408 = .ok (.invokevirtual 48, 3) := by decide +kernel
theorem dL_law_411 : decode cL_law 411 = .ok (.if_icmp .eq 711, 3) := by decide +kernel
theorem dL_law_414 : decode cL_law 414 = .ok (.iconst 0, 1) := by decide +kernel
theorem dL_law_415 : decode cL_law 415 = .ok (.ireturn, 1) := by decide +kernel
theorem dL_law_416 : decode cL_law 416 = .ok (.aload_n 1, 1) := by decide +kernel
theorem dL_law_417 : decode cL_law 417 = .ok (.invokevirtual 49, 3) := by decide +kernel
theorem dL_law_420 : decode cL_law 420 = .ok (.aload_n 2, 1) := by decide +kernel
theorem dL_law_421 : decode cL_law 421 = .ok (.invokevirtual 52, 3) := by decide +kernel
theorem dL_law_424 : decode cL_law 424 = .ok (.if_icmp .eq 698, 3) := by decide +kernel
theorem dL_law_427 : decode cL_law 427 = .ok (.iconst 0, 1) := by decide +kernel
theorem dL_law_428 : decode cL_law 428 = .ok (.ireturn, 1) := by decide +kernel
theorem dL_law_429 : decode cL_law 429 = .ok (.aload_n 1, 1) := by decide +kernel
theorem dL_law_430 : decode cL_law 430 = .ok (.aload_n 0, 1) := by decide +kernel
theorem dL_law_431 : decode cL_law 431 = .ok (.iload_n 3, 1) := by decide +kernel
theorem dL_law_432 : decode cL_law 432 = .ok (.iconst 1, 1) := by decide +kernel
theorem dL_law_433 : decode cL_law 433 = .ok (.iadd, 1) := by decide +kernel
theorem dL_law_434 : decode cL_law 434 = .ok (.iaload, 1) := by decide +kernel
theorem dL_law_435 : decode cL_law 435 = .ok (.invokevirtual 53, 3) := by decide +kernel
theorem dL_law_438 : decode cL_law 438 = .ok (.aload_n 2, 1) := by decide +kernel
theorem dL_law_439 : decode cL_law 439 = .ok (.aload_n 0, 1) := by decide +kernel
theorem dL_law_440 : decode cL_law 440 = .ok (.iload_n 3, 1) := by decide +kernel
theorem dL_law_441 : decode cL_law 441 = .ok (.iconst 1, 1) := by decide +kernel
theorem dL_law_442 : decode cL_law 442 = .ok (.iadd, 1) := by decide +kernel
theorem dL_law_443 : decode cL_law 443 = .ok (.iaload, 1) := by decide +kernel
theorem dL_law_444 : decode cL_law 444 = .ok (.invokevirtual 56, 3) := by decide +kernel
theorem dL_law_447 : decode cL_law 447 = .ok (.if_icmp .eq 675, 3) := by decide +kernel
theorem dL_law_450 : decode cL_law 450 = .ok (.iconst 0, 1) := by decide +kernel
theorem dL_law_451 : decode cL_law 451 = .ok (.ireturn, 1) := by decide +kernel
theorem dL_law_452 : decode cL_law 452 = .ok (.aload_n 1, 1) := by decide +kernel
theorem dL_law_453 : decode cL_law 453 = .ok (.aload_n 0, 1) := by decide +kernel
theorem dL_law_454 : decode cL_law 454 = .ok (.iload_n 3, 1) := by decide +kernel
theorem dL_law_455 : decode cL_law 455 = .ok (.iconst 1, 1) := by decide +kernel
theorem dL_law_456 : decode cL_law 456 = .ok (.iadd, 1) := by decide +kernel
theorem dL_law_457 : decode cL_law 457 = .ok (.iaload, 1) := by decide +kernel
theorem dL_law_458 : decode cL_law 458 = .ok (.invokevirtual 57, 3) := by decide +kernel
theorem dL_law_461 : decode cL_law 461 = .ok (.aload_n 2, 1) := by decide +kernel
theorem dL_law_462 : decode cL_law 462 = .ok (.aload_n 0, 1) := by decide +kernel
theorem dL_law_463 : decode cL_law 463 = .ok (.iload_n 3, 1) := by decide +kernel
theorem dL_law_464 : decode cL_law 464 = .ok (.iconst 1, 1) := by decide +kernel
theorem dL_law_465 : decode cL_law 465 = .ok (.iadd, 1) := by decide +kernel
theorem dL_law_466 : decode cL_law 466 = .ok (.iaload, 1) := by decide +kernel
theorem dL_law_467 : decode cL_law 467 = .ok (.invokevirtual 60, 3) := by decide +kernel
theorem dL_law_470 : decode cL_law 470 = .ok (.if_icmp .eq 652, 3) := by decide +kernel
theorem dL_law_473 : decode cL_law 473 = .ok (.iconst 0, 1) := by decide +kernel
theorem dL_law_474 : decode cL_law 474 = .ok (.ireturn, 1) := by decide +kernel
theorem dL_law_475 : decode cL_law 475 = .ok (.aload_n 1, 1) := by decide +kernel
theorem dL_law_476 : decode cL_law 476 = .ok (.aload_n 0, 1) := by decide +kernel
theorem dL_law_477 : decode cL_law 477 = .ok (.iload_n 3, 1) := by decide +kernel
theorem dL_law_478 : decode cL_law 478 = .ok (.iconst 1, 1) := by decide +kernel
theorem dL_law_479 : decode cL_law 479 = .ok (.iadd, 1) := by decide +kernel
theorem dL_law_480 : decode cL_law 480 = .ok (.iaload, 1) := by decide +kernel
theorem dL_law_481 : decode cL_law 481 = .ok (.invokevirtual 61, 3) := by decide +kernel
theorem dL_law_484 : decode cL_law 484 = .ok (.aload_n 2, 1) := by decide +kernel
theorem dL_law_485 : decode cL_law 485 = .ok (.aload_n 0, 1) := by decide +kernel
theorem dL_law_486 : decode cL_law 486 = .ok (.iload_n 3, 1) := by decide +kernel
theorem dL_law_487 : decode cL_law 487 = .ok (.iconst 1, 1) := by decide +kernel
theorem dL_law_488 : decode cL_law 488 = .ok (.iadd, 1) := by decide +kernel
theorem dL_law_489 : decode cL_law 489 = .ok (.iaload, 1) := by decide +kernel
theorem dL_law_490 : decode cL_law 490 = .ok (.invokevirtual 64, 3) := by decide +kernel
theorem dL_law_493 : decode cL_law 493 = .ok (.if_icmp .eq 629, 3) := by decide +kernel
theorem dL_law_496 : decode cL_law 496 = .ok (.iconst 0, 1) := by decide +kernel
theorem dL_law_497 : decode cL_law 497 = .ok (.ireturn, 1) := by decide +kernel
theorem dL_law_498 : decode cL_law 498 = .ok (.aload_n 1, 1) := by decide +kernel
theorem dL_law_499 : decode cL_law 499 = .ok (.aload_n 0, 1) := by decide +kernel
theorem dL_law_500 : decode cL_law 500 = .ok (.iload_n 3, 1) := by decide +kernel
theorem dL_law_501 : decode cL_law 501 = .ok (.iconst 1, 1) := by decide +kernel
theorem dL_law_502 : decode cL_law 502 = .ok (.iadd, 1) := by decide +kernel
theorem dL_law_503 : decode cL_law 503 = .ok (.iaload, 1) := by decide +kernel
theorem dL_law_504 : decode cL_law 504 = .ok (.aload_n 0, 1) := by decide +kernel
theorem dL_law_505 : decode cL_law 505 = .ok (.iload_n 3, 1) := by decide +kernel
theorem dL_law_506 : decode cL_law 506 = .ok (.iconst 2, 1) := by decide +kernel
theorem dL_law_507 : decode cL_law 507 = .ok (.iadd, 1) := by decide +kernel
theorem dL_law_508 : decode cL_law 508 = .ok (.iaload, 1) := by decide +kernel
theorem dL_law_509 : decode cL_law 509 = .ok (.invokevirtual 65, 3) := by decide +kernel
theorem dL_law_512 : decode cL_law 512 = .ok (.aload_n 2, 1) := by decide +kernel
theorem dL_law_513 : decode cL_law 513 = .ok (.aload_n 0, 1) := by decide +kernel
theorem dL_law_514 : decode cL_law 514 = .ok (.iload_n 3, 1) := by decide +kernel
theorem dL_law_515 : decode cL_law 515 = .ok (.iconst 1, 1) := by decide +kernel
theorem dL_law_516 : decode cL_law 516 = .ok (.iadd, 1) := by decide +kernel
theorem dL_law_517 : decode cL_law 517 = .ok (.iaload, 1) := by decide +kernel
theorem dL_law_518 : decode cL_law 518 = .ok (.aload_n 0, 1) := by decide +kernel
theorem dL_law_519 : decode cL_law 519 = .ok (.iload_n 3, 1) := by decide +kernel
theorem dL_law_520 : decode cL_law 520 = .ok (.iconst 2, 1) := by decide +kernel
theorem dL_law_521 : decode cL_law 521 = .ok (.iadd, 1) := by decide +kernel
theorem dL_law_522 : decode cL_law 522 = .ok (.iaload, 1) := by decide +kernel
theorem dL_law_523 : decode cL_law 523 = .ok (.invokevirtual 68, 3) := by decide +kernel
theorem dL_law_526 : decode cL_law 526 = .ok (.if_icmp .eq 596, 3) := by decide +kernel
theorem dL_law_529 : decode cL_law 529 = .ok (.iconst 0, 1) := by decide +kernel
theorem dL_law_530 : decode cL_law 530 = .ok (.ireturn, 1) := by decide +kernel
theorem dL_law_531 : decode cL_law 531 = .ok (.aload_n 1, 1) := by decide +kernel
theorem dL_law_532 : decode cL_law 532 = .ok (.aload_n 0, 1) := by decide +kernel
theorem dL_law_533 : decode cL_law 533 = .ok (.iload_n 3, 1) := by decide +kernel
theorem dL_law_534 : decode cL_law 534 = .ok (.iconst 1, 1) := by decide +kernel
theorem dL_law_535 : decode cL_law 535 = .ok (.iadd, 1) := by decide +kernel
theorem dL_law_536 : decode cL_law 536 = .ok (.iaload, 1) := by decide +kernel
theorem dL_law_537 : decode cL_law 537 = .ok (.aload_n 0, 1) := by decide +kernel
theorem dL_law_538 : decode cL_law 538 = .ok (.iload_n 3, 1) := by decide +kernel
theorem dL_law_539 : decode cL_law 539 = .ok (.iconst 2, 1) := by decide +kernel
theorem dL_law_540 : decode cL_law 540 = .ok (.iadd, 1) := by decide +kernel
theorem dL_law_541 : decode cL_law 541 = .ok (.iaload, 1) := by decide +kernel
theorem dL_law_542 : decode cL_law 542 = .ok (.invokevirtual 69, 3) := by decide +kernel
theorem dL_law_545 : decode cL_law 545 = .ok (.aload_n 2, 1) := by decide +kernel
theorem dL_law_546 : decode cL_law 546 = .ok (.aload_n 0, 1) := by decide +kernel
theorem dL_law_547 : decode cL_law 547 = .ok (.iload_n 3, 1) := by decide +kernel
theorem dL_law_548 : decode cL_law 548 = .ok (.iconst 1, 1) := by decide +kernel
theorem dL_law_549 : decode cL_law 549 = .ok (.iadd, 1) := by decide +kernel
theorem dL_law_550 : decode cL_law 550 = .ok (.iaload, 1) := by decide +kernel
theorem dL_law_551 : decode cL_law 551 = .ok (.aload_n 0, 1) := by decide +kernel
theorem dL_law_552 : decode cL_law 552 = .ok (.iload_n 3, 1) := by decide +kernel
theorem dL_law_553 : decode cL_law 553 = .ok (.iconst 2, 1) := by decide +kernel
theorem dL_law_554 : decode cL_law 554 = .ok (.iadd, 1) := by decide +kernel
theorem dL_law_555 : decode cL_law 555 = .ok (.iaload, 1) := by decide +kernel
theorem dL_law_556 : decode cL_law 556 = .ok (.invokevirtual 72, 3) := by decide +kernel
theorem dL_law_559 : decode cL_law 559 = .ok (.if_icmp .eq 563, 3) := by decide +kernel
theorem dL_law_562 : decode cL_law 562 = .ok (.iconst 0, 1) := by decide +kernel
theorem dL_law_563 : decode cL_law 563 = .ok (.ireturn, 1) := by decide +kernel
theorem dL_law_564 : decode cL_law 564 = .ok (.aload_n 1, 1) := by decide +kernel
theorem dL_law_565 : decode cL_law 565 = .ok (.aload_n 0, 1) := by decide +kernel
theorem dL_law_566 : decode cL_law 566 = .ok (.iload_n 3, 1) := by decide +kernel
theorem dL_law_567 : decode cL_law 567 = .ok (.iconst 1, 1) := by decide +kernel
theorem dL_law_568 : decode cL_law 568 = .ok (.iadd, 1) := by decide +kernel
theorem dL_law_569 : decode cL_law 569 = .ok (.iaload, 1) := by decide +kernel
theorem dL_law_570 : decode cL_law 570 = .ok (.aload_n 0, 1) := by decide +kernel
theorem dL_law_571 : decode cL_law 571 = .ok (.iload_n 3, 1) := by decide +kernel
theorem dL_law_572 : decode cL_law 572 = .ok (.iconst 2, 1) := by decide +kernel
theorem dL_law_573 : decode cL_law 573 = .ok (.iadd, 1) := by decide +kernel
theorem dL_law_574 : decode cL_law 574 = .ok (.iaload, 1) := by decide +kernel
theorem dL_law_575 : decode cL_law 575 = .ok (.aload_n 0, 1) := by decide +kernel
theorem dL_law_576 : decode cL_law 576 = .ok (.iload_n 3, 1) := by decide +kernel
theorem dL_law_577 : decode cL_law 577 = .ok (.iconst 3, 1) := by decide +kernel
theorem dL_law_578 : decode cL_law 578 = .ok (.iadd, 1) := by decide +kernel
theorem dL_law_579 : decode cL_law 579 = .ok (.iaload, 1) := by decide +kernel
theorem dL_law_580 : decode cL_law 580 = .ok (.invokevirtual 73, 3) := by decide +kernel
theorem dL_law_583 : decode cL_law 583 = .ok (.aload_n 2, 1) := by decide +kernel
theorem dL_law_584 : decode cL_law 584 = .ok (.aload_n 0, 1) := by decide +kernel
theorem dL_law_585 : decode cL_law 585 = .ok (.iload_n 3, 1) := by decide +kernel
theorem dL_law_586 : decode cL_law 586 = .ok (.iconst 1, 1) := by decide +kernel
theorem dL_law_587 : decode cL_law 587 = .ok (.iadd, 1) := by decide +kernel
theorem dL_law_588 : decode cL_law 588 = .ok (.iaload, 1) := by decide +kernel
theorem dL_law_589 : decode cL_law 589 = .ok (.aload_n 0, 1) := by decide +kernel
theorem dL_law_590 : decode cL_law 590 = .ok (.iload_n 3, 1) := by decide +kernel
theorem dL_law_591 : decode cL_law 591 = .ok (.iconst 2, 1) := by decide +kernel
theorem dL_law_592 : decode cL_law 592 = .ok (.iadd, 1) := by decide +kernel
theorem dL_law_593 : decode cL_law 593 = .ok (.iaload, 1) := by decide +kernel
theorem dL_law_594 : decode cL_law 594 = .ok (.aload_n 0, 1) := by decide +kernel
theorem dL_law_595 : decode cL_law 595 = .ok (.iload_n 3, 1) := by decide +kernel
theorem dL_law_596 : decode cL_law 596 = .ok (.iconst 3, 1) := by decide +kernel
theorem dL_law_597 : decode cL_law 597 = .ok (.iadd, 1) := by decide +kernel
theorem dL_law_598 : decode cL_law 598 = .ok (.iaload, 1) := by decide +kernel
theorem dL_law_599 : decode cL_law 599 = .ok (.invokevirtual 76, 3) := by decide +kernel
theorem dL_law_602 : decode cL_law 602 = .ok (.if_icmp .eq 520, 3) := by decide +kernel
theorem dL_law_605 : decode cL_law 605 = .ok (.iconst 0, 1) := by decide +kernel
theorem dL_law_606 : decode cL_law 606 = .ok (.ireturn, 1) := by decide +kernel
theorem dL_law_607 : decode cL_law 607 = .ok (.aload_n 1, 1) := by decide +kernel
theorem dL_law_608 : decode cL_law 608 = .ok (.invokevirtual 77, 3) := by decide +kernel
theorem dL_law_611 : decode cL_law 611 = .ok (.aload_n 2, 1) := by decide +kernel
theorem dL_law_612 : decode cL_law 612 = .ok (.invokevirtual 80, 3) := by decide +kernel
theorem dL_law_615 : decode cL_law 615 = .ok (.if_icmp .eq 507, 3) := by decide +kernel
theorem dL_law_618 : decode cL_law 618 = .ok (.iconst 0, 1) := by decide +kernel
theorem dL_law_619 : decode cL_law 619 = .ok (.ireturn, 1) := by decide +kernel
theorem dL_law_620 : decode cL_law 620 = .ok (.aload_n 1, 1) := by decide +kernel
theorem dL_law_621 : decode cL_law 621 = .ok (.aload_n 0, 1) := by decide +kernel
theorem dL_law_622 : decode cL_law 622 = .ok (.iload_n 3, 1) := by decide +kernel
theorem dL_law_623 : decode cL_law 623 = .ok (.iconst 1, 1) := by decide +kernel
theorem dL_law_624 : decode cL_law 624 = .ok (.iadd, 1) := by decide +kernel
theorem dL_law_625 : decode cL_law 625 = .ok (.iaload, 1) := by decide +kernel
theorem dL_law_626 : decode cL_law 626 = .ok (.invokevirtual 81, 3) := by decide +kernel
theorem dL_law_629 : decode cL_law 629 = .ok (.aload_n 2, 1) := by decide +kernel
theorem dL_law_630 : decode cL_law 630 = .ok (.aload_n 0, 1) := by decide +kernel
theorem dL_law_631 : decode cL_law 631 = .ok (.iload_n 3, 1) := by decide +kernel
theorem dL_law_632 : decode cL_law 632 = .ok (.iconst 1, 1) := by decide +kernel
theorem dL_law_633 : decode cL_law 633 = .ok (.iadd, 1) := by decide +kernel
theorem dL_law_634 : decode cL_law 634 = .ok (.iaload, 1) := by decide +kernel
theorem dL_law_635 : decode cL_law 635 = .ok (.invokevirtual 84, 3) := by decide +kernel
theorem dL_law_638 : decode cL_law 638 = .ok (.if_icmp .eq 484, 3) := by decide +kernel
theorem dL_law_641 : decode cL_law 641 = .ok (.iconst 0, 1) := by decide +kernel
theorem dL_law_642 : decode cL_law 642 = .ok (.ireturn, 1) := by decide +kernel
theorem dL_law_643 : decode cL_law 643 = .ok (.aload_n 1, 1) := by decide +kernel
theorem dL_law_644 : decode cL_law 644 = .ok (.aload_n 0, 1) := by decide +kernel
theorem dL_law_645 : decode cL_law 645 = .ok (.iload_n 3, 1) := by decide +kernel
theorem dL_law_646 : decode cL_law 646 = .ok (.iconst 1, 1) := by decide +kernel
theorem dL_law_647 : decode cL_law 647 = .ok (.iadd, 1) := by decide +kernel
theorem dL_law_648 : decode cL_law 648 = .ok (.iaload, 1) := by decide +kernel
theorem dL_law_649 : decode cL_law 649 = .ok (.invokevirtual 85, 3) := by decide +kernel
theorem dL_law_652 : decode cL_law 652 = .ok (.aload_n 2, 1) := by decide +kernel
theorem dL_law_653 : decode cL_law 653 = .ok (.aload_n 0, 1) := by decide +kernel
theorem dL_law_654 : decode cL_law 654 = .ok (.iload_n 3, 1) := by decide +kernel
theorem dL_law_655 : decode cL_law 655 = .ok (.iconst 1, 1) := by decide +kernel
theorem dL_law_656 : decode cL_law 656 = .ok (.iadd, 1) := by decide +kernel
theorem dL_law_657 : decode cL_law 657 = .ok (.iaload, 1) := by decide +kernel
theorem dL_law_658 : decode cL_law 658 = .ok (.invokevirtual 88, 3) := by decide +kernel
theorem dL_law_661 : decode cL_law 661 = .ok (.if_icmp .eq 461, 3) := by decide +kernel
theorem dL_law_664 : decode cL_law 664 = .ok (.iconst 0, 1) := by decide +kernel
theorem dL_law_665 : decode cL_law 665 = .ok (.ireturn, 1) := by decide +kernel
theorem dL_law_666 : decode cL_law 666 = .ok (.aload_n 1, 1) := by decide +kernel
theorem dL_law_667 : decode cL_law 667 = .ok (.aload_n 0, 1) := by decide +kernel
theorem dL_law_668 : decode cL_law 668 = .ok (.iload_n 3, 1) := by decide +kernel
theorem dL_law_669 : decode cL_law 669 = .ok (.iconst 1, 1) := by decide +kernel
theorem dL_law_670 : decode cL_law 670 = .ok (.iadd, 1) := by decide +kernel
theorem dL_law_671 : decode cL_law 671 = .ok (.iaload, 1) := by decide +kernel
theorem dL_law_672 : decode cL_law 672 = .ok (.invokevirtual 89, 3) := by decide +kernel
theorem dL_law_675 : decode cL_law 675 = .ok (.aload_n 2, 1) := by decide +kernel
theorem dL_law_676 : decode cL_law 676 = .ok (.aload_n 0, 1) := by decide +kernel
theorem dL_law_677 : decode cL_law 677 = .ok (.iload_n 3, 1) := by decide +kernel
theorem dL_law_678 : decode cL_law 678 = .ok (.iconst 1, 1) := by decide +kernel
theorem dL_law_679 : decode cL_law 679 = .ok (.iadd, 1) := by decide +kernel
theorem dL_law_680 : decode cL_law 680 = .ok (.iaload, 1) := by decide +kernel
theorem dL_law_681 : decode cL_law 681 = .ok (.invokevirtual 92, 3) := by decide +kernel
theorem dL_law_684 : decode cL_law 684 = .ok (.if_icmp .eq 438, 3) := by decide +kernel
theorem dL_law_687 : decode cL_law 687 = .ok (.iconst 0, 1) := by decide +kernel
theorem dL_law_688 : decode cL_law 688 = .ok (.ireturn, 1) := by decide +kernel
theorem dL_law_689 : decode cL_law 689 = .ok (.aload_n 1, 1) := by decide +kernel
theorem dL_law_690 : decode cL_law 690 = .ok (.aload_n 0, 1) := by decide +kernel
theorem dL_law_691 : decode cL_law 691 = .ok (.iload_n 3, 1) := by decide +kernel
theorem dL_law_692 : decode cL_law 692 = .ok (.iconst 1, 1) := by decide +kernel
theorem dL_law_693 : decode cL_law 693 = .ok (.iadd, 1) := by decide +kernel
theorem dL_law_694 : decode cL_law 694 = .ok (.iaload, 1) := by decide +kernel
theorem dL_law_695 : decode cL_law 695 = .ok (.invokevirtual 93, 3) := by decide +kernel
theorem dL_law_698 : decode cL_law 698 = .ok (.aload_n 2, 1) := by decide +kernel
theorem dL_law_699 : decode cL_law 699 = .ok (.aload_n 0, 1) := by decide +kernel
theorem dL_law_700 : decode cL_law 700 = .ok (.iload_n 3, 1) := by decide +kernel
theorem dL_law_701 : decode cL_law 701 = .ok (.iconst 1, 1) := by decide +kernel
theorem dL_law_702 : decode cL_law 702 = .ok (.iadd, 1) := by decide +kernel
theorem dL_law_703 : decode cL_law 703 = .ok (.iaload, 1) := by decide +kernel
theorem dL_law_704 : decode cL_law 704 = .ok (.invokevirtual 96, 3) := by decide +kernel
theorem dL_law_707 : decode cL_law 707 = .ok (.if_icmp .eq 415, 3) := by decide +kernel
theorem dL_law_710 : decode cL_law 710 = .ok (.iconst 0, 1) := by decide +kernel
theorem dL_law_711 : decode cL_law 711 = .ok (.ireturn, 1) := by decide +kernel
theorem dL_law_712 : decode cL_law 712 = .ok (.aload_n 1, 1) := by decide +kernel
theorem dL_law_713 : decode cL_law 713 = .ok (.aload_n 0, 1) := by decide +kernel
theorem dL_law_714 : decode cL_law 714 = .ok (.iload_n 3, 1) := by decide +kernel
theorem dL_law_715 : decode cL_law 715 = .ok (.iconst 1, 1) := by decide +kernel
theorem dL_law_716 : decode cL_law 716 = .ok (.iadd, 1) := by decide +kernel
theorem dL_law_717 : decode cL_law 717 = .ok (.iaload, 1) := by decide +kernel
theorem dL_law_718 : decode cL_law 718 = .ok (.invokevirtual 97, 3) := by decide +kernel
theorem dL_law_721 : decode cL_law 721 = .ok (.aload_n 2, 1) := by decide +kernel
theorem dL_law_722 : decode cL_law 722 = .ok (.aload_n 0, 1) := by decide +kernel
theorem dL_law_723 : decode cL_law 723 = .ok (.iload_n 3, 1) := by decide +kernel
theorem dL_law_724 : decode cL_law 724 = .ok (.iconst 1, 1) := by decide +kernel
theorem dL_law_725 : decode cL_law 725 = .ok (.iadd, 1) := by decide +kernel
theorem dL_law_726 : decode cL_law 726 = .ok (.iaload, 1) := by decide +kernel
theorem dL_law_727 : decode cL_law 727 = .ok (.invokevirtual 100, 3) := by decide +kernel
theorem dL_law_730 : decode cL_law 730 = .ok (.if_icmp .eq 392, 3) := by decide +kernel
theorem dL_law_733 : decode cL_law 733 = .ok (.iconst 0, 1) := by decide +kernel
theorem dL_law_734 : decode cL_law 734 = .ok (.ireturn, 1) := by decide +kernel
theorem dL_law_735 : decode cL_law 735 = .ok (.aload_n 1, 1) := by decide +kernel
theorem dL_law_736 : decode cL_law 736 = .ok (.aload_n 0, 1) := by decide +kernel
theorem dL_law_737 : decode cL_law 737 = .ok (.iload_n 3, 1) := by decide +kernel
theorem dL_law_738 : decode cL_law 738 = .ok (.iconst 1, 1) := by decide +kernel
theorem dL_law_739 : decode cL_law 739 = .ok (.iadd, 1) := by decide +kernel
theorem dL_law_740 : decode cL_law 740 = .ok (.iaload, 1) := by decide +kernel
theorem dL_law_741 : decode cL_law 741 = .ok (.invokevirtual 101, 3) := by decide +kernel
theorem dL_law_744 : decode cL_law 744 = .ok (.aload_n 2, 1) := by decide +kernel
theorem dL_law_745 : decode cL_law 745 = .ok (.aload_n 0, 1) := by decide +kernel
theorem dL_law_746 : decode cL_law 746 = .ok (.iload_n 3, 1) := by decide +kernel
theorem dL_law_747 : decode cL_law 747 = .ok (.iconst 1, 1) := by decide +kernel
theorem dL_law_748 : decode cL_law 748 = .ok (.iadd, 1) := by decide +kernel
theorem dL_law_749 : decode cL_law 749 = .ok (.iaload, 1) := by decide +kernel
theorem dL_law_750 : decode cL_law 750 = .ok (.invokevirtual 104, 3) := by decide +kernel
theorem dL_law_753 : decode cL_law 753 = .ok (.if_icmp .eq 369, 3) := by decide +kernel
theorem dL_law_756 : decode cL_law 756 = .ok (.iconst 0, 1) := by decide +kernel
theorem dL_law_757 : decode cL_law 757 = .ok (.ireturn, 1) := by decide +kernel
theorem dL_law_758 : decode cL_law 758 = .ok (.aload_n 1, 1) := by decide +kernel
theorem dL_law_759 : decode cL_law 759 = .ok (.aload_n 0, 1) := by decide +kernel
theorem dL_law_760 : decode cL_law 760 = .ok (.iload_n 3, 1) := by decide +kernel
theorem dL_law_761 : decode cL_law 761 = .ok (.iconst 1, 1) := by decide +kernel
theorem dL_law_762 : decode cL_law 762 = .ok (.iadd, 1) := by decide +kernel
theorem dL_law_763 : decode cL_law 763 = .ok (.iaload, 1) := by decide +kernel
theorem dL_law_764 : decode cL_law 764 = .ok (.aload_n 0, 1) := by decide +kernel
theorem dL_law_765 : decode cL_law 765 = .ok (.iload_n 3, 1) := by decide +kernel
theorem dL_law_766 : decode cL_law 766 = .ok (.iconst 2, 1) := by decide +kernel
theorem dL_law_767 : decode cL_law 767 = .ok (.iadd, 1) := by decide +kernel
theorem dL_law_768 : decode cL_law 768 = .ok (.iaload, 1) := by decide +kernel
theorem dL_law_769 : decode cL_law 769 = .ok (.invokevirtual 105, 3) := by decide +kernel
theorem dL_law_772 : decode cL_law 772 = .ok (.aload_n 2, 1) := by decide +kernel
theorem dL_law_773 : decode cL_law 773 = .ok (.aload_n 0, 1) := by decide +kernel
theorem dL_law_774 : decode cL_law 774 = .ok (.iload_n 3, 1) := by decide +kernel
theorem dL_law_775 : decode cL_law 775 = .ok (.iconst 1, 1) := by decide +kernel
theorem dL_law_776 : decode cL_law 776 = .ok (.iadd, 1) := by decide +kernel
theorem dL_law_777 : decode cL_law 777 = .ok (.iaload, 1) := by decide +kernel
theorem dL_law_778 : decode cL_law 778 = .ok (.aload_n 0, 1) := by decide +kernel
theorem dL_law_779 : decode cL_law 779 = .ok (.iload_n 3, 1) := by decide +kernel
theorem dL_law_780 : decode cL_law 780 = .ok (.iconst 2, 1) := by decide +kernel
theorem dL_law_781 : decode cL_law 781 = .ok (.iadd, 1) := by decide +kernel
theorem dL_law_782 : decode cL_law 782 = .ok (.iaload, 1) := by decide +kernel
theorem dL_law_783 : decode cL_law 783 = .ok (.invokevirtual 108, 3) := by decide +kernel
theorem dL_law_786 : decode cL_law 786 = .ok (.if_icmp .eq 336, 3) := by decide +kernel
theorem dL_law_789 : decode cL_law 789 = .ok (.iconst 0, 1) := by decide +kernel
theorem dL_law_790 : decode cL_law 790 = .ok (.ireturn, 1) := by decide +kernel
theorem dL_law_791 : decode cL_law 791 = .ok (.aload_n 1, 1) := by decide +kernel
theorem dL_law_792 : decode cL_law 792 = .ok (.aload_n 0, 1) := by decide +kernel
theorem dL_law_793 : decode cL_law 793 = .ok (.iload_n 3, 1) := by decide +kernel
theorem dL_law_794 : decode cL_law 794 = .ok (.iconst 1, 1) := by decide +kernel
theorem dL_law_795 : decode cL_law 795 = .ok (.iadd, 1) := by decide +kernel
theorem dL_law_796 : decode cL_law 796 = .ok (.iaload, 1) := by decide +kernel
theorem dL_law_797 : decode cL_law 797 = .ok (.invokevirtual 109, 3) := by decide +kernel
theorem dL_law_800 : decode cL_law 800 = .ok (.aload_n 2, 1) := by decide +kernel
theorem dL_law_801 : decode cL_law 801 = .ok (.aload_n 0, 1) := by decide +kernel
theorem dL_law_802 : decode cL_law 802 = .ok (.iload_n 3, 1) := by decide +kernel
theorem dL_law_803 : decode cL_law 803 = .ok (.iconst 1, 1) := by decide +kernel
theorem dL_law_804 : decode cL_law 804 = .ok (.iadd, 1) := by decide +kernel
theorem dL_law_805 : decode cL_law 805 = .ok (.iaload, 1) := by decide +kernel
theorem dL_law_806 : decode cL_law 806 = .ok (.invokevirtual 112, 3) := by decide +kernel
theorem dL_law_809 : decode cL_law 809 = .ok (.if_icmp .eq 313, 3) := by decide +kernel
theorem dL_law_812 : decode cL_law 812 = .ok (.iconst 0, 1) := by decide +kernel
theorem dL_law_813 : decode cL_law 813 = .ok (.ireturn, 1) := by decide +kernel
theorem dL_law_814 : decode cL_law 814 = .ok (.aload_n 1, 1) := by decide +kernel
theorem dL_law_815 : decode cL_law 815 = .ok (.aload_n 0, 1) := by decide +kernel
theorem dL_law_816 : decode cL_law 816 = .ok (.iload_n 3, 1) := by decide +kernel
theorem dL_law_817 : decode cL_law 817 = .ok (.iconst 1, 1) := by decide +kernel
theorem dL_law_818 : decode cL_law 818 = .ok (.iadd, 1) := by decide +kernel
theorem dL_law_819 : decode cL_law 819 = .ok (.iaload, 1) := by decide +kernel
theorem dL_law_820 : decode cL_law 820 = .ok (.invokevirtual 113, 3) := by decide +kernel
theorem dL_law_823 : decode cL_law 823 = .ok (.aload_n 2, 1) := by decide +kernel
theorem dL_law_824 : decode cL_law 824 = .ok (.aload_n 0, 1) := by decide +kernel
theorem dL_law_825 : decode cL_law 825 = .ok (.iload_n 3, 1) := by decide +kernel
theorem dL_law_826 : decode cL_law 826 = .ok (.iconst 1, 1) := by decide +kernel
theorem dL_law_827 : decode cL_law 827 = .ok (.iadd, 1) := by decide +kernel
theorem dL_law_828 : decode cL_law 828 = .ok (.iaload, 1) := by decide +kernel
theorem dL_law_829 : decode cL_law 829 = .ok (.invokevirtual 116, 3) := by decide +kernel
theorem dL_law_832 : decode cL_law 832 = .ok (.if_icmp .eq 290, 3) := by decide +kernel
theorem dL_law_835 : decode cL_law 835 = .ok (.iconst 0, 1) := by decide +kernel
theorem dL_law_836 : decode cL_law 836 = .ok (.ireturn, 1) := by decide +kernel
theorem dL_law_837 : decode cL_law 837 = .ok (.aload_n 1, 1) := by decide +kernel
theorem dL_law_838 : decode cL_law 838 = .ok (.aload_n 0, 1) := by decide +kernel
theorem dL_law_839 : decode cL_law 839 = .ok (.iload_n 3, 1) := by decide +kernel
theorem dL_law_840 : decode cL_law 840 = .ok (.iconst 1, 1) := by decide +kernel
theorem dL_law_841 : decode cL_law 841 = .ok (.iadd, 1) := by decide +kernel
theorem dL_law_842 : decode cL_law 842 = .ok (.iaload, 1) := by decide +kernel
theorem dL_law_843 : decode cL_law 843 = .ok (.aload_n 0, 1) := by decide +kernel
theorem dL_law_844 : decode cL_law 844 = .ok (.iload_n 3, 1) := by decide +kernel
theorem dL_law_845 : decode cL_law 845 = .ok (.iconst 2, 1) := by decide +kernel
theorem dL_law_846 : decode cL_law 846 = .ok (.iadd, 1) := by decide +kernel
theorem dL_law_847 : decode cL_law 847 = .ok (.iaload, 1) := by decide +kernel
theorem dL_law_848 : decode cL_law 848 = .ok (.invokevirtual 117, 3) := by decide +kernel
theorem dL_law_851 : decode cL_law 851 = .ok (.aload_n 2, 1) := by decide +kernel
theorem dL_law_852 : decode cL_law 852 = .ok (.aload_n 0, 1) := by decide +kernel
theorem dL_law_853 : decode cL_law 853 = .ok (.iload_n 3, 1) := by decide +kernel
theorem dL_law_854 : decode cL_law 854 = .ok (.iconst 1, 1) := by decide +kernel
theorem dL_law_855 : decode cL_law 855 = .ok (.iadd, 1) := by decide +kernel
theorem dL_law_856 : decode cL_law 856 = .ok (.iaload, 1) := by decide +kernel
theorem dL_law_857 : decode cL_law 857 = .ok (.aload_n 0, 1) := by decide +kernel
theorem dL_law_858 : decode cL_law 858 = .ok (.iload_n 3, 1) := by decide +kernel
theorem dL_law_859 : decode cL_law 859 = .ok (.iconst 2, 1) := by decide +kernel
theorem dL_law_860 : decode cL_law 860 = .ok (.iadd, 1) := by decide +kernel
theorem dL_law_861 : decode cL_law 861 = .ok (.iaload, 1) := by decide +kernel
theorem dL_law_862 : decode cL_law 862 = .ok (.invokevirtual 120, 3) := by decide +kernel
theorem dL_law_865 : decode cL_law 865 = .ok (.if_icmp .eq 257, 3) := by decide +kernel
theorem dL_law_868 : decode cL_law 868 = .ok (.iconst 0, 1) := by decide +kernel
theorem dL_law_869 : decode cL_law 869 = .ok (.ireturn, 1) := by decide +kernel
theorem dL_law_870 : decode cL_law 870 = .ok (.aload_n 1, 1) := by decide +kernel
theorem dL_law_871 : decode cL_law 871 = .ok (.aload_n 0, 1) := by decide +kernel
theorem dL_law_872 : decode cL_law 872 = .ok (.iload_n 3, 1) := by decide +kernel
theorem dL_law_873 : decode cL_law 873 = .ok (.iconst 1, 1) := by decide +kernel
theorem dL_law_874 : decode cL_law 874 = .ok (.iadd, 1) := by decide +kernel
theorem dL_law_875 : decode cL_law 875 = .ok (.iaload, 1) := by decide +kernel
theorem dL_law_876 : decode cL_law 876 = .ok (.aload_n 0, 1) := by decide +kernel
theorem dL_law_877 : decode cL_law 877 = .ok (.iload_n 3, 1) := by decide +kernel
theorem dL_law_878 : decode cL_law 878 = .ok (.iconst 2, 1) := by decide +kernel
theorem dL_law_879 : decode cL_law 879 = .ok (.iadd, 1) := by decide +kernel
theorem dL_law_880 : decode cL_law 880 = .ok (.iaload, 1) := by decide +kernel
theorem dL_law_881 : decode cL_law 881 = .ok (.aload_n 0, 1) := by decide +kernel
theorem dL_law_882 : decode cL_law 882 = .ok (.iload_n 3, 1) := by decide +kernel
theorem dL_law_883 : decode cL_law 883 = .ok (.iconst 3, 1) := by decide +kernel
theorem dL_law_884 : decode cL_law 884 = .ok (.iadd, 1) := by decide +kernel
theorem dL_law_885 : decode cL_law 885 = .ok (.iaload, 1) := by decide +kernel
theorem dL_law_886 : decode cL_law 886 = .ok (.aload_n 0, 1) := by decide +kernel
theorem dL_law_887 : decode cL_law 887 = .ok (.iload_n 3, 1) := by decide +kernel
theorem dL_law_888 : decode cL_law 888 = .ok (.iconst 4, 1) := by decide +kernel
theorem dL_law_889 : decode cL_law 889 = .ok (.iadd, 1) := by decide +kernel
theorem dL_law_890 : decode cL_law 890 = .ok (.iaload, 1) := by decide +kernel
theorem dL_law_891 : decode cL_law 891 = .ok (.invokevirtual 121, 3) := by decide +kernel
theorem dL_law_894 : decode cL_law 894 = .ok (.aload_n 2, 1) := by decide +kernel
theorem dL_law_895 : decode cL_law 895 = .ok (.aload_n 0, 1) := by decide +kernel
theorem dL_law_896 : decode cL_law 896 = .ok (.iload_n 3, 1) := by decide +kernel
theorem dL_law_897 : decode cL_law 897 = .ok (.iconst 1, 1) := by decide +kernel
theorem dL_law_898 : decode cL_law 898 = .ok (.iadd, 1) := by decide +kernel
theorem dL_law_899 : decode cL_law 899 = .ok (.iaload, 1) := by decide +kernel
theorem dL_law_900 : decode cL_law 900 = .ok (.aload_n 0, 1) := by decide +kernel
theorem dL_law_901 : decode cL_law 901 = .ok (.iload_n 3, 1) := by decide +kernel
theorem dL_law_902 : decode cL_law 902 = .ok (.iconst 2, 1) := by decide +kernel
theorem dL_law_903 : decode cL_law 903 = .ok (.iadd, 1) := by decide +kernel
theorem dL_law_904 : decode cL_law 904 = .ok (.iaload, 1) := by decide +kernel
theorem dL_law_905 : decode cL_law 905 = .ok (.aload_n 0, 1) := by decide +kernel
theorem dL_law_906 : decode cL_law 906 = .ok (.iload_n 3, 1) := by decide +kernel
theorem dL_law_907 : decode cL_law 907 = .ok (.iconst 3, 1) := by decide +kernel
theorem dL_law_908 : decode cL_law 908 = .ok (.iadd, 1) := by decide +kernel
theorem dL_law_909 : decode cL_law 909 = .ok (.iaload, 1) := by decide +kernel
theorem dL_law_910 : decode cL_law 910 = .ok (.aload_n 0, 1) := by decide +kernel
theorem dL_law_911 : decode cL_law 911 = .ok (.iload_n 3, 1) := by decide +kernel
theorem dL_law_912 : decode cL_law 912 = .ok (.iconst 4, 1) := by decide +kernel
theorem dL_law_913 : decode cL_law 913 = .ok (.iadd, 1) := by decide +kernel
theorem dL_law_914 : decode cL_law 914 = .ok (.iaload, 1) := by decide +kernel
theorem dL_law_915 : decode cL_law 915 = .ok (.invokevirtual 125, 3) := by decide +kernel
theorem dL_law_918 : decode cL_law 918 = .ok (.lcmp, 1) := by decide +kernel
theorem dL_law_919 : decode cL_law 919 = .ok (.ifCond .eq 203, 3) := by decide +kernel
theorem dL_law_922 : decode cL_law 922 = .ok (.iconst 0, 1) := by decide +kernel
theorem dL_law_923 : decode cL_law 923 = .ok (.ireturn, 1) := by decide +kernel
theorem dL_law_924 : decode cL_law 924 = .ok (.aload_n 1, 1) := by decide +kernel
theorem dL_law_925 : decode cL_law 925 = .ok (.aload_n 0, 1) := by decide +kernel
theorem dL_law_926 : decode cL_law 926 = .ok (.iload_n 3, 1) := by decide +kernel
theorem dL_law_927 : decode cL_law 927 = .ok (.iconst 1, 1) := by decide +kernel
theorem dL_law_928 : decode cL_law 928 = .ok (.iadd, 1) := by decide +kernel
theorem dL_law_929 : decode cL_law 929 = .ok (.iaload, 1) := by decide +kernel
theorem dL_law_930 : decode cL_law 930 = .ok (.invokevirtual 126, 3) := by decide +kernel
theorem dL_law_933 : decode cL_law 933 = .ok (.aload_n 2, 1) := by decide +kernel
theorem dL_law_934 : decode cL_law 934 = .ok (.aload_n 0, 1) := by decide +kernel
theorem dL_law_935 : decode cL_law 935 = .ok (.iload_n 3, 1) := by decide +kernel
theorem dL_law_936 : decode cL_law 936 = .ok (.iconst 1, 1) := by decide +kernel
theorem dL_law_937 : decode cL_law 937 = .ok (.iadd, 1) := by decide +kernel
theorem dL_law_938 : decode cL_law 938 = .ok (.iaload, 1) := by decide +kernel
theorem dL_law_939 : decode cL_law 939 = .ok (.invokevirtual 130, 3) := by decide +kernel
theorem dL_law_942 : decode cL_law 942 = .ok (.lcmp, 1) := by decide +kernel
theorem dL_law_943 : decode cL_law 943 = .ok (.ifCond .eq 179, 3) := by decide +kernel
theorem dL_law_946 : decode cL_law 946 = .ok (.iconst 0, 1) := by decide +kernel
theorem dL_law_947 : decode cL_law 947 = .ok (.ireturn, 1) := by decide +kernel
theorem dL_law_948 : decode cL_law 948 = .ok (.aload_n 1, 1) := by decide +kernel
theorem dL_law_949 : decode cL_law 949 = .ok (.aload_n 0, 1) := by decide +kernel
theorem dL_law_950 : decode cL_law 950 = .ok (.iload_n 3, 1) := by decide +kernel
theorem dL_law_951 : decode cL_law 951 = .ok (.iconst 1, 1) := by decide +kernel
theorem dL_law_952 : decode cL_law 952 = .ok (.iadd, 1) := by decide +kernel
theorem dL_law_953 : decode cL_law 953 = .ok (.iaload, 1) := by decide +kernel
theorem dL_law_954 : decode cL_law 954 = .ok (.aload_n 0, 1) := by decide +kernel
theorem dL_law_955 : decode cL_law 955 = .ok (.iload_n 3, 1) := by decide +kernel
theorem dL_law_956 : decode cL_law 956 = .ok (.iconst 2, 1) := by decide +kernel
theorem dL_law_957 : decode cL_law 957 = .ok (.iadd, 1) := by decide +kernel
theorem dL_law_958 : decode cL_law 958 = .ok (.iaload, 1) := by decide +kernel
theorem dL_law_959 : decode cL_law 959 = .ok (.invokevirtual 131, 3) := by decide +kernel
theorem dL_law_962 : decode cL_law 962 = .ok (.aload_n 2, 1) := by decide +kernel
theorem dL_law_963 : decode cL_law 963 = .ok (.aload_n 0, 1) := by decide +kernel
theorem dL_law_964 : decode cL_law 964 = .ok (.iload_n 3, 1) := by decide +kernel
theorem dL_law_965 : decode cL_law 965 = .ok (.iconst 1, 1) := by decide +kernel
theorem dL_law_966 : decode cL_law 966 = .ok (.iadd, 1) := by decide +kernel
theorem dL_law_967 : decode cL_law 967 = .ok (.iaload, 1) := by decide +kernel
theorem dL_law_968 : decode cL_law 968 = .ok (.aload_n 0, 1) := by decide +kernel
theorem dL_law_969 : decode cL_law 969 = .ok (.iload_n 3, 1) := by decide +kernel
theorem dL_law_970 : decode cL_law 970 = .ok (.iconst 2, 1) := by decide +kernel
theorem dL_law_971 : decode cL_law 971 = .ok (.iadd, 1) := by decide +kernel
theorem dL_law_972 : decode cL_law 972 = .ok (.iaload, 1) := by decide +kernel
theorem dL_law_973 : decode cL_law 973 = .ok (.invokevirtual 134, 3) := by decide +kernel
theorem dL_law_976 : decode cL_law 976 = .ok (.if_icmp .eq 146, 3) := by decide +kernel
theorem dL_law_979 : decode cL_law 979 = .ok (.iconst 0, 1) := by decide +kernel
theorem dL_law_980 : decode cL_law 980 = .ok (.ireturn, 1) := by decide +kernel
theorem dL_law_981 : decode cL_law 981 = .ok (.aload_n 1, 1) := by decide +kernel
theorem dL_law_982 : decode cL_law 982 = .ok (.aload_n 0, 1) := by decide +kernel
theorem dL_law_983 : decode cL_law 983 = .ok (.iload_n 3, 1) := by decide +kernel
theorem dL_law_984 : decode cL_law 984 = .ok (.iconst 1, 1) := by decide +kernel
theorem dL_law_985 : decode cL_law 985 = .ok (.iadd, 1) := by decide +kernel
theorem dL_law_986 : decode cL_law 986 = .ok (.iaload, 1) := by decide +kernel
theorem dL_law_987 : decode cL_law 987 = .ok (.invokevirtual 135, 3) := by decide +kernel
theorem dL_law_990 : decode cL_law 990 = .ok (.aload_n 2, 1) := by decide +kernel
theorem dL_law_991 : decode cL_law 991 = .ok (.aload_n 0, 1) := by decide +kernel
theorem dL_law_992 : decode cL_law 992 = .ok (.iload_n 3, 1) := by decide +kernel
theorem dL_law_993 : decode cL_law 993 = .ok (.iconst 1, 1) := by decide +kernel
theorem dL_law_994 : decode cL_law 994 = .ok (.iadd, 1) := by decide +kernel
theorem dL_law_995 : decode cL_law 995 = .ok (.iaload, 1) := by decide +kernel
theorem dL_law_996 : decode cL_law 996 = .ok (.invokevirtual 138, 3) := by decide +kernel
theorem dL_law_999 : decode cL_law 999 = .ok (.if_icmp .eq 123, 3) := by decide +kernel
theorem dL_law_1002 : decode cL_law 1002 = .ok (.iconst 0, 1) := by decide +kernel
theorem dL_law_1003 : decode cL_law 1003 = .ok (.ireturn, 1) := by decide +kernel
theorem dL_law_1004 : decode cL_law 1004 = .ok (.aload_n 1, 1) := by decide +kernel
theorem dL_law_1005 : decode cL_law 1005 = .ok (.invokevirtual 139, 3) := by decide +kernel
theorem dL_law_1008 : decode cL_law 1008 = .ok (.aload_n 2, 1) := by decide +kernel
theorem dL_law_1009 : decode cL_law 1009 = .ok (.invokevirtual 142, 3) := by decide +kernel
theorem dL_law_1012 : decode cL_law 1012 = .ok (.if_icmp .eq 110, 3) := by decide +kernel
theorem dL_law_1015 : decode cL_law 1015 = .ok (.iconst 0, 1) := by decide +kernel
theorem dL_law_1016 : decode cL_law 1016 = .ok (.ireturn, 1) := by decide +kernel
theorem dL_law_1017 : decode cL_law 1017 = .ok (.aload_n 1, 1) := by decide +kernel
theorem dL_law_1018 : decode cL_law 1018 = .ok (.invokevirtual 143, 3) := by decide +kernel
theorem dL_law_1021 : decode cL_law 1021 = .ok (.aload_n 2, 1) := by decide +kernel
theorem dL_law_1022 : decode cL_law 1022 = .ok (.invokevirtual 146, 3) := by decide +kernel
theorem dL_law_1025 : decode cL_law 1025 = .ok (.if_icmp .eq 97, 3) := by decide +kernel
theorem dL_law_1028 : decode cL_law 1028 = .ok (.iconst 0, 1) := by decide +kernel
theorem dL_law_1029 : decode cL_law 1029 = .ok (.ireturn, 1) := by decide +kernel
theorem dL_law_1030 : decode cL_law 1030 = .ok (.aload_n 1, 1) := by decide +kernel
theorem dL_law_1031 : decode cL_law 1031 = .ok (.aload_n 0, 1) := by decide +kernel
theorem dL_law_1032 : decode cL_law 1032 = .ok (.iload_n 3, 1) := by decide +kernel
theorem dL_law_1033 : decode cL_law 1033 = .ok (.iconst 1, 1) := by decide +kernel
theorem dL_law_1034 : decode cL_law 1034 = .ok (.iadd, 1) := by decide +kernel
theorem dL_law_1035 : decode cL_law 1035 = .ok (.iaload, 1) := by decide +kernel
theorem dL_law_1036 : decode cL_law 1036 = .ok (.aload_n 0, 1) := by decide +kernel
theorem dL_law_1037 : decode cL_law 1037 = .ok (.iload_n 3, 1) := by decide +kernel
theorem dL_law_1038 : decode cL_law 1038 = .ok (.iconst 2, 1) := by decide +kernel
theorem dL_law_1039 : decode cL_law 1039 = .ok (.iadd, 1) := by decide +kernel
theorem dL_law_1040 : decode cL_law 1040 = .ok (.iaload, 1) := by decide +kernel
theorem dL_law_1041 : decode cL_law 1041 = .ok (.aload_n 0, 1) := by decide +kernel
theorem dL_law_1042 : decode cL_law 1042 = .ok (.iload_n 3, 1) := by decide +kernel
theorem dL_law_1043 : decode cL_law 1043 = .ok (.iconst 3, 1) := by decide +kernel
theorem dL_law_1044 : decode cL_law 1044 = .ok (.iadd, 1) := by decide +kernel
theorem dL_law_1045 : decode cL_law 1045 = .ok (.iaload, 1) := by decide +kernel
theorem dL_law_1046 : decode cL_law 1046 = .ok (.invokevirtual 147, 3) := by decide +kernel
theorem dL_law_1049 : decode cL_law 1049 = .ok (.aload_n 2, 1) := by decide +kernel
theorem dL_law_1050 : decode cL_law 1050 = .ok (.aload_n 0, 1) := by decide +kernel
theorem dL_law_1051 : decode cL_law 1051 = .ok (.iload_n 3, 1) := by decide +kernel
theorem dL_law_1052 : decode cL_law 1052 = .ok (.iconst 1, 1) := by decide +kernel
theorem dL_law_1053 : decode cL_law 1053 = .ok (.iadd, 1) := by decide +kernel
theorem dL_law_1054 : decode cL_law 1054 = .ok (.iaload, 1) := by decide +kernel
theorem dL_law_1055 : decode cL_law 1055 = .ok (.aload_n 0, 1) := by decide +kernel
theorem dL_law_1056 : decode cL_law 1056 = .ok (.iload_n 3, 1) := by decide +kernel
theorem dL_law_1057 : decode cL_law 1057 = .ok (.iconst 2, 1) := by decide +kernel
theorem dL_law_1058 : decode cL_law 1058 = .ok (.iadd, 1) := by decide +kernel
theorem dL_law_1059 : decode cL_law 1059 = .ok (.iaload, 1) := by decide +kernel
theorem dL_law_1060 : decode cL_law 1060 = .ok (.aload_n 0, 1) := by decide +kernel
theorem dL_law_1061 : decode cL_law 1061 = .ok (.iload_n 3, 1) := by decide +kernel
theorem dL_law_1062 : decode cL_law 1062 = .ok (.iconst 3, 1) := by decide +kernel
theorem dL_law_1063 : decode cL_law 1063 = .ok (.iadd, 1) := by decide +kernel
theorem dL_law_1064 : decode cL_law 1064 = .ok (.iaload, 1) := by decide +kernel
theorem dL_law_1065 : decode cL_law 1065 = .ok (.invokevirtual 150, 3) := by decide +kernel
theorem dL_law_1068 : decode cL_law 1068 = .ok (.if_icmp .eq 54, 3) := by decide +kernel
theorem dL_law_1071 : decode cL_law 1071 = .ok (.iconst 0, 1) := by decide +kernel
theorem dL_law_1072 : decode cL_law 1072 = .ok (.ireturn, 1) := by decide +kernel
theorem dL_law_1073 : decode cL_law 1073 = .ok (.aload_n 1, 1) := by decide +kernel
theorem dL_law_1074 : decode cL_law 1074 = .ok (.invokevirtual 151, 3) := by decide +kernel
theorem dL_law_1077 : decode cL_law 1077 = .ok (.aload_n 2, 1) := by decide +kernel
theorem dL_law_1078 : decode cL_law 1078 = .ok (.invokevirtual 154, 3) := by decide +kernel
theorem dL_law_1081 : decode cL_law 1081 = .ok (.if_icmp .eq 41, 3) := by decide +kernel
theorem dL_law_1084 : decode cL_law 1084 = .ok (.iconst 0, 1) := by decide +kernel
theorem dL_law_1085 : decode cL_law 1085 = .ok (.ireturn, 1) := by decide +kernel
theorem dL_law_1086 : decode cL_law 1086 = .ok (.aload_n 1, 1) := by decide +kernel
theorem dL_law_1087 : decode cL_law 1087 = .ok (.invokevirtual 155, 3) := by decide +kernel
theorem dL_law_1090 : decode cL_law 1090 = .ok (.aload_n 2, 1) := by decide +kernel
theorem dL_law_1091 : decode cL_law 1091 = .ok (.invokevirtual 158, 3) := by decide +kernel
theorem dL_law_1094 : decode cL_law 1094 = .ok (.if_icmp .eq 28, 3) := by decide +kernel
theorem dL_law_1097 : decode cL_law 1097 = .ok (.iconst 0, 1) := by decide +kernel
theorem dL_law_1098 : decode cL_law 1098 = .ok (.ireturn, 1) := by decide +kernel
theorem dL_law_1099 : decode cL_law 1099 = .ok (.aload_n 1, 1) := by decide +kernel
theorem dL_law_1100 : decode cL_law 1100 = .ok (.aload_n 0, 1) := by decide +kernel
theorem dL_law_1101 : decode cL_law 1101 = .ok (.iload_n 3, 1) := by decide +kernel
theorem dL_law_1102 : decode cL_law 1102 = .ok (.iconst 1, 1) := by decide +kernel
theorem dL_law_1103 : decode cL_law 1103 = .ok (.iadd, 1) := by decide +kernel
theorem dL_law_1104 : decode cL_law 1104 = .ok (.iaload, 1) := by decide +kernel
theorem dL_law_1105 : decode cL_law 1105 = .ok (.invokevirtual 159, 3) := by decide +kernel
theorem dL_law_1108 : decode cL_law 1108 = .ok (.aload_n 2, 1) := by decide +kernel
theorem dL_law_1109 : decode cL_law 1109 = .ok (.aload_n 0, 1) := by decide +kernel
theorem dL_law_1110 : decode cL_law 1110 = .ok (.iload_n 3, 1) := by decide +kernel
theorem dL_law_1111 : decode cL_law 1111 = .ok (.iconst 1, 1) := by decide +kernel
theorem dL_law_1112 : decode cL_law 1112 = .ok (.iadd, 1) := by decide +kernel
theorem dL_law_1113 : decode cL_law 1113 = .ok (.iaload, 1) := by decide +kernel
theorem dL_law_1114 : decode cL_law 1114 = .ok (.invokevirtual 162, 3) := by decide +kernel
theorem dL_law_1117 : decode cL_law 1117 = .ok (.if_icmp .eq 5, 3) := by decide +kernel
theorem dL_law_1120 : decode cL_law 1120 = .ok (.iconst 0, 1) := by decide +kernel
theorem dL_law_1121 : decode cL_law 1121 = .ok (.ireturn, 1) := by decide +kernel
theorem dL_law_1122 : decode cL_law 1122 = .ok (.iinc 3 5, 3) := by decide +kernel
theorem dL_law_1125 : decode cL_law 1125 = .ok (.goto (-1107), 3) := by decide +kernel
theorem dL_law_1128 : decode cL_law 1128 = .ok (.iconst 1, 1) := by decide +kernel
theorem dL_law_1129 : decode cL_law 1129 = .ok (.ireturn, 1) := by decide +kernel
