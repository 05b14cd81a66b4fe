/-! decode rows of the law, the rest -/
theorem dL_isDealt_54 : decode cL_isDealt 54 = .ok (.istore 8, 2) := by decide +kernel
theorem dL_isDealt_56 : decode cL_isDealt 56 = .ok (.iconst 0, 1) := by decide +kernel
theorem dL_isDealt_57 : decode cL_isDealt 57 = .ok (.istore 9, 2) := by decide +kernel
theorem dL_isDealt_59 : decode cL_isDealt 59 = .ok (.aload_n 0, 1) := by decide +kernel
theorem dL_isDealt_60 : decode cL_isDealt 60 = .ok (.iload_n 3, 1) := by decide +kernel
theorem dL_isDealt_61 : decode cL_isDealt 61 = .ok (.invokevirtual 114, 3) := by decide +kernel
theorem dL_isDealt_64 : decode cL_isDealt 64 = .ok (.iload 6, 2) := by decide +kernel
theorem dL_isDealt_66 : decode cL_isDealt 66 = .ok (.if_icmp .ne 7, 3) := by decide +kernel
theorem dL_isDealt_69 : decode cL_isDealt 69 = .ok (.iconst 1, 1) := by decide +kernel
theorem dL_isDealt_70 : decode cL_isDealt 70 = .ok (.goto 4, 3) := by decide +kernel
theorem dL_isDealt_73 : decode cL_isDealt 73 = .ok (.iconst 0, 1) := by decide +kernel
theorem dL_isDealt_74 : decode cL_isDealt 74 = .ok (.istore 10, 2) := by decide +kernel
theorem dL_isDealt_76 : decode cL_isDealt 76 = .ok (.iconst 0, 1) := by decide +kernel
theorem dL_isDealt_77 : decode cL_isDealt 77 = .ok (.istore 11, 2) := by decide +kernel
theorem dL_isDealt_79 : decode cL_isDealt 79 = .ok (.iload 11, 2) := by decide +kernel
theorem dL_isDealt_81 : decode cL_isDealt 81 = .ok (.aload_n 1, 1) := by decide +kernel
theorem dL_isDealt_82 : decode cL_isDealt 82 = .ok (.iconst 0, 1) := by decide +kernel
theorem dL_isDealt_83 : decode cL_isDealt 83 = .ok (.iaload, 1) := by decide +kernel
theorem dL_isDealt_84 : decode cL_isDealt 84 = .ok (.if_icmp .ge 113, 3) := by decide +kernel
theorem dL_isDealt_87 : decode cL_isDealt 87 = .ok (.iload 10, 2) := by decide +kernel
theorem dL_isDealt_89 : decode cL_isDealt 89 = .ok (.ifCond .eq 108, 3) := by decide +kernel
theorem dL_isDealt_92 : decode cL_isDealt 92 = .ok (.aload_n 0, 1) := by decide +kernel
theorem dL_isDealt_93 : decode cL_isDealt 93 = .ok (.iload 11, 2) := by decide +kernel
theorem dL_isDealt_95 : decode cL_isDealt 95 = .ok (.iconst 2, 1) := by decide +kernel
theorem dL_isDealt_96 : decode cL_isDealt 96 = .ok (.invokevirtual 48, 3) := by decide +kernel
theorem dL_isDealt_99 : decode cL_isDealt 99 = .ok (.istore 12, 2) := by decide +kernel
theorem dL_isDealt_101 : decode cL_isDealt 101 = .ok (.iload 9, 2) := by decide +kernel
theorem dL_isDealt_103 : decode cL_isDealt 103 = .ok (.aload_n 0, 1) := by decide +kernel
theorem dL_isDealt_104 : decode cL_isDealt 104 = .ok (.iload 11, 2) := by decide +kernel
theorem dL_isDealt_106 : decode cL_isDealt 106 = .ok (.iconst 0, 1) := by decide +kernel
theorem dL_isDealt_107 : decode cL_isDealt 107 = .ok (.invokevirtual 48, 3) := by decide +kernel
theorem dL_isDealt_110 : decode cL_isDealt 110 = .ok (.ifCond .ne 22, 3) := by decide +kernel
theorem dL_isDealt_113 : decode cL_isDealt 113 = .ok (.iload 12, 2) := by decide +kernel
theorem dL_isDealt_115 : decode cL_isDealt 115 = .ok (.iconst (-1), 1) := by decide +kernel
theorem dL_isDealt_116 : decode cL_isDealt 116 = .ok (.if_icmp .eq 16, 3) := by decide +kernel
theorem dL_isDealt_119 : decode cL_isDealt 119 = .ok (.iload 12, 2) := by decide +kernel
theorem dL_isDealt_121 : decode cL_isDealt 121 = .ok (.aload_n 0, 1) := by decide +kernel
theorem dL_isDealt_122 : decode cL_isDealt 122 = .ok (.iload 11, 2) := by decide +kernel
theorem dL_isDealt_124 : decode cL_isDealt 124 = .ok (.iconst 1, 1) := by decide +kernel
theorem dL_isDealt_125 : decode cL_isDealt 125 = .ok (.invokevirtual 48, 3) := by decide +kernel
theorem dL_isDealt_128 : decode cL_isDealt 128 = .ok (.isub, 1) := by decide +kernel
theorem dL_isDealt_129 : decode cL_isDealt 129 = .ok (.goto 4, 3) := by decide +kernel
theorem dL_isDealt_132 : decode cL_isDealt 132 = .ok (.iconst 0, 1) := by decide +kernel
theorem dL_isDealt_133 : decode cL_isDealt 133 = .ok (.iadd, 1) := by decide +kernel
theorem dL_isDealt_134 : decode cL_isDealt 134 = .ok (.istore 9, 2) := by decide +kernel
theorem dL_isDealt_136 : decode cL_isDealt 136 = .ok (.iload 12, 2) := by decide +kernel
theorem dL_isDealt_138 : decode cL_isDealt 138 = .ok (.iconst (-1), 1) := by decide +kernel
theorem dL_isDealt_139 : decode cL_isDealt 139 = .ok (.if_icmp .ne 7, 3) := by decide +kernel
theorem dL_isDealt_142 : decode cL_isDealt 142 = .ok (.iconst 1, 1) := by decide +kernel
theorem dL_isDealt_143 : decode cL_isDealt 143 = .ok (.goto 4, 3) := by decide +kernel
theorem dL_isDealt_146 : decode cL_isDealt 146 = .ok (.iconst 0, 1) := by decide +kernel
theorem dL_isDealt_147 : decode cL_isDealt 147 = .ok (.aload_n 0, 1) := by decide +kernel
theorem dL_isDealt_148 : decode cL_isDealt 148 = .ok (.iload 11, 2) := by decide +kernel
theorem dL_isDealt_150 : decode cL_isDealt 150 = .ok (.iconst 3, 1) := by decide +kernel
theorem dL_isDealt_151 : decode cL_isDealt 151 = .ok (.invokevirtual 48, 3) := by decide +kernel
theorem dL_isDealt_154 : decode cL_isDealt 154 = .ok (.iconst (-1), 1) := by decide +kernel
theorem dL_isDealt_155 : decode cL_isDealt 155 = .ok (.if_icmp .ne 7, 3) := by decide +kernel
theorem dL_isDealt_158 : decode cL_isDealt 158 = .ok (.iconst 1, 1) := by decide +kernel
theorem dL_isDealt_159 : decode cL_isDealt 159 = .ok (.goto 4, 3) := by decide +kernel
theorem dL_isDealt_162 : decode cL_isDealt 162 = .ok (.iconst 0, 1) := by decide +kernel
theorem dL_isDealt_163 : decode cL_isDealt 163 = .ok (.if_icmp .ne 25, 3) := by decide +kernel
theorem dL_isDealt_166 : decode cL_isDealt 166 = .ok (.iload 12, 2) := by decide +kernel
theorem dL_isDealt_168 : decode cL_isDealt 168 = .ok (.iconst (-1), 1) := by decide +kernel
theorem dL_isDealt_169 : decode cL_isDealt 169 = .ok (.if_icmp .eq 15, 3) := by decide +kernel
theorem dL_isDealt_172 : decode cL_isDealt 172 = .ok (.iload 12, 2) := by decide +kernel
theorem dL_isDealt_174 : decode cL_isDealt 174 = .ok (.aload_n 0, 1) := by decide +kernel
theorem dL_isDealt_175 : decode cL_isDealt 175 = .ok (.iload 11, 2) := by decide +kernel
theorem dL_isDealt_177 : decode cL_isDealt 177 = .ok (.iconst 1, 1) := by decide +kernel
theorem dL_isDealt_178 : decode cL_isDealt 178 = .ok (.invokevirtual 48, 3) := by decide +kernel
theorem dL_isDealt_181 : decode cL_isDealt 181 = .ok (.if_icmp .lt 7, 3) := by decide +kernel
theorem dL_isDealt_184 : decode cL_isDealt 184 = .ok (.iconst 1, 1) := by decide +kernel
theorem dL_isDealt_185 : decode cL_isDealt 185 = .ok (.goto 4, 3) := by decide +kernel
theorem dL_isDealt_188 : decode cL_isDealt 188 = .ok (.iconst 0, 1) := by decide +kernel
theorem dL_isDealt_189 : decode cL_isDealt 189 = .ok (.istore 10, 2) := by decide +kernel
theorem dL_isDealt_191 : decode cL_isDealt 191 = .ok (.iinc 11 1, 3) := by decide +kernel
theorem dL_isDealt_194 : decode cL_isDealt 194 = .ok (.goto (-115), 3) := by decide +kernel
theorem dL_isDealt_197 : decode cL_isDealt 197 = .ok (.aload_n 0, 1) := by decide +kernel
theorem dL_isDealt_198 : decode cL_isDealt 198 = .ok (.iload_n 3, 1) := by decide +kernel
theorem dL_isDealt_199 : decode cL_isDealt 199 = .ok (.iconst 2, 1) := by decide +kernel
theorem dL_isDealt_200 : decode cL_isDealt 200 = .ok (.invokevirtual 48, 3) := by decide +kernel
theorem dL_isDealt_203 : decode cL_isDealt 203 = .ok (.istore 11, 2) := by decide +kernel
theorem dL_isDealt_205 : decode cL_isDealt 205 = .ok (.iload 7, 2) := by decide +kernel
theorem dL_isDealt_207 : decode cL_isDealt 207 = .ok (.ifCond .ne 39, 3) := by decide +kernel
theorem dL_isDealt_210 : decode cL_isDealt 210 = .ok (.iload 10, 2) := by decide +kernel
theorem dL_isDealt_212 : decode cL_isDealt 212 = .ok (.ifCond .eq 32, 3) := by decide +kernel
theorem dL_isDealt_215 : decode cL_isDealt 215 = .ok (.iload 8, 2) := by decide +kernel
theorem dL_isDealt_217 : decode cL_isDealt 217 = .ok (.iload 9, 2) := by decide +kernel
theorem dL_isDealt_219 : decode cL_isDealt 219 = .ok (.if_icmp .ne 25, 3) := by decide +kernel
theorem dL_isDealt_222 : decode cL_isDealt 222 = .ok (.iload 11, 2) := by decide +kernel
theorem dL_isDealt_224 : decode cL_isDealt 224 = .ok (.iload 4, 2) := by decide +kernel
theorem dL_isDealt_226 : decode cL_isDealt 226 = .ok (.if_icmp .ne 18, 3) := by decide +kernel
theorem dL_isDealt_229 : decode cL_isDealt 229 = .ok (.aload_n 0, 1) := by decide +kernel
theorem dL_isDealt_230 : decode cL_isDealt 230 = .ok (.iload_n 3, 1) := by decide +kernel
theorem dL_isDealt_231 : decode cL_isDealt 231 = .ok (.iconst 3, 1) := by decide +kernel
theorem dL_isDealt_232 : decode cL_isDealt 232 = .ok (.invokevirtual 48, 3) := by decide +kernel
theorem dL_isDealt_235 : decode cL_isDealt 235 = .ok (.iload 5, 2) := by decide +kernel
theorem dL_isDealt_237 : decode cL_isDealt 237 = .ok (.if_icmp .ne 7, 3) := by decide +kernel
theorem dL_isDealt_240 : decode cL_isDealt 240 = .ok (.iconst 1, 1) := by decide +kernel
theorem dL_isDealt_241 : decode cL_isDealt 241 = .ok (.goto 4, 3) := by decide +kernel
theorem dL_isDealt_244 : decode cL_isDealt 244 = .ok (.iconst 0, 1) := by decide +kernel
theorem dL_isDealt_245 : decode cL_isDealt 245 = .ok (.ireturn, 1) := by decide +kernel
theorem dL_isDealt_246 : decode cL_isDealt 246 = .ok (.aload_n 0, 1) := by decide +kernel
theorem dL_isDealt_247 : decode cL_isDealt 247 = .ok (.iload_n 3, 1) := by decide +kernel
theorem dL_isDealt_248 : decode cL_isDealt 248 = .ok (.iconst 1, 1) := by decide +kernel
theorem dL_isDealt_249 : decode cL_isDealt 249 = .ok (.invokevirtual 48, 3) := by decide +kernel
theorem dL_isDealt_252 : decode cL_isDealt 252 = .ok (.iload 6, 2) := by decide +kernel
theorem dL_isDealt_254 : decode cL_isDealt 254 = .ok (.iadd, 1) := by decide +kernel
theorem dL_isDealt_255 : decode cL_isDealt 255 = .ok (.istore 12, 2) := by decide +kernel
theorem dL_isDealt_257 : decode cL_isDealt 257 = .ok (.iload 6, 2) := by decide +kernel
theorem dL_isDealt_259 : decode cL_isDealt 259 = .ok (.ifCond .le 24, 3) := by decide +kernel
theorem dL_isDealt_262 : decode cL_isDealt 262 = .ok (.iload_n 2, 1) := by decide +kernel
theorem dL_isDealt_263 : decode cL_isDealt 263 = .ok (.ifCond .ne 20, 3) := by decide +kernel
theorem dL_isDealt_266 : decode cL_isDealt 266 = .ok (.iload 4, 2) := by decide +kernel
theorem dL_isDealt_268 : decode cL_isDealt 268 = .ok (.iconst (-1), 1) := by decide +kernel
theorem dL_isDealt_269 : decode cL_isDealt 269 = .ok (.if_icmp .eq 14, 3) := by decide +kernel
theorem dL_isDealt_272 : decode cL_isDealt 272 = .ok (.iload 4, 2) := by decide +kernel
theorem dL_isDealt_274 : decode cL_isDealt 274 = .ok (.iload 12, 2) := by decide +kernel
theorem dL_isDealt_276 : decode cL_isDealt 276 = .ok (.if_icmp .ge 7, 3) := by decide +kernel
theorem dL_isDealt_279 : decode cL_isDealt 279 = .ok (.iconst 1, 1) := by decide +kernel
theorem dL_isDealt_280 : decode cL_isDealt 280 = .ok (.goto 4, 3) := by decide +kernel
theorem dL_isDealt_283 : decode cL_isDealt 283 = .ok (.iconst 0, 1) := by decide +kernel
theorem dL_isDealt_284 : decode cL_isDealt 284 = .ok (.istore 13, 2) := by decide +kernel
theorem dL_isDealt_286 : decode cL_isDealt 286 = .ok (.iload 10, 2) := by decide +kernel
theorem dL_isDealt_288 : decode cL_isDealt 288 = .ok (.ifCond .eq 77, 3) := by decide +kernel
theorem dL_isDealt_291 : decode cL_isDealt 291 = .ok (.iload 8, 2) := by decide +kernel
theorem dL_isDealt_293 : decode cL_isDealt 293 = .ok (.iload 9, 2) := by decide +kernel
theorem dL_isDealt_295 : decode cL_isDealt 295 = .ok (.if_icmp .ne 70, 3) := by decide +kernel
theorem dL_isDealt_298 : decode cL_isDealt 298 = .ok (.iload 6, 2) := by decide +kernel
theorem dL_isDealt_300 : decode cL_isDealt 300 = .ok (.ifCond .ne 12, 3) := by decide +kernel
theorem dL_isDealt_303 : decode cL_isDealt 303 = .ok (.iload 11, 2) := by decide +kernel
theorem dL_isDealt_305 : decode cL_isDealt 305 = .ok (.iconst (-1), 1) := by decide +kernel
theorem dL_isDealt_306 : decode cL_isDealt 306 = .ok (.if_icmp .ne 59, 3) := by decide +kernel
theorem dL_isDealt_309 : decode cL_isDealt 309 = .ok (.goto 52, 3) := by decide +kernel
theorem dL_isDealt_312 : decode cL_isDealt 312 = .ok (.iload 13, 2) := by decide +kernel
theorem dL_isDealt_314 : decode cL_isDealt 314 = .ok (.ifCond .eq 24, 3) := by decide +kernel
theorem dL_isDealt_317 : decode cL_isDealt 317 = .ok (.iload 11, 2) := by decide +kernel
theorem dL_isDealt_319 : decode cL_isDealt 319 = .ok (.iload 4, 2) := by decide +kernel
theorem dL_isDealt_321 : decode cL_isDealt 321 = .ok (.if_icmp .ne 44, 3) := by decide +kernel
theorem dL_isDealt_324 : decode cL_isDealt 324 = .ok (.aload_n 0, 1) := by decide +kernel
theorem dL_isDealt_325 : decode cL_isDealt 325 = .ok (.iload_n 3, 1) := by decide +kernel
theorem dL_isDealt_326 : decode cL_isDealt 326 = .ok (.iconst 3, 1) := by decide +kernel
theorem dL_isDealt_327 : decode cL_isDealt 327 = .ok (.invokevirtual 48, 3) := by decide +kernel
theorem dL_isDealt_330 : decode cL_isDealt 330 = .ok (.iload 5, 2) := by decide +kernel
theorem dL_isDealt_332 : decode cL_isDealt 332 = .ok (.if_icmp .ne 33, 3) := by decide +kernel
theorem dL_isDealt_335 : decode cL_isDealt 335 = .ok (.goto 26, 3) := by decide +kernel
theorem dL_isDealt_338 : decode cL_isDealt 338 = .ok (.iload 11, 2) := by decide +kernel
theorem dL_isDealt_340 : decode cL_isDealt 340 = .ok (.iload 12, 2) := by decide +kernel
theorem dL_isDealt_342 : decode cL_isDealt 342 = .ok (.if_icmp .ne 23, 3) := by decide +kernel
theorem dL_isDealt_345 : decode cL_isDealt 345 = .ok (.aload_n 0, 1) := by decide +kernel
theorem dL_isDealt_346 : decode cL_isDealt 346 = .ok (.iload_n 3, 1) := by decide +kernel
theorem dL_isDealt_347 : decode cL_isDealt 347 = .ok (.aload_n 0, 1) := by decide +kernel
theorem dL_isDealt_348 : decode cL_isDealt 348 = .ok (.iload_n 3, 1) := by decide +kernel
theorem dL_isDealt_349 : decode cL_isDealt 349 = .ok (.iconst 3, 1) := by decide +kernel
theorem dL_isDealt_350 : decode cL_isDealt 350 = .ok (.invokevirtual 48, 3) := by decide +kernel
theorem dL_isDealt_353 : decode cL_isDealt 353 = .ok (.invokevirtual 78, 3) := by decide +kernel
theorem dL_isDealt_356 : decode cL_isDealt 356 = .ok (.iload 6, 2) := by decide +kernel
theorem dL_isDealt_358 : decode cL_isDealt 358 = .ok (.if_icmp .ne 7, 3) := by decide +kernel
theorem dL_isDealt_361 : decode cL_isDealt 361 = .ok (.iconst 1, 1) := by decide +kernel
theorem dL_isDealt_362 : decode cL_isDealt 362 = .ok (.goto 4, 3) := by decide +kernel
theorem dL_isDealt_365 : decode cL_isDealt 365 = .ok (.iconst 0, 1) := by decide +kernel
theorem dL_isDealt_366 : decode cL_isDealt 366 = .ok (.ireturn, 1) := by decide +kernel
theorem dL_isSwapped_0 : decode cL_isSwapped 0 = .ok (.iload_n 3, 1) := by decide +kernel
theorem dL_isSwapped_1 : decode cL_isSwapped 1 = .ok (.aload_n 1, 1) := by decide +kernel
theorem dL_isSwapped_2 : decode cL_isSwapped 2 = .ok (.iconst 0, 1) := by decide +kernel
theorem dL_isSwapped_3 : decode cL_isSwapped 3 = .ok (.iaload, 1) := by decide +kernel
theorem dL_isSwapped_4 : decode cL_isSwapped 4 = .ok (.irem, 1) := by decide +kernel
theorem dL_isSwapped_5 : decode cL_isSwapped 5 = .ok (.istore 4, 2) := by decide +kernel
theorem dL_isSwapped_7 : decode cL_isSwapped 7 = .ok (.aload_n 0, 1) := by decide +kernel
theorem dL_isSwapped_8 : decode cL_isSwapped 8 = .ok (.iload_n 2, 1) := by decide +kernel
theorem dL_isSwapped_9 : decode cL_isSwapped 9 = .ok (.iconst 2, 1) := by decide +kernel
theorem dL_isSwapped_10 : decode cL_isSwapped 10 = .ok (.invokevirtual 48, 3) := by decide +kernel
theorem dL_isSwapped_13 : decode cL_isSwapped 13 = .ok (.istore 5, 2) := by decide +kernel
theorem dL_isSwapped_15 : decode cL_isSwapped 15 = .ok (.aload_n 0, 1) := by decide +kernel
theorem dL_isSwapped_16 : decode cL_isSwapped 16 = .ok (.iload 4, 2) := by decide +kernel
theorem dL_isSwapped_18 : decode cL_isSwapped 18 = .ok (.iconst 2, 1) := by decide +kernel
theorem dL_isSwapped_19 : decode cL_isSwapped 19 = .ok (.invokevirtual 48, 3) := by decide +kernel
theorem dL_isSwapped_22 : decode cL_isSwapped 22 = .ok (.istore 6, 2) := by decide +kernel
theorem dL_isSwapped_24 : decode cL_isSwapped 24 = .ok (.aload_n 0, 1) := by decide +kernel
theorem dL_isSwapped_25 : decode cL_isSwapped 25 = .ok (.iload_n 2, 1) := by decide +kernel
theorem dL_isSwapped_26 : decode cL_isSwapped 26 = .ok (.iload 4, 2) := by decide +kernel
theorem dL_isSwapped_28 : decode cL_isSwapped 28 = .ok (.invokestatic 117, 3) := by decide +kernel
theorem dL_isSwapped_31 : decode cL_isSwapped 31 = .ok (.istore 7, 2) := by decide +kernel
theorem dL_isSwapped_33 : decode cL_isSwapped 33 = .ok (.iload 7, 2) := by decide +kernel
theorem dL_isSwapped_35 : decode cL_isSwapped 35 = .ok (.ifCond .ne 32, 3) := by decide +kernel
theorem dL_isSwapped_38 : decode cL_isSwapped 38 = .ok (.aload_n 0, 1) := by decide +kernel
theorem dL_isSwapped_39 : decode cL_isSwapped 39 = .ok (.iload_n 2, 1) := by decide +kernel
theorem dL_isSwapped_40 : decode cL_isSwapped 40 = .ok (.iconst 2, 1) := by decide +kernel
theorem dL_isSwapped_41 : decode cL_isSwapped 41 = .ok (.invokevirtual 48, 3) := by decide +kernel
theorem dL_isSwapped_44 : decode cL_isSwapped 44 = .ok (.iload 5, 2) := by decide +kernel
theorem dL_isSwapped_46 : decode cL_isSwapped 46 = .ok (.if_icmp .ne 19, 3) := by decide +kernel
theorem dL_isSwapped_49 : decode cL_isSwapped 49 = .ok (.aload_n 0, 1) := by decide +kernel
theorem dL_isSwapped_50 : decode cL_isSwapped 50 = .ok (.iload 4, 2) := by decide +kernel
theorem dL_isSwapped_52 : decode cL_isSwapped 52 = .ok (.iconst 2, 1) := by decide +kernel
theorem dL_isSwapped_53 : decode cL_isSwapped 53 = .ok (.invokevirtual 48, 3) := by decide +kernel
theorem dL_isSwapped_56 : decode cL_isSwapped 56 = .ok (.iload 6, 2) := by decide +kernel
theorem dL_isSwapped_58 : decode cL_isSwapped 58 = .ok (.if_icmp .ne 7, 3) := by decide +kernel
theorem dL_isSwapped_61 : decode cL_isSwapped 61 = .ok (.iconst 1, 1) := by decide +kernel
theorem dL_isSwapped_62 : decode cL_isSwapped 62 = .ok (.goto 4, 3) := by decide +kernel
theorem dL_isSwapped_65 : decode cL_isSwapped 65 = .ok (.iconst 0, 1) := by decide +kernel
theorem dL_isSwapped_66 : decode cL_isSwapped 66 = .ok (.ireturn, 1) := by decide +kernel
theorem dL_isSwapped_67 : decode cL_isSwapped 67 = .ok (.iload_n 2, 1) := by decide +kernel
theorem dL_isSwapped_68 : decode cL_isSwapped 68 = .ok (.iload 4, 2) := by decide +kernel
theorem dL_isSwapped_70 : decode cL_isSwapped 70 = .ok (.if_icmp .eq 89, 3) := by decide +kernel
theorem dL_isSwapped_73 : decode cL_isSwapped 73 = .ok (.iload 5, 2) := by decide +kernel
theorem dL_isSwapped_75 : decode cL_isSwapped 75 = .ok (.iconst (-1), 1) := by decide +kernel
theorem dL_isSwapped_76 : decode cL_isSwapped 76 = .ok (.if_icmp .eq 83, 3) := by decide +kernel
theorem dL_isSwapped_79 : decode cL_isSwapped 79 = .ok (.iload 6, 2) := by decide +kernel
theorem dL_isSwapped_81 : decode cL_isSwapped 81 = .ok (.iconst (-1), 1) := by decide +kernel
theorem dL_isSwapped_82 : decode cL_isSwapped 82 = .ok (.if_icmp .eq 77, 3) := by decide +kernel
theorem dL_isSwapped_85 : decode cL_isSwapped 85 = .ok (.aload_n 0, 1) := by decide +kernel
theorem dL_isSwapped_86 : decode cL_isSwapped 86 = .ok (.iload_n 2, 1) := by decide +kernel
theorem dL_isSwapped_87 : decode cL_isSwapped 87 = .ok (.iconst 3, 1) := by decide +kernel
theorem dL_isSwapped_88 : decode cL_isSwapped 88 = .ok (.invokevirtual 48, 3) := by decide +kernel
theorem dL_isSwapped_91 : decode cL_isSwapped 91 = .ok (.aload_n 0, 1) := by decide +kernel
theorem dL_isSwapped_92 : decode cL_isSwapped 92 = .ok (.iload 4, 2) := by decide +kernel
theorem dL_isSwapped_94 : decode cL_isSwapped 94 = .ok (.iconst 3, 1) := by decide +kernel
theorem dL_isSwapped_95 : decode cL_isSwapped 95 = .ok (.invokevirtual 48, 3) := by decide +kernel
theorem dL_isSwapped_98 : decode cL_isSwapped 98 = .ok (.if_icmp .ne 61, 3) := by decide +kernel
theorem dL_isSwapped_101 : decode cL_isSwapped 101 = .ok (.aload_n 0, 1) := by decide +kernel
theorem dL_isSwapped_102 : decode cL_isSwapped 102 = .ok (.iload_n 2, 1) := by decide +kernel
theorem dL_isSwapped_103 : decode cL_isSwapped 103 = .ok (.iconst 2, 1) := by decide +kernel
theorem dL_isSwapped_104 : decode cL_isSwapped 104 = .ok (.invokevirtual 48, 3) := by decide +kernel
theorem dL_isSwapped_107 : decode cL_isSwapped 107 = .ok (.aload_n 0, 1) := by decide +kernel
theorem dL_isSwapped_108 : decode cL_isSwapped 108 = .ok (.iload_n 2, 1) := by decide +kernel
theorem dL_isSwapped_109 : decode cL_isSwapped 109 = .ok (.iconst 1, 1) := by decide +kernel
theorem dL_isSwapped_110 : decode cL_isSwapped 110 = .ok (.invokevirtual 48, 3) := by decide +kernel
theorem dL_isSwapped_113 : decode cL_isSwapped 113 = .ok (.if_icmp .lt 46, 3) := by decide +kernel
theorem dL_isSwapped_116 : decode cL_isSwapped 116 = .ok (.aload_n 0, 1) := by decide +kernel
theorem dL_isSwapped_117 : decode cL_isSwapped 117 = .ok (.iload 4, 2) := by decide +kernel
theorem dL_isSwapped_119 : decode cL_isSwapped 119 = .ok (.iconst 2, 1) := by decide +kernel
theorem dL_isSwapped_120 : decode cL_isSwapped 120 = .ok (.invokevirtual 48, 3) := by decide +kernel
theorem dL_isSwapped_123 : decode cL_isSwapped 123 = .ok (.aload_n 0, 1) := by decide +kernel
theorem dL_isSwapped_124 : decode cL_isSwapped 124 = .ok (.iload 4, 2) := by decide +kernel
theorem dL_isSwapped_126 : decode cL_isSwapped 126 = .ok (.iconst 1, 1) := by decide +kernel
theorem dL_isSwapped_127 : decode cL_isSwapped 127 = .ok (.invokevirtual 48, 3) := by decide +kernel
theorem dL_isSwapped_130 : decode cL_isSwapped 130 = .ok (.if_icmp .lt 29, 3) := by decide +kernel
theorem dL_isSwapped_133 : decode cL_isSwapped 133 = .ok (.aload_n 0, 1) := by decide +kernel
theorem dL_isSwapped_134 : decode cL_isSwapped 134 = .ok (.iload_n 2, 1) := by decide +kernel
theorem dL_isSwapped_135 : decode cL_isSwapped 135 = .ok (.iconst 2, 1) := by decide +kernel
theorem dL_isSwapped_136 : decode cL_isSwapped 136 = .ok (.invokevirtual 48, 3) := by decide +kernel
theorem dL_isSwapped_139 : decode cL_isSwapped 139 = .ok (.aload_n 0, 1) := by decide +kernel
theorem dL_isSwapped_140 : decode cL_isSwapped 140 = .ok (.iload 4, 2) := by decide +kernel
theorem dL_isSwapped_142 : decode cL_isSwapped 142 = .ok (.iconst 2, 1) := by decide +kernel
theorem dL_isSwapped_143 : decode cL_isSwapped 143 = .ok (.invokevirtual 48, 3) := by decide +kernel
theorem dL_isSwapped_146 : decode cL_isSwapped 146 = .ok (.iadd, 1) := by decide +kernel
theorem dL_isSwapped_147 : decode cL_isSwapped 147 = .ok (.iload 5, 2) := by decide +kernel
theorem dL_isSwapped_149 : decode cL_isSwapped 149 = .ok (.iload 6, 2) := by decide +kernel
theorem dL_isSwapped_151 : decode cL_isSwapped 151 = .ok (.iadd, 1) := by decide +kernel
theorem dL_isSwapped_152 : decode cL_isSwapped 152 = .ok (.if_icmp .ne 7, 3) := by decide +kernel
theorem dL_isSwapped_155 : decode cL_isSwapped 155 = .ok (.iconst 1, 1) := by decide +kernel
theorem dL_isSwapped_156 : decode cL_isSwapped 156 = .ok (.goto 4, 3) := by decide +kernel
theorem dL_isSwapped_159 : decode cL_isSwapped 159 = .ok (.iconst 0, 1) := by decide +kernel
theorem dL_isSwapped_160 : decode cL_isSwapped 160 = .ok (.istore 8, 2) := by decide +kernel
theorem dL_isSwapped_162 : decode cL_isSwapped 162 = .ok (.iload 8, 2) := by decide +kernel
theorem dL_isSwapped_164 : decode cL_isSwapped 164 = .ok (.ifCond .eq 40, 3) := by decide +kernel
theorem dL_isSwapped_167 : decode cL_isSwapped 167 = .ok (.aload_n 0, 1) := by decide +kernel
theorem dL_isSwapped_168 : decode cL_isSwapped 168 = .ok (.iload 4, 2) := by decide +kernel
theorem dL_isSwapped_170 : decode cL_isSwapped 170 = .ok (.iload_n 2, 1) := by decide +kernel
theorem dL_isSwapped_171 : decode cL_isSwapped 171 = .ok (.invokestatic 117, 3) := by decide +kernel
theorem dL_isSwapped_174 : decode cL_isSwapped 174 = .ok (.ifCond .eq 30, 3) := by decide +kernel
theorem dL_isSwapped_177 : decode cL_isSwapped 177 = .ok (.aload_n 0, 1) := by decide +kernel
theorem dL_isSwapped_178 : decode cL_isSwapped 178 = .ok (.iload_n 2, 1) := by decide +kernel
theorem dL_isSwapped_179 : decode cL_isSwapped 179 = .ok (.iconst 2, 1) := by decide +kernel
theorem dL_isSwapped_180 : decode cL_isSwapped 180 = .ok (.invokevirtual 48, 3) := by decide +kernel
theorem dL_isSwapped_183 : decode cL_isSwapped 183 = .ok (.iload 5, 2) := by decide +kernel
theorem dL_isSwapped_185 : decode cL_isSwapped 185 = .ok (.if_icmp .ne 19, 3) := by decide +kernel
theorem dL_isSwapped_188 : decode cL_isSwapped 188 = .ok (.aload_n 0, 1) := by decide +kernel
theorem dL_isSwapped_189 : decode cL_isSwapped 189 = .ok (.iload 4, 2) := by decide +kernel
theorem dL_isSwapped_191 : decode cL_isSwapped 191 = .ok (.iconst 2, 1) := by decide +kernel
theorem dL_isSwapped_192 : decode cL_isSwapped 192 = .ok (.invokevirtual 48, 3) := by decide +kernel
theorem dL_isSwapped_195 : decode cL_isSwapped 195 = .ok (.iload 6, 2) := by decide +kernel
theorem dL_isSwapped_197 : decode cL_isSwapped 197 = .ok (.if_icmp .ne 7, 3) := by decide +kernel
theorem dL_isSwapped_200 : decode cL_isSwapped 200 = .ok (.iconst 1, 1) := by decide +kernel
theorem dL_isSwapped_201 : decode cL_isSwapped 201 = .ok (.goto 4, 3) := by decide +kernel
theorem dL_isSwapped_204 : decode cL_isSwapped 204 = .ok (.iconst 0, 1) := by decide +kernel
theorem dL_isSwapped_205 : decode cL_isSwapped 205 = .ok (.ireturn, 1) := by decide +kernel
theorem dL_isTold_0 : decode cL_isTold 0 = .ok (.aload_n 0, 1) := by decide +kernel
theorem dL_isTold_1 : decode cL_isTold 1 = .ok (.iload_n 1, 1) := by decide +kernel
theorem dL_isTold_2 : decode cL_isTold 2 = .ok (.bipush 6, 2) := by decide +kernel
theorem dL_isTold_4 : decode cL_isTold 4 = .ok (.invokevirtual 48, 3) := by decide +kernel
theorem dL_isTold_7 : decode cL_isTold 7 = .ok (.istore_n 3, 1) := by decide +kernel
theorem dL_isTold_8 : decode cL_isTold 8 = .ok (.aload_n 0, 1) := by decide +kernel
theorem dL_isTold_9 : decode cL_isTold 9 = .ok (.iload_n 1, 1) := by decide +kernel
theorem dL_isTold_10 : decode cL_isTold 10 = .ok (.iconst 0, 1) := by decide +kernel
theorem dL_isTold_11 : decode cL_isTold 11 = .ok (.invokevirtual 48, 3) := by decide +kernel
theorem dL_isTold_14 : decode cL_isTold 14 = .ok (.istore 4, 2) := by decide +kernel
theorem dL_isTold_16 : decode cL_isTold 16 = .ok (.aload_n 0, 1) := by decide +kernel
theorem dL_isTold_17 : decode cL_isTold 17 = .ok (.iload_n 1, 1) := by decide +kernel
theorem dL_isTold_18 : decode cL_isTold 18 = .ok (.iconst 2, 1) := by decide +kernel
theorem dL_isTold_19 : decode cL_isTold 19 = .ok (.invokevirtual 48, 3) := by decide +kernel
theorem dL_isTold_22 : decode cL_isTold 22 = .ok (.istore 5, 2) := by decide +kernel
theorem dL_isTold_24 : decode cL_isTold 24 = .ok (.aload_n 0, 1) := by decide +kernel
theorem dL_isTold_25 : decode cL_isTold 25 = .ok (.iload_n 1, 1) := by decide +kernel
theorem dL_isTold_26 : decode cL_isTold 26 = .ok (.iconst 1, 1) := by decide +kernel
theorem dL_isTold_27 : decode cL_isTold 27 = .ok (.invokevirtual 48, 3) := by decide +kernel
theorem dL_isTold_30 : decode cL_isTold 30 = .ok (.istore 6, 2) := by decide +kernel
theorem dL_isTold_32 : decode cL_isTold 32 = .ok (.iload_n 2, 1) := by decide +kernel
theorem dL_isTold_33 : decode cL_isTold 33 = .ok (.bipush 8, 2) := by decide +kernel
theorem dL_isTold_35 : decode cL_isTold 35 = .ok (.irem, 1) := by decide +kernel
theorem dL_isTold_36 : decode cL_isTold 36 = .ok (.iconst 5, 1) := by decide +kernel
theorem dL_isTold_37 : decode cL_isTold 37 = .ok (.if_icmp .ge 7, 3) := by decide +kernel
theorem dL_isTold_40 : decode cL_isTold 40 = .ok (.iconst 0, 1) := by decide +kernel
theorem dL_isTold_41 : decode cL_isTold 41 = .ok (.goto 16, 3) := by decide +kernel
theorem dL_isTold_44 : decode cL_isTold 44 = .ok (.iload_n 2, 1) := by decide +kernel
theorem dL_isTold_45 : decode cL_isTold 45 = .ok (.bipush 8, 2) := by decide +kernel
theorem dL_isTold_47 : decode cL_isTold 47 = .ok (.irem, 1) := by decide +kernel
theorem dL_isTold_48 : decode cL_isTold 48 = .ok (.iconst 5, 1) := by decide +kernel
theorem dL_isTold_49 : decode cL_isTold 49 = .ok (.if_icmp .ne 7, 3) := by decide +kernel
theorem dL_isTold_52 : decode cL_isTold 52 = .ok (.iconst 1, 1) := by decide +kernel
theorem dL_isTold_53 : decode cL_isTold 53 = .ok (.goto 4, 3) := by decide +kernel
theorem dL_isTold_56 : decode cL_isTold 56 = .ok (.iconst 2, 1) := by decide +kernel
theorem dL_isTold_57 : decode cL_isTold 57 = .ok (.istore 7, 2) := by decide +kernel
theorem dL_isTold_59 : decode cL_isTold 59 = .ok (.iload_n 2, 1) := by decide +kernel
theorem dL_isTold_60 : decode cL_isTold 60 = .ok (.bipush 8, 2) := by decide +kernel
theorem dL_isTold_62 : decode cL_isTold 62 = .ok (.idiv, 1) := by decide +kernel
theorem dL_isTold_63 : decode cL_isTold 63 = .ok (.iconst 4, 1) := by decide +kernel
theorem dL_isTold_64 : decode cL_isTold 64 = .ok (.irem, 1) := by decide +kernel
theorem dL_isTold_65 : decode cL_isTold 65 = .ok (.ifCond .eq 9, 3) := by decide +kernel
theorem dL_isTold_68 : decode cL_isTold 68 = .ok (.iload_n 3, 1) := by decide +kernel
theorem dL_isTold_69 : decode cL_isTold 69 = .ok (.bipush 99, 2) := by decide +kernel
theorem dL_isTold_71 : decode cL_isTold 71 = .ok (.if_icmp .ne 15, 3) := by decide +kernel
theorem dL_isTold_74 : decode cL_isTold 74 = .ok (.iconst 1, 1) := by decide +kernel
theorem dL_isTold_75 : decode cL_isTold 75 = .ok (.iload_n 2, 1) := by decide +kernel
theorem dL_isTold_76 : decode cL_isTold 76 = .ok (.bipush 32, 2) := by decide +kernel
theorem dL_isTold_78 : decode cL_isTold 78 = .ok (.idiv, 1) := by decide +kernel
theorem dL_isTold_79 : decode cL_isTold 79 = .ok (.bipush 99, 2) := by decide +kernel
theorem dL_isTold_81 : decode cL_isTold 81 = .ok (.irem, 1) := by decide +kernel
theorem dL_isTold_82 : decode cL_isTold 82 = .ok (.iadd, 1) := by decide +kernel
theorem dL_isTold_83 : decode cL_isTold 83 = .ok (.goto 6, 3) := by decide +kernel
theorem dL_isTold_86 : decode cL_isTold 86 = .ok (.iload_n 3, 1) := by decide +kernel
theorem dL_isTold_87 : decode cL_isTold 87 = .ok (.iconst 1, 1) := by decide +kernel
theorem dL_isTold_88 : decode cL_isTold 88 = .ok (.iadd, 1) := by decide +kernel
theorem dL_isTold_89 : decode cL_isTold 89 = .ok (.istore 8, 2) := by decide +kernel
theorem dL_isTold_91 : decode cL_isTold 91 = .ok (.iload 7, 2) := by decide +kernel
theorem dL_isTold_93 : decode cL_isTold 93 = .ok (.iconst 1, 1) := by decide +kernel
theorem dL_isTold_94 : decode cL_isTold 94 = .ok (.if_icmp .ne 7, 3) := by decide +kernel
theorem dL_isTold_97 : decode cL_isTold 97 = .ok (.iconst 0, 1) := by decide +kernel
theorem dL_isTold_98 : decode cL_isTold 98 = .ok (.goto 36, 3) := by decide +kernel
theorem dL_isTold_101 : decode cL_isTold 101 = .ok (.iload_n 2, 1) := by decide +kernel
theorem dL_isTold_102 : decode cL_isTold 102 = .ok (.bipush 32, 2) := by decide +kernel
theorem dL_isTold_104 : decode cL_isTold 104 = .ok (.idiv, 1) := by decide +kernel
theorem dL_isTold_105 : decode cL_isTold 105 = .ok (.iconst 3, 1) := by decide +kernel
theorem dL_isTold_106 : decode cL_isTold 106 = .ok (.irem, 1) := by decide +kernel
theorem dL_isTold_107 : decode cL_isTold 107 = .ok (.ifCond .ne 15, 3) := by decide +kernel
theorem dL_isTold_110 : decode cL_isTold 110 = .ok (.iload_n 2, 1) := by decide +kernel
theorem dL_isTold_111 : decode cL_isTold 111 = .ok (.sipush 128, 3) := by decide +kernel
theorem dL_isTold_114 : decode cL_isTold 114 = .ok (.idiv, 1) := by decide +kernel
theorem dL_isTold_115 : decode cL_isTold 115 = .ok (.sipush 1440, 3) := by decide +kernel
theorem dL_isTold_118 : decode cL_isTold 118 = .ok (.irem, 1) := by decide +kernel
theorem dL_isTold_119 : decode cL_isTold 119 = .ok (.goto 15, 3) := by decide +kernel
theorem dL_isTold_122 : decode cL_isTold 122 = .ok (.sipush 390, 3) := by decide +kernel
theorem dL_isTold_125 : decode cL_isTold 125 = .ok (.iload_n 2, 1) := by decide +kernel
theorem dL_isTold_126 : decode cL_isTold 126 = .ok (.sipush 128, 3) := by decide +kernel
theorem dL_isTold_129 : decode cL_isTold 129 = .ok (.idiv, 1) := by decide +kernel
theorem dL_isTold_130 : decode cL_isTold 130 = .ok (.bipush 90, 2) := by decide +kernel
theorem dL_isTold_132 : decode cL_isTold 132 = .ok (.irem, 1) := by decide +kernel
theorem dL_isTold_133 : decode cL_isTold 133 = .ok (.iadd, 1) := by decide +kernel
theorem dL_isTold_134 : decode cL_isTold 134 = .ok (.istore 9, 2) := by decide +kernel
theorem dL_isTold_136 : decode cL_isTold 136 = .ok (.aload_n 0, 1) := by decide +kernel
theorem dL_isTold_137 : decode cL_isTold 137 = .ok (.iload_n 1, 1) := by decide +kernel
theorem dL_isTold_138 : decode cL_isTold 138 = .ok (.iload 8, 2) := by decide +kernel
theorem dL_isTold_140 : decode cL_isTold 140 = .ok (.iload 7, 2) := by decide +kernel
theorem dL_isTold_142 : decode cL_isTold 142 = .ok (.iload 9, 2) := by decide +kernel
theorem dL_isTold_144 : decode cL_isTold 144 = .ok (.invokevirtual 120, 3) := by decide +kernel
theorem dL_isTold_147 : decode cL_isTold 147 = .ok (.istore 10, 2) := by decide +kernel
theorem dL_isTold_149 : decode cL_isTold 149 = .ok (.iload 10, 2) := by decide +kernel
theorem dL_isTold_151 : decode cL_isTold 151 = .ok (.iload 4, 2) := by decide +kernel
theorem dL_isTold_153 : decode cL_isTold 153 = .ok (.ifCond .ne 13, 3) := by decide +kernel
theorem dL_isTold_156 : decode cL_isTold 156 = .ok (.iload 8, 2) := by decide +kernel
theorem dL_isTold_158 : decode cL_isTold 158 = .ok (.iload_n 3, 1) := by decide +kernel
theorem dL_isTold_159 : decode cL_isTold 159 = .ok (.if_icmp .le 7, 3) := by decide +kernel
theorem dL_isTold_162 : decode cL_isTold 162 = .ok (.iconst 1, 1) := by decide +kernel
theorem dL_isTold_163 : decode cL_isTold 163 = .ok (.goto 4, 3) := by decide +kernel
theorem dL_isTold_166 : decode cL_isTold 166 = .ok (.iconst 0, 1) := by decide +kernel
theorem dL_isTold_167 : decode cL_isTold 167 = .ok (.if_icmp .eq 5, 3) := by decide +kernel
theorem dL_isTold_170 : decode cL_isTold 170 = .ok (.iconst 0, 1) := by decide +kernel
theorem dL_isTold_171 : decode cL_isTold 171 = .ok (.ireturn, 1) := by decide +kernel
theorem dL_isTold_172 : decode cL_isTold 172 = .ok (.iload 10, 2) := by decide +kernel
theorem dL_isTold_174 : decode cL_isTold 174 = .ok (.ifCond .ne 42, 3) := by decide +kernel
theorem dL_isTold_177 : decode cL_isTold 177 = .ok (.aload_n 0, 1) := by decide +kernel
theorem dL_isTold_178 : decode cL_isTold 178 = .ok (.iload_n 1, 1) := by decide +kernel
theorem dL_isTold_179 : decode cL_isTold 179 = .ok (.bipush 6, 2) := by decide +kernel
theorem dL_isTold_181 : decode cL_isTold 181 = .ok (.invokevirtual 48, 3) := by decide +kernel
theorem dL_isTold_184 : decode cL_isTold 184 = .ok (.iload_n 3, 1) := by decide +kernel
theorem dL_isTold_185 : decode cL_isTold 185 = .ok (.if_icmp .ne 29, 3) := by decide +kernel
theorem dL_isTold_188 : decode cL_isTold 188 = .ok (.aload_n 0, 1) := by decide +kernel
theorem dL_isTold_189 : decode cL_isTold 189 = .ok (.iload_n 1, 1) := by decide +kernel
theorem dL_isTold_190 : decode cL_isTold 190 = .ok (.iconst 1, 1) := by decide +kernel
theorem dL_isTold_191 : decode cL_isTold 191 = .ok (.invokevirtual 48, 3) := by decide +kernel
theorem dL_isTold_194 : decode cL_isTold 194 = .ok (.iload 6, 2) := by decide +kernel
theorem dL_isTold_196 : decode cL_isTold 196 = .ok (.if_icmp .ne 18, 3) := by decide +kernel
theorem dL_isTold_199 : decode cL_isTold 199 = .ok (.aload_n 0, 1) := by decide +kernel
theorem dL_isTold_200 : decode cL_isTold 200 = .ok (.iload_n 1, 1) := by decide +kernel
theorem dL_isTold_201 : decode cL_isTold 201 = .ok (.iconst 0, 1) := by decide +kernel
theorem dL_isTold_202 : decode cL_isTold 202 = .ok (.invokevirtual 48, 3) := by decide +kernel
theorem dL_isTold_205 : decode cL_isTold 205 = .ok (.iload 4, 2) := by decide +kernel
theorem dL_isTold_207 : decode cL_isTold 207 = .ok (.if_icmp .ne 7, 3) := by decide +kernel
theorem dL_isTold_210 : decode cL_isTold 210 = .ok (.iconst 1, 1) := by decide +kernel
theorem dL_isTold_211 : decode cL_isTold 211 = .ok (.goto 4, 3) := by decide +kernel
theorem dL_isTold_214 : decode cL_isTold 214 = .ok (.iconst 0, 1) := by decide +kernel
theorem dL_isTold_215 : decode cL_isTold 215 = .ok (.ireturn, 1) := by decide +kernel
theorem dL_isTold_216 : decode cL_isTold 216 = .ok (.aload_n 0, 1) := by decide +kernel
theorem dL_isTold_217 : decode cL_isTold 217 = .ok (.iload_n 1, 1) := by decide +kernel
theorem dL_isTold_218 : decode cL_isTold 218 = .ok (.bipush 6, 2) := by decide +kernel
theorem dL_isTold_220 : decode cL_isTold 220 = .ok (.invokevirtual 48, 3) := by decide +kernel
theorem dL_isTold_223 : decode cL_isTold 223 = .ok (.iload 8, 2) := by decide +kernel
theorem dL_isTold_225 : decode cL_isTold 225 = .ok (.if_icmp .ne 21, 3) := by decide +kernel
theorem dL_isTold_228 : decode cL_isTold 228 = .ok (.aload_n 0, 1) := by decide +kernel
theorem dL_isTold_229 : decode cL_isTold 229 = .ok (.iload_n 1, 1) := by decide +kernel
theorem dL_isTold_230 : decode cL_isTold 230 = .ok (.iload 8, 2) := by decide +kernel
theorem dL_isTold_232 : decode cL_isTold 232 = .ok (.iload 7, 2) := by decide +kernel
theorem dL_isTold_234 : decode cL_isTold 234 = .ok (.iload 9, 2) := by decide +kernel
theorem dL_isTold_236 : decode cL_isTold 236 = .ok (.invokevirtual 120, 3) := by decide +kernel
theorem dL_isTold_239 : decode cL_isTold 239 = .ok (.ifCond .ne 7, 3) := by decide +kernel
theorem dL_isTold_242 : decode cL_isTold 242 = .ok (.iconst 1, 1) := by decide +kernel
theorem dL_isTold_243 : decode cL_isTold 243 = .ok (.goto 4, 3) := by decide +kernel
theorem dL_isTold_246 : decode cL_isTold 246 = .ok (.iconst 0, 1) := by decide +kernel
theorem dL_isTold_247 : decode cL_isTold 247 = .ok (.istore 11, 2) := by decide +kernel
theorem dL_isTold_249 : decode cL_isTold 249 = .ok (.iload 11, 2) := by decide +kernel
theorem dL_isTold_251 : decode cL_isTold 251 = .ok (.ifCond .eq 107, 3) := by decide +kernel
theorem dL_isTold_254 : decode cL_isTold 254 = .ok (.iload 7, 2) := by decide +kernel
theorem dL_isTold_256 : decode cL_isTold 256 = .ok (.ifCond .ne 39, 3) := by decide +kernel
theorem dL_isTold_259 : decode cL_isTold 259 = .ok (.aload_n 0, 1) := by decide +kernel
theorem dL_isTold_260 : decode cL_isTold 260 = .ok (.iload_n 1, 1) := by decide +kernel
theorem dL_isTold_261 : decode cL_isTold 261 = .ok (.iconst 1, 1) := by decide +kernel
theorem dL_isTold_262 : decode cL_isTold 262 = .ok (.invokevirtual 48, 3) := by decide +kernel
theorem dL_isTold_265 : decode cL_isTold 265 = .ok (.iload 9, 2) := by decide +kernel
theorem dL_isTold_267 : decode cL_isTold 267 = .ok (.if_icmp .ne 91, 3) := by decide +kernel
theorem dL_isTold_270 : decode cL_isTold 270 = .ok (.aload_n 0, 1) := by decide +kernel
theorem dL_isTold_271 : decode cL_isTold 271 = .ok (.iload_n 1, 1) := by decide +kernel
theorem dL_isTold_272 : decode cL_isTold 272 = .ok (.iconst 2, 1) := by decide +kernel
theorem dL_isTold_273 : decode cL_isTold 273 = .ok (.invokevirtual 48, 3) := by decide +kernel
theorem dL_isTold_276 : decode cL_isTold 276 = .ok (.iload 5, 2) := by decide +kernel
theorem dL_isTold_278 : decode cL_isTold 278 = .ok (.iload 9, 2) := by decide +kernel
theorem dL_isTold_280 : decode cL_isTold 280 = .ok (.if_icmp .ge 7, 3) := by decide +kernel
theorem dL_isTold_283 : decode cL_isTold 283 = .ok (.iconst (-1), 1) := by decide +kernel
theorem dL_isTold_284 : decode cL_isTold 284 = .ok (.goto 5, 3) := by decide +kernel
theorem dL_isTold_287 : decode cL_isTold 287 = .ok (.iload 5, 2) := by decide +kernel
theorem dL_isTold_289 : decode cL_isTold 289 = .ok (.if_icmp .ne 69, 3) := by decide +kernel
theorem dL_isTold_292 : decode cL_isTold 292 = .ok (.goto 62, 3) := by decide +kernel
theorem dL_isTold_295 : decode cL_isTold 295 = .ok (.iload 7, 2) := by decide +kernel
theorem dL_isTold_297 : decode cL_isTold 297 = .ok (.iconst 1, 1) := by decide +kernel
theorem dL_isTold_298 : decode cL_isTold 298 = .ok (.if_icmp .ne 24, 3) := by decide +kernel
theorem dL_isTold_301 : decode cL_isTold 301 = .ok (.aload_n 0, 1) := by decide +kernel
theorem dL_isTold_302 : decode cL_isTold 302 = .ok (.iload_n 1, 1) := by decide +kernel
theorem dL_isTold_303 : decode cL_isTold 303 = .ok (.iconst 0, 1) := by decide +kernel
theorem dL_isTold_304 : decode cL_isTold 304 = .ok (.invokevirtual 48, 3) := by decide +kernel
theorem dL_isTold_307 : decode cL_isTold 307 = .ok (.iconst 2, 1) := by decide +kernel
theorem dL_isTold_308 : decode cL_isTold 308 = .ok (.if_icmp .ne 50, 3) := by decide +kernel
theorem dL_isTold_311 : decode cL_isTold 311 = .ok (.aload_n 0, 1) := by decide +kernel
theorem dL_isTold_312 : decode cL_isTold 312 = .ok (.iload_n 1, 1) := by decide +kernel
theorem dL_isTold_313 : decode cL_isTold 313 = .ok (.invokevirtual 51, 3) := by decide +kernel
theorem dL_isTold_316 : decode cL_isTold 316 = .ok (.ifCond .ne 42, 3) := by decide +kernel
theorem dL_isTold_319 : decode cL_isTold 319 = .ok (.goto 35, 3) := by decide +kernel
theorem dL_isTold_322 : decode cL_isTold 322 = .ok (.aload_n 0, 1) := by decide +kernel
theorem dL_isTold_323 : decode cL_isTold 323 = .ok (.iload_n 1, 1) := by decide +kernel
theorem dL_isTold_324 : decode cL_isTold 324 = .ok (.iconst 0, 1) := by decide +kernel
theorem dL_isTold_325 : decode cL_isTold 325 = .ok (.invokevirtual 48, 3) := by decide +kernel
theorem dL_isTold_328 : decode cL_isTold 328 = .ok (.iconst 1, 1) := by decide +kernel
theorem dL_isTold_329 : decode cL_isTold 329 = .ok (.if_icmp .ne 29, 3) := by decide +kernel
theorem dL_isTold_332 : decode cL_isTold 332 = .ok (.aload_n 0, 1) := by decide +kernel
theorem dL_isTold_333 : decode cL_isTold 333 = .ok (.iload_n 1, 1) := by decide +kernel
theorem dL_isTold_334 : decode cL_isTold 334 = .ok (.iconst 4, 1) := by decide +kernel
theorem dL_isTold_335 : decode cL_isTold 335 = .ok (.invokevirtual 48, 3) := by decide +kernel
theorem dL_isTold_338 : decode cL_isTold 338 = .ok (.iload 9, 2) := by decide +kernel
theorem dL_isTold_340 : decode cL_isTold 340 = .ok (.if_icmp .ne 18, 3) := by decide +kernel
theorem dL_isTold_343 : decode cL_isTold 343 = .ok (.aload_n 0, 1) := by decide +kernel
theorem dL_isTold_344 : decode cL_isTold 344 = .ok (.iload_n 1, 1) := by decide +kernel
theorem dL_isTold_345 : decode cL_isTold 345 = .ok (.iconst 2, 1) := by decide +kernel
theorem dL_isTold_346 : decode cL_isTold 346 = .ok (.invokevirtual 48, 3) := by decide +kernel
theorem dL_isTold_349 : decode cL_isTold 349 = .ok (.iload 5, 2) := by decide +kernel
theorem dL_isTold_351 : decode cL_isTold 351 = .ok (.if_icmp .ne 7, 3) := by decide +kernel
theorem dL_isTold_354 : decode cL_isTold 354 = .ok (.iconst 1, 1) := by decide +kernel
theorem dL_isTold_355 : decode cL_isTold 355 = .ok (.goto 4, 3) := by decide +kernel
theorem dL_isTold_358 : decode cL_isTold 358 = .ok (.iconst 0, 1) := by decide +kernel
theorem dL_isTold_359 : decode cL_isTold 359 = .ok (.ireturn, 1) := by decide +kernel
theorem dL_isDay_0 : decode cL_isDay 0 = .ok (.iconst 0, 1) := by decide +kernel
theorem dL_isDay_1 : decode cL_isDay 1 = .ok (.istore_n 3, 1) := by decide +kernel
theorem dL_isDay_2 : decode cL_isDay 2 = .ok (.iconst 0, 1) := by decide +kernel
theorem dL_isDay_3 : decode cL_isDay 3 = .ok (.istore 4, 2) := by decide +kernel
theorem dL_isDay_5 : decode cL_isDay 5 = .ok (.iload 4, 2) := by decide +kernel
theorem dL_isDay_7 : decode cL_isDay 7 = .ok (.aload_n 1, 1) := by decide +kernel
theorem dL_isDay_8 : decode cL_isDay 8 = .ok (.iconst 1, 1) := by decide +kernel
theorem dL_isDay_9 : decode cL_isDay 9 = .ok (.iaload, 1) := by decide +kernel
theorem dL_isDay_10 : decode cL_isDay 10 = .ok (.if_icmp .ge 96, 3) := by decide +kernel
theorem dL_isDay_13 : decode cL_isDay 13 = .ok (.iload_n 3, 1) := by decide +kernel
theorem dL_isDay_14 : decode cL_isDay 14 = .ok (.aload_n 0, 1) := by decide +kernel
theorem dL_isDay_15 : decode cL_isDay 15 = .ok (.iload 4, 2) := by decide +kernel
theorem dL_isDay_17 : decode cL_isDay 17 = .ok (.bipush 6, 2) := by decide +kernel
theorem dL_isDay_19 : decode cL_isDay 19 = .ok (.invokevirtual 61, 3) := by decide +kernel
theorem dL_isDay_22 : decode cL_isDay 22 = .ok (.iadd, 1) := by decide +kernel
theorem dL_isDay_23 : decode cL_isDay 23 = .ok (.istore_n 3, 1) := by decide +kernel
theorem dL_isDay_24 : decode cL_isDay 24 = .ok (.aload_n 0, 1) := by decide +kernel
theorem dL_isDay_25 : decode cL_isDay 25 = .ok (.iload 4, 2) := by decide +kernel
theorem dL_isDay_27 : decode cL_isDay 27 = .ok (.iconst 1, 1) := by decide +kernel
theorem dL_isDay_28 : decode cL_isDay 28 = .ok (.invokevirtual 61, 3) := by decide +kernel
theorem dL_isDay_31 : decode cL_isDay 31 = .ok (.istore 5, 2) := by decide +kernel
theorem dL_isDay_33 : decode cL_isDay 33 = .ok (.aload_n 0, 1) := by decide +kernel
theorem dL_isDay_34 : decode cL_isDay 34 = .ok (.iload 4, 2) := by decide +kernel
theorem dL_isDay_36 : decode cL_isDay 36 = .ok (.iconst 0, 1) := by decide +kernel
theorem dL_isDay_37 : decode cL_isDay 37 = .ok (.invokevirtual 61, 3) := by decide +kernel
theorem dL_isDay_40 : decode cL_isDay 40 = .ok (.iload 5, 2) := by decide +kernel
theorem dL_isDay_42 : decode cL_isDay 42 = .ok (.isub, 1) := by decide +kernel
theorem dL_isDay_43 : decode cL_isDay 43 = .ok (.istore 6, 2) := by decide +kernel
theorem dL_isDay_45 : decode cL_isDay 45 = .ok (.iload 5, 2) := by decide +kernel
theorem dL_isDay_47 : decode cL_isDay 47 = .ok (.ifCond .lt 51, 3) := by decide +kernel
theorem dL_isDay_50 : decode cL_isDay 50 = .ok (.iload 6, 2) := by decide +kernel
theorem dL_isDay_52 : decode cL_isDay 52 = .ok (.aload_n 0, 1) := by decide +kernel
theorem dL_isDay_53 : decode cL_isDay 53 = .ok (.iload 4, 2) := by decide +kernel
theorem dL_isDay_55 : decode cL_isDay 55 = .ok (.iconst 2, 1) := by decide +kernel
theorem dL_isDay_56 : decode cL_isDay 56 = .ok (.invokevirtual 61, 3) := by decide +kernel
theorem dL_isDay_59 : decode cL_isDay 59 = .ok (.aload_n 0, 1) := by decide +kernel
theorem dL_isDay_60 : decode cL_isDay 60 = .ok (.iload 4, 2) := by decide +kernel
theorem dL_isDay_62 : decode cL_isDay 62 = .ok (.iconst 3, 1) := by decide +kernel
theorem dL_isDay_63 : decode cL_isDay 63 = .ok (.invokevirtual 61, 3) := by decide +kernel
theorem dL_isDay_66 : decode cL_isDay 66 = .ok (.iadd, 1) := by decide +kernel
theorem dL_isDay_67 : decode cL_isDay 67 = .ok (.aload_n 0, 1) := by decide +kernel
theorem dL_isDay_68 : decode cL_isDay 68 = .ok (.iload 4, 2) := by decide +kernel
theorem dL_isDay_70 : decode cL_isDay 70 = .ok (.iconst 4, 1) := by decide +kernel
theorem dL_isDay_71 : decode cL_isDay 71 = .ok (.invokevirtual 61, 3) := by decide +kernel
theorem dL_isDay_74 : decode cL_isDay 74 = .ok (.isub, 1) := by decide +kernel
theorem dL_isDay_75 : decode cL_isDay 75 = .ok (.if_icmp .gt 23, 3) := by decide +kernel
theorem dL_isDay_78 : decode cL_isDay 78 = .ok (.iload 6, 2) := by decide +kernel
theorem dL_isDay_80 : decode cL_isDay 80 = .ok (.aload_n 0, 1) := by decide +kernel
theorem dL_isDay_81 : decode cL_isDay 81 = .ok (.iload 4, 2) := by decide +kernel
theorem dL_isDay_83 : decode cL_isDay 83 = .ok (.iconst 3, 1) := by decide +kernel
theorem dL_isDay_84 : decode cL_isDay 84 = .ok (.invokevirtual 61, 3) := by decide +kernel
theorem dL_isDay_87 : decode cL_isDay 87 = .ok (.aload_n 0, 1) := by decide +kernel
theorem dL_isDay_88 : decode cL_isDay 88 = .ok (.iload 4, 2) := by decide +kernel
theorem dL_isDay_90 : decode cL_isDay 90 = .ok (.iconst 4, 1) := by decide +kernel
theorem dL_isDay_91 : decode cL_isDay 91 = .ok (.invokevirtual 61, 3) := by decide +kernel
theorem dL_isDay_94 : decode cL_isDay 94 = .ok (.isub, 1) := by decide +kernel
theorem dL_isDay_95 : decode cL_isDay 95 = .ok (.if_icmp .ge 5, 3) := by decide +kernel
theorem dL_isDay_98 : decode cL_isDay 98 = .ok (.iconst 0, 1) := by decide +kernel
theorem dL_isDay_99 : decode cL_isDay 99 = .ok (.ireturn, 1) := by decide +kernel
theorem dL_isDay_100 : decode cL_isDay 100 = .ok (.iinc 4 1, 3) := by decide +kernel
theorem dL_isDay_103 : decode cL_isDay 103 = .ok (.goto (-98), 3) := by decide +kernel
theorem dL_isDay_106 : decode cL_isDay 106 = .ok (.iconst 0, 1) := by decide +kernel
theorem dL_isDay_107 : decode cL_isDay 107 = .ok (.istore 4, 2) := by decide +kernel
theorem dL_isDay_109 : decode cL_isDay 109 = .ok (.iconst 0, 1) := by decide +kernel
theorem dL_isDay_110 : decode cL_isDay 110 = .ok (.istore 5, 2) := by decide +kernel
theorem dL_isDay_112 : decode cL_isDay 112 = .ok (.iconst 0, 1) := by decide +kernel
theorem dL_isDay_113 : decode cL_isDay 113 = .ok (.istore 6, 2) := by decide +kernel
theorem dL_isDay_115 : decode cL_isDay 115 = .ok (.iload 6, 2) := by decide +kernel
theorem dL_isDay_117 : decode cL_isDay 117 = .ok (.iconst 4, 1) := by decide +kernel
theorem dL_isDay_118 : decode cL_isDay 118 = .ok (.if_icmp .ge 41, 3) := by decide +kernel
theorem dL_isDay_121 : decode cL_isDay 121 = .ok (.iload 4, 2) := by decide +kernel
theorem dL_isDay_123 : decode cL_isDay 123 = .ok (.aload_n 0, 1) := by decide +kernel
theorem dL_isDay_124 : decode cL_isDay 124 = .ok (.iload 6, 2) := by decide +kernel
theorem dL_isDay_126 : decode cL_isDay 126 = .ok (.iconst 0, 1) := by decide +kernel
theorem dL_isDay_127 : decode cL_isDay 127 = .ok (.invokevirtual 124, 3) := by decide +kernel
theorem dL_isDay_130 : decode cL_isDay 130 = .ok (.iadd, 1) := by decide +kernel
theorem dL_isDay_131 : decode cL_isDay 131 = .ok (.istore 4, 2) := by decide +kernel
theorem dL_isDay_133 : decode cL_isDay 133 = .ok (.iload 5, 2) := by decide +kernel
theorem dL_isDay_135 : decode cL_isDay 135 = .ok (.aload_n 0, 1) := by decide +kernel
theorem dL_isDay_136 : decode cL_isDay 136 = .ok (.iload 6, 2) := by decide +kernel
theorem dL_isDay_138 : decode cL_isDay 138 = .ok (.iconst 2, 1) := by decide +kernel
theorem dL_isDay_139 : decode cL_isDay 139 = .ok (.invokevirtual 124, 3) := by decide +kernel
theorem dL_isDay_142 : decode cL_isDay 142 = .ok (.aload_n 0, 1) := by decide +kernel
theorem dL_isDay_143 : decode cL_isDay 143 = .ok (.iload 6, 2) := by decide +kernel
theorem dL_isDay_145 : decode cL_isDay 145 = .ok (.iconst 1, 1) := by decide +kernel
theorem dL_isDay_146 : decode cL_isDay 146 = .ok (.invokevirtual 124, 3) := by decide +kernel
theorem dL_isDay_149 : decode cL_isDay 149 = .ok (.isub, 1) := by decide +kernel
theorem dL_isDay_150 : decode cL_isDay 150 = .ok (.iadd, 1) := by decide +kernel
theorem dL_isDay_151 : decode cL_isDay 151 = .ok (.istore 5, 2) := by decide +kernel
theorem dL_isDay_153 : decode cL_isDay 153 = .ok (.iinc 6 1, 3) := by decide +kernel
theorem dL_isDay_156 : decode cL_isDay 156 = .ok (.goto (-41), 3) := by decide +kernel
theorem dL_isDay_159 : decode cL_isDay 159 = .ok (.iload_n 3, 1) := by decide +kernel
theorem dL_isDay_160 : decode cL_isDay 160 = .ok (.iload 4, 2) := by decide +kernel
theorem dL_isDay_162 : decode cL_isDay 162 = .ok (.if_icmp .ne 64, 3) := by decide +kernel
theorem dL_isDay_165 : decode cL_isDay 165 = .ok (.iload 5, 2) := by decide +kernel
theorem dL_isDay_167 : decode cL_isDay 167 = .ok (.ifCond .lt 59, 3) := by decide +kernel
theorem dL_isDay_170 : decode cL_isDay 170 = .ok (.aload_n 0, 1) := by decide +kernel
theorem dL_isDay_171 : decode cL_isDay 171 = .ok (.iload_n 2, 1) := by decide +kernel
theorem dL_isDay_172 : decode cL_isDay 172 = .ok (.invokevirtual 51, 3) := by decide +kernel
theorem dL_isDay_175 : decode cL_isDay 175 = .ok (.aload_n 0, 1) := by decide +kernel
theorem dL_isDay_176 : decode cL_isDay 176 = .ok (.iload_n 2, 1) := by decide +kernel
theorem dL_isDay_177 : decode cL_isDay 177 = .ok (.invokevirtual 114, 3) := by decide +kernel
theorem dL_isDay_180 : decode cL_isDay 180 = .ok (.if_icmp .ne 46, 3) := by decide +kernel
theorem dL_isDay_183 : decode cL_isDay 183 = .ok (.aload_n 0, 1) := by decide +kernel
theorem dL_isDay_184 : decode cL_isDay 184 = .ok (.iload_n 2, 1) := by decide +kernel
theorem dL_isDay_185 : decode cL_isDay 185 = .ok (.invokevirtual 51, 3) := by decide +kernel
theorem dL_isDay_188 : decode cL_isDay 188 = .ok (.aload_n 0, 1) := by decide +kernel
theorem dL_isDay_189 : decode cL_isDay 189 = .ok (.invokevirtual 99, 3) := by decide +kernel
theorem dL_isDay_192 : decode cL_isDay 192 = .ok (.if_icmp .gt 34, 3) := by decide +kernel
theorem dL_isDay_195 : decode cL_isDay 195 = .ok (.aload_n 0, 1) := by decide +kernel
theorem dL_isDay_196 : decode cL_isDay 196 = .ok (.iload_n 2, 1) := by decide +kernel
theorem dL_isDay_197 : decode cL_isDay 197 = .ok (.iconst 0, 1) := by decide +kernel
theorem dL_isDay_198 : decode cL_isDay 198 = .ok (.invokevirtual 48, 3) := by decide +kernel
theorem dL_isDay_201 : decode cL_isDay 201 = .ok (.ifCond .ne 13, 3) := by decide +kernel
theorem dL_isDay_204 : decode cL_isDay 204 = .ok (.aload_n 0, 1) := by decide +kernel
theorem dL_isDay_205 : decode cL_isDay 205 = .ok (.iload_n 2, 1) := by decide +kernel
theorem dL_isDay_206 : decode cL_isDay 206 = .ok (.bipush 7, 2) := by decide +kernel
theorem dL_isDay_208 : decode cL_isDay 208 = .ok (.invokevirtual 48, 3) := by decide +kernel
theorem dL_isDay_211 : decode cL_isDay 211 = .ok (.ifCond .eq 11, 3) := by decide +kernel
theorem dL_isDay_214 : decode cL_isDay 214 = .ok (.aload_n 0, 1) := by decide +kernel
theorem dL_isDay_215 : decode cL_isDay 215 = .ok (.iload_n 2, 1) := by decide +kernel
theorem dL_isDay_216 : decode cL_isDay 216 = .ok (.invokevirtual 51, 3) := by decide +kernel
theorem dL_isDay_219 : decode cL_isDay 219 = .ok (.ifCond .ne 7, 3) := by decide +kernel
theorem dL_isDay_222 : decode cL_isDay 222 = .ok (.iconst 1, 1) := by decide +kernel
theorem dL_isDay_223 : decode cL_isDay 223 = .ok (.goto 4, 3) := by decide +kernel
theorem dL_isDay_226 : decode cL_isDay 226 = .ok (.iconst 0, 1) := by decide +kernel
theorem dL_isDay_227 : decode cL_isDay 227 = .ok (.ireturn, 1) := by decide +kernel
theorem dL_law_0 : decode cL_law 0 = .ok (.new 11, 3) := by decide +kernel
theorem dL_law_3 : decode cL_law 3 = .ok (.dup, 1) := by decide +kernel
theorem dL_law_4 : decode cL_law 4 = .ok (.invokespecial 127, 3) := by decide +kernel
theorem dL_law_7 : decode cL_law 7 = .ok (.astore_n 1, 1) := by decide +kernel
theorem dL_law_8 : decode cL_law 8 = .ok (.iconst 3, 1) := by decide +kernel
theorem dL_law_9 : decode cL_law 9 = .ok (.newarray .int, 2) := by decide +kernel
theorem dL_law_11 : decode cL_law 11 = .ok (.astore_n 2, 1) := by decide +kernel
theorem dL_law_12 : decode cL_law 12 = .ok (.aload_n 1, 1) := by decide +kernel
theorem dL_law_13 : decode cL_law 13 = .ok (.invokevirtual 99, 3) := by decide +kernel
theorem dL_law_16 : decode cL_law 16 = .ok (.ifCond .ne 45, 3) := by decide +kernel
theorem dL_law_19 : decode cL_law 19 = .ok (.aload_n 1, 1) := by decide +kernel
theorem dL_law_20 : decode cL_law 20 = .ok (.iconst 1, 1) := by decide +kernel
theorem dL_law_21 : decode cL_law 21 = .ok (.invokevirtual 110, 3) := by decide +kernel
theorem dL_law_24 : decode cL_law 24 = .ok (.ifCond .ne 37, 3) := by decide +kernel
theorem dL_law_27 : decode cL_law 27 = .ok (.aload_n 1, 1) := by decide +kernel
theorem dL_law_28 : decode cL_law 28 = .ok (.iconst 0, 1) := by decide +kernel
theorem dL_law_29 : decode cL_law 29 = .ok (.iconst 1, 1) := by decide +kernel
theorem dL_law_30 : decode cL_law 30 = .ok (.invokevirtual 92, 3) := by decide +kernel
theorem dL_law_33 : decode cL_law 33 = .ok (.ifCond .ne 28, 3) := by decide +kernel
theorem dL_law_36 : decode cL_law 36 = .ok (.aload_n 1, 1) := by decide +kernel
theorem dL_law_37 : decode cL_law 37 = .ok (.iconst 5, 1) := by decide +kernel
theorem dL_law_38 : decode cL_law 38 = .ok (.iconst 0, 1) := by decide +kernel
theorem dL_law_39 : decode cL_law 39 = .ok (.sipush 240, 3) := by decide +kernel
theorem dL_law_42 : decode cL_law 42 = .ok (.invokevirtual 95, 3) := by decide +kernel
theorem dL_law_45 : decode cL_law 45 = .ok (.ifCond .ne 16, 3) := by decide +kernel
theorem dL_law_48 : decode cL_law 48 = .ok (.aload_n 1, 1) := by decide +kernel
theorem dL_law_49 : decode cL_law 49 = .ok (.iconst 3, 1) := by decide +kernel
theorem dL_law_50 : decode cL_law 50 = .ok (.iconst 2, 1) := by decide +kernel
theorem dL_law_51 : decode cL_law 51 = .ok (.invokevirtual 124, 3) := by decide +kernel
theorem dL_law_54 : decode cL_law 54 = .ok (.ifCond .ne 7, 3) := by decide +kernel
theorem dL_law_57 : decode cL_law 57 = .ok (.iconst 1, 1) := by decide +kernel
theorem dL_law_58 : decode cL_law 58 = .ok (.goto 4, 3) := by decide +kernel
theorem dL_law_61 : decode cL_law 61 = .ok (.iconst 0, 1) := by decide +kernel
theorem dL_law_62 : decode cL_law 62 = .ok (.istore_n 3, 1) := by decide +kernel
theorem dL_law_63 : decode cL_law 63 = .ok (.aload_n 0, 1) := by decide +kernel
theorem dL_law_64 : decode cL_law 64 = .ok (.arraylength, 1) := by decide +kernel
theorem dL_law_65 : decode cL_law 65 = .ok (.iconst 3, 1) := by decide +kernel
theorem dL_law_66 : decode cL_law 66 = .ok (.idiv, 1) := by decide +kernel
theorem dL_law_67 : decode cL_law 67 = .ok (.bipush 80, 2) := by decide +kernel
theorem dL_law_69 : decode cL_law 69 = .ok (.if_icmp .le 8, 3) := by decide +kernel
theorem dL_law_72 : decode cL_law 72 = .ok (.bipush 80, 2) := by decide +kernel
theorem dL_law_74 : decode cL_law 74 = .ok (.goto 7, 3) := by decide +kernel
theorem dL_law_77 : decode cL_law 77 = .ok (.aload_n 0, 1) := by decide +kernel
theorem dL_law_78 : decode cL_law 78 = .ok (.arraylength, 1) := by decide +kernel
theorem dL_law_79 : decode cL_law 79 = .ok (.iconst 3, 1) := by decide +kernel
theorem dL_law_80 : decode cL_law 80 = .ok (.idiv, 1) := by decide +kernel
theorem dL_law_81 : decode cL_law 81 = .ok (.istore 4, 2) := by decide +kernel
theorem dL_law_83 : decode cL_law 83 = .ok (.iconst 0, 1) := by decide +kernel
theorem dL_law_84 : decode cL_law 84 = .ok (.istore 5, 2) := by decide +kernel
theorem dL_law_86 : decode cL_law 86 = .ok (.iload 5, 2) := by decide +kernel
theorem dL_law_88 : decode cL_law 88 = .ok (.iload 4, 2) := by decide +kernel
theorem dL_law_90 : decode cL_law 90 = .ok (.if_icmp .ge 76, 3) := by decide +kernel
theorem dL_law_93 : decode cL_law 93 = .ok (.iload_n 3, 1) := by decide +kernel
theorem dL_law_94 : decode cL_law 94 = .ok (.ifCond .eq 72, 3) := by decide +kernel
theorem dL_law_97 : decode cL_law 97 = .ok (.aload_n 0, 1) := by decide +kernel
theorem dL_law_98 : decode cL_law 98 = .ok (.iconst 3, 1) := by decide +kernel
theorem dL_law_99 : decode cL_law 99 = .ok (.iload 5, 2) := by decide +kernel
theorem dL_law_101 : decode cL_law 101 = .ok (.imul, 1) := by decide +kernel
theorem dL_law_102 : decode cL_law 102 = .ok (.iconst 1, 1) := by decide +kernel
theorem dL_law_103 : decode cL_law 103 = .ok (.iadd, 1) := by decide +kernel
theorem dL_law_104 : decode cL_law 104 = .ok (.invokestatic 128, 3) := by decide +kernel
theorem dL_law_107 : decode cL_law 107 = .ok (.istore 6, 2) := by decide +kernel
theorem dL_law_109 : decode cL_law 109 = .ok (.aload_n 1, 1) := by decide +kernel
theorem dL_law_110 : decode cL_law 110 = .ok (.aload_n 2, 1) := by decide +kernel
theorem dL_law_111 : decode cL_law 111 = .ok (.aload_n 0, 1) := by decide +kernel
theorem dL_law_112 : decode cL_law 112 = .ok (.iconst 3, 1) := by decide +kernel
theorem dL_law_113 : decode cL_law 113 = .ok (.iload 5, 2) := by decide +kernel
theorem dL_law_115 : decode cL_law 115 = .ok (.imul, 1) := by decide +kernel
theorem dL_law_116 : decode cL_law 116 = .ok (.invokestatic 128, 3) := by decide +kernel
theorem dL_law_119 : decode cL_law 119 = .ok (.iload 6, 2) := by decide +kernel
theorem dL_law_121 : decode cL_law 121 = .ok (.aload_n 0, 1) := by decide +kernel
theorem dL_law_122 : decode cL_law 122 = .ok (.iconst 3, 1) := by decide +kernel
theorem dL_law_123 : decode cL_law 123 = .ok (.iload 5, 2) := by decide +kernel
theorem dL_law_125 : decode cL_law 125 = .ok (.imul, 1) := by decide +kernel
theorem dL_law_126 : decode cL_law 126 = .ok (.iconst 2, 1) := by decide +kernel
theorem dL_law_127 : decode cL_law 127 = .ok (.iadd, 1) := by decide +kernel
theorem dL_law_128 : decode cL_law 128 = .ok (.invokestatic 128, 3) := by decide +kernel
theorem dL_law_131 : decode cL_law 131 = .ok (.invokestatic 132, 3) := by decide +kernel
theorem dL_law_134 : decode cL_law 134 = .ok (.ifCond .eq 24, 3) := by decide +kernel
theorem dL_law_137 : decode cL_law 137 = .ok (.aload_n 1, 1) := by decide +kernel
theorem dL_law_138 : decode cL_law 138 = .ok (.aload_n 2, 1) := by decide +kernel
theorem dL_law_139 : decode cL_law 139 = .ok (.iload 6, 2) := by decide +kernel
theorem dL_law_141 : decode cL_law 141 = .ok (.bipush 7, 2) := by decide +kernel
theorem dL_law_143 : decode cL_law 143 = .ok (.idiv, 1) := by decide +kernel
theorem dL_law_144 : decode cL_law 144 = .ok (.aload_n 2, 1) := by decide +kernel
theorem dL_law_145 : decode cL_law 145 = .ok (.iconst 0, 1) := by decide +kernel
theorem dL_law_146 : decode cL_law 146 = .ok (.iaload, 1) := by decide +kernel
theorem dL_law_147 : decode cL_law 147 = .ok (.irem, 1) := by decide +kernel
theorem dL_law_148 : decode cL_law 148 = .ok (.invokestatic 136, 3) := by decide +kernel
theorem dL_law_151 : decode cL_law 151 = .ok (.ifCond .eq 7, 3) := by decide +kernel
theorem dL_law_154 : decode cL_law 154 = .ok (.iconst 1, 1) := by decide +kernel
theorem dL_law_155 : decode cL_law 155 = .ok (.goto 4, 3) := by decide +kernel
theorem dL_law_158 : decode cL_law 158 = .ok (.iconst 0, 1) := by decide +kernel
theorem dL_law_159 : decode cL_law 159 = .ok (.istore_n 3, 1) := by decide +kernel
theorem dL_law_160 : decode cL_law 160 = .ok (.iinc 5 1, 3) := by decide +kernel
theorem dL_law_163 : decode cL_law 163 = .ok (.goto (-77), 3) := by decide +kernel
theorem dL_law_166 : decode cL_law 166 = .ok (.iload_n 3, 1) := by decide +kernel
theorem dL_law_167 : decode cL_law 167 = .ok (.ireturn, 1) := by decide +kernel
