/-! decode rows of the law -/
theorem dL_draw_0 : decode cL_draw 0 = .ok (.iload_n 1, 1) := by decide +kernel
theorem dL_draw_1 : decode cL_draw 1 = .ok (.aload_n 0, 1) := by decide +kernel
theorem dL_draw_2 : decode cL_draw 2 = .ok (.arraylength, 1) := by decide +kernel
theorem dL_draw_3 : decode cL_draw 3 = .ok (.if_icmp .ge 12, 3) := by decide +kernel
theorem dL_draw_6 : decode cL_draw 6 = .ok (.aload_n 0, 1) := by decide +kernel
theorem dL_draw_7 : decode cL_draw 7 = .ok (.iload_n 1, 1) := by decide +kernel
theorem dL_draw_8 : decode cL_draw 8 = .ok (.iaload, 1) := by decide +kernel
theorem dL_draw_9 : decode cL_draw 9 = .ok (.ldc 7, 2) := by decide +kernel
theorem dL_draw_11 : decode cL_draw 11 = .ok (.iand, 1) := by decide +kernel
theorem dL_draw_12 : decode cL_draw 12 = .ok (.goto 12, 3) := by decide +kernel
theorem dL_draw_15 : decode cL_draw 15 = .ok (.ldc 8, 2) := by decide +kernel
theorem dL_draw_17 : decode cL_draw 17 = .ok (.iload_n 1, 1) := by decide +kernel
theorem dL_draw_18 : decode cL_draw 18 = .ok (.iconst 2, 1) := by decide +kernel
theorem dL_draw_19 : decode cL_draw 19 = .ok (.iadd, 1) := by decide +kernel
theorem dL_draw_20 : decode cL_draw 20 = .ok (.imul, 1) := by decide +kernel
theorem dL_draw_21 : decode cL_draw 21 = .ok (.ldc 9, 2) := by decide +kernel
theorem dL_draw_23 : decode cL_draw 23 = .ok (.irem, 1) := by decide +kernel
theorem dL_draw_24 : decode cL_draw 24 = .ok (.ireturn, 1) := by decide +kernel
theorem dL_swaps_0 : decode cL_swaps 0 = .ok (.aload_n 0, 1) := by decide +kernel
theorem dL_swaps_1 : decode cL_swaps 1 = .ok (.iload_n 1, 1) := by decide +kernel
theorem dL_swaps_2 : decode cL_swaps 2 = .ok (.iload_n 2, 1) := by decide +kernel
theorem dL_swaps_3 : decode cL_swaps 3 = .ok (.invokevirtual 10, 3) := by decide +kernel
theorem dL_swaps_6 : decode cL_swaps 6 = .ok (.iconst 1, 1) := by decide +kernel
theorem dL_swaps_7 : decode cL_swaps 7 = .ok (.ireturn, 1) := by decide +kernel
theorem dL_swaps_8 : decode cL_swaps 8 = .ok (.astore_n 3, 1) := by decide +kernel
theorem dL_swaps_9 : decode cL_swaps 9 = .ok (.iconst 0, 1) := by decide +kernel
theorem dL_swaps_10 : decode cL_swaps 10 = .ok (.ireturn, 1) := by decide +kernel
theorem dL_swaps_11 : decode cL_swaps 11 = .ok (.astore_n 3, 1) := by decide +kernel
theorem dL_swaps_12 : decode cL_swaps 12 = .ok (.iconst 0, 1) := by decide +kernel
theorem dL_swaps_13 : decode cL_swaps 13 = .ok (.ireturn, 1) := by decide +kernel
theorem dL_acts_0 : decode cL_acts 0 = .ok (.iload 5, 2) := by decide +kernel
theorem dL_acts_2 : decode cL_acts 2 = .ok (.ifCond .ne 12, 3) := by decide +kernel
theorem dL_acts_5 : decode cL_acts 5 = .ok (.aload_n 0, 1) := by decide +kernel
theorem dL_acts_6 : decode cL_acts 6 = .ok (.iload_n 1, 1) := by decide +kernel
theorem dL_acts_7 : decode cL_acts 7 = .ok (.iload_n 2, 1) := by decide +kernel
theorem dL_acts_8 : decode cL_acts 8 = .ok (.invokevirtual 20, 3) := by decide +kernel
theorem dL_acts_11 : decode cL_acts 11 = .ok (.goto 45, 3) := by decide +kernel
theorem dL_acts_14 : decode cL_acts 14 = .ok (.iload 5, 2) := by decide +kernel
theorem dL_acts_16 : decode cL_acts 16 = .ok (.iconst 1, 1) := by decide +kernel
theorem dL_acts_17 : decode cL_acts 17 = .ok (.if_icmp .ne 15, 3) := by decide +kernel
theorem dL_acts_20 : decode cL_acts 20 = .ok (.aload_n 0, 1) := by decide +kernel
theorem dL_acts_21 : decode cL_acts 21 = .ok (.iload_n 1, 1) := by decide +kernel
theorem dL_acts_22 : decode cL_acts 22 = .ok (.iload_n 2, 1) := by decide +kernel
theorem dL_acts_23 : decode cL_acts 23 = .ok (.iload_n 3, 1) := by decide +kernel
theorem dL_acts_24 : decode cL_acts 24 = .ok (.iload 4, 2) := by decide +kernel
theorem dL_acts_26 : decode cL_acts 26 = .ok (.invokevirtual 24, 3) := by decide +kernel
theorem dL_acts_29 : decode cL_acts 29 = .ok (.goto 27, 3) := by decide +kernel
theorem dL_acts_32 : decode cL_acts 32 = .ok (.iload 5, 2) := by decide +kernel
theorem dL_acts_34 : decode cL_acts 34 = .ok (.iconst 2, 1) := by decide +kernel
theorem dL_acts_35 : decode cL_acts 35 = .ok (.if_icmp .ne 15, 3) := by decide +kernel
theorem dL_acts_38 : decode cL_acts 38 = .ok (.aload_n 0, 1) := by decide +kernel
theorem dL_acts_39 : decode cL_acts 39 = .ok (.iload_n 1, 1) := by decide +kernel
theorem dL_acts_40 : decode cL_acts 40 = .ok (.iload_n 2, 1) := by decide +kernel
theorem dL_acts_41 : decode cL_acts 41 = .ok (.iload_n 3, 1) := by decide +kernel
theorem dL_acts_42 : decode cL_acts 42 = .ok (.iload 4, 2) := by decide +kernel
theorem dL_acts_44 : decode cL_acts 44 = .ok (.invokevirtual 28, 3) := by decide +kernel
theorem dL_acts_47 : decode cL_acts 47 = .ok (.goto 9, 3) := by decide +kernel
theorem dL_acts_50 : decode cL_acts 50 = .ok (.aload_n 0, 1) := by decide +kernel
theorem dL_acts_51 : decode cL_acts 51 = .ok (.iload_n 1, 1) := by decide +kernel
theorem dL_acts_52 : decode cL_acts 52 = .ok (.iload_n 2, 1) := by decide +kernel
theorem dL_acts_53 : decode cL_acts 53 = .ok (.invokevirtual 31, 3) := by decide +kernel
theorem dL_acts_56 : decode cL_acts 56 = .ok (.ireturn, 1) := by decide +kernel
theorem dL_acts_57 : decode cL_acts 57 = .ok (.astore 6, 2) := by decide +kernel
theorem dL_acts_59 : decode cL_acts 59 = .ok (.sipush (-200), 3) := by decide +kernel
theorem dL_acts_62 : decode cL_acts 62 = .ok (.ireturn, 1) := by decide +kernel
theorem dL_ends_0 : decode cL_ends 0 = .ok (.aload_n 0, 1) := by decide +kernel
theorem dL_ends_1 : decode cL_ends 1 = .ok (.iload_n 1, 1) := by decide +kernel
theorem dL_ends_2 : decode cL_ends 2 = .ok (.invokevirtual 34, 3) := by decide +kernel
theorem dL_ends_5 : decode cL_ends 5 = .ok (.iconst 1, 1) := by decide +kernel
theorem dL_ends_6 : decode cL_ends 6 = .ok (.ireturn, 1) := by decide +kernel
theorem dL_ends_7 : decode cL_ends 7 = .ok (.astore_n 2, 1) := by decide +kernel
theorem dL_ends_8 : decode cL_ends 8 = .ok (.iconst 0, 1) := by decide +kernel
theorem dL_ends_9 : decode cL_ends 9 = .ok (.ireturn, 1) := by decide +kernel
theorem dL_exempts_0 : decode cL_exempts 0 = .ok (.aload_n 0, 1) := by decide +kernel
theorem dL_exempts_1 : decode cL_exempts 1 = .ok (.iload_n 1, 1) := by decide +kernel
theorem dL_exempts_2 : decode cL_exempts 2 = .ok (.iload_n 2, 1) := by decide +kernel
theorem dL_exempts_3 : decode cL_exempts 3 = .ok (.invokevirtual 38, 3) := by decide +kernel
theorem dL_exempts_6 : decode cL_exempts 6 = .ok (.ifCond .eq 7, 3) := by decide +kernel
theorem dL_exempts_9 : decode cL_exempts 9 = .ok (.iconst 1, 1) := by decide +kernel
theorem dL_exempts_10 : decode cL_exempts 10 = .ok (.goto 4, 3) := by decide +kernel
theorem dL_exempts_13 : decode cL_exempts 13 = .ok (.iconst 0, 1) := by decide +kernel
theorem dL_exempts_14 : decode cL_exempts 14 = .ok (.ireturn, 1) := by decide +kernel
theorem dL_exempts_15 : decode cL_exempts 15 = .ok (.astore_n 3, 1) := by decide +kernel
theorem dL_exempts_16 : decode cL_exempts 16 = .ok (.sipush (-200), 3) := by decide +kernel
theorem dL_exempts_19 : decode cL_exempts 19 = .ok (.ireturn, 1) := by decide +kernel
theorem dL_step_0 : decode cL_step 0 = .ok (.aload_n 1, 1) := by decide +kernel
theorem dL_step_1 : decode cL_step 1 = .ok (.iconst 0, 1) := by decide +kernel
theorem dL_step_2 : decode cL_step 2 = .ok (.iaload, 1) := by decide +kernel
theorem dL_step_3 : decode cL_step 3 = .ok (.ifCond .ne 7, 3) := by decide +kernel
theorem dL_step_6 : decode cL_step 6 = .ok (.iconst 0, 1) := by decide +kernel
theorem dL_step_7 : decode cL_step 7 = .ok (.goto 8, 3) := by decide +kernel
theorem dL_step_10 : decode cL_step 10 = .ok (.iload_n 3, 1) := by decide +kernel
theorem dL_step_11 : decode cL_step 11 = .ok (.aload_n 1, 1) := by decide +kernel
theorem dL_step_12 : decode cL_step 12 = .ok (.iconst 0, 1) := by decide +kernel
theorem dL_step_13 : decode cL_step 13 = .ok (.iaload, 1) := by decide +kernel
theorem dL_step_14 : decode cL_step 14 = .ok (.irem, 1) := by decide +kernel
theorem dL_step_15 : decode cL_step 15 = .ok (.istore 5, 2) := by decide +kernel
theorem dL_step_17 : decode cL_step 17 = .ok (.aload_n 1, 1) := by decide +kernel
theorem dL_step_18 : decode cL_step 18 = .ok (.iconst 1, 1) := by decide +kernel
theorem dL_step_19 : decode cL_step 19 = .ok (.iaload, 1) := by decide +kernel
theorem dL_step_20 : decode cL_step 20 = .ok (.ifCond .ne 7, 3) := by decide +kernel
theorem dL_step_23 : decode cL_step 23 = .ok (.iconst 0, 1) := by decide +kernel
theorem dL_step_24 : decode cL_step 24 = .ok (.goto 9, 3) := by decide +kernel
theorem dL_step_27 : decode cL_step 27 = .ok (.iload 4, 2) := by decide +kernel
theorem dL_step_29 : decode cL_step 29 = .ok (.aload_n 1, 1) := by decide +kernel
theorem dL_step_30 : decode cL_step 30 = .ok (.iconst 1, 1) := by decide +kernel
theorem dL_step_31 : decode cL_step 31 = .ok (.iaload, 1) := by decide +kernel
theorem dL_step_32 : decode cL_step 32 = .ok (.irem, 1) := by decide +kernel
theorem dL_step_33 : decode cL_step 33 = .ok (.istore 6, 2) := by decide +kernel
theorem dL_step_35 : decode cL_step 35 = .ok (.aload_n 1, 1) := by decide +kernel
theorem dL_step_36 : decode cL_step 36 = .ok (.iconst 0, 1) := by decide +kernel
theorem dL_step_37 : decode cL_step 37 = .ok (.iaload, 1) := by decide +kernel
theorem dL_step_38 : decode cL_step 38 = .ok (.ifCond .ne 7, 3) := by decide +kernel
theorem dL_step_41 : decode cL_step 41 = .ok (.iconst 0, 1) := by decide +kernel
theorem dL_step_42 : decode cL_step 42 = .ok (.goto 7, 3) := by decide +kernel
theorem dL_step_45 : decode cL_step 45 = .ok (.iload_n 2, 1) := by decide +kernel
theorem dL_step_46 : decode cL_step 46 = .ok (.bipush 26, 2) := by decide +kernel
theorem dL_step_48 : decode cL_step 48 = .ok (.irem, 1) := by decide +kernel
theorem dL_step_49 : decode cL_step 49 = .ok (.tableswitch 986 0 21 #[103, 103, 103, 245, 245, 245, 245, 245, 393, 393, 589, 691, 736, 805, 805, 805, 805, 824, 824, 824, 834, 916], 103) := by decide +kernel
theorem dL_step_152 : decode cL_step 152 = .ok (.iload_n 3, 1) := by decide +kernel
theorem dL_step_153 : decode cL_step 153 = .ok (.iconst 4, 1) := by decide +kernel
theorem dL_step_154 : decode cL_step 154 = .ok (.irem, 1) := by decide +kernel
theorem dL_step_155 : decode cL_step 155 = .ok (.ifCond .ne 13, 3) := by decide +kernel
theorem dL_step_158 : decode cL_step 158 = .ok (.iload_n 3, 1) := by decide +kernel
theorem dL_step_159 : decode cL_step 159 = .ok (.iconst 4, 1) := by decide +kernel
theorem dL_step_160 : decode cL_step 160 = .ok (.idiv, 1) := by decide +kernel
theorem dL_step_161 : decode cL_step 161 = .ok (.sipush 1440, 3) := by decide +kernel
theorem dL_step_164 : decode cL_step 164 = .ok (.irem, 1) := by decide +kernel
theorem dL_step_165 : decode cL_step 165 = .ok (.goto 13, 3) := by decide +kernel
theorem dL_step_168 : decode cL_step 168 = .ok (.sipush 400, 3) := by decide +kernel
theorem dL_step_171 : decode cL_step 171 = .ok (.iload_n 3, 1) := by decide +kernel
theorem dL_step_172 : decode cL_step 172 = .ok (.iconst 4, 1) := by decide +kernel
theorem dL_step_173 : decode cL_step 173 = .ok (.idiv, 1) := by decide +kernel
theorem dL_step_174 : decode cL_step 174 = .ok (.bipush 40, 2) := by decide +kernel
theorem dL_step_176 : decode cL_step 176 = .ok (.irem, 1) := by decide +kernel
theorem dL_step_177 : decode cL_step 177 = .ok (.iadd, 1) := by decide +kernel
theorem dL_step_178 : decode cL_step 178 = .ok (.istore 7, 2) := by decide +kernel
theorem dL_step_180 : decode cL_step 180 = .ok (.aload_n 0, 1) := by decide +kernel
theorem dL_step_181 : decode cL_step 181 = .ok (.iload 4, 2) := by decide +kernel
theorem dL_step_183 : decode cL_step 183 = .ok (.iconst 4, 1) := by decide +kernel
theorem dL_step_184 : decode cL_step 184 = .ok (.irem, 1) := by decide +kernel
theorem dL_step_185 : decode cL_step 185 = .ok (.iload 7, 2) := by decide +kernel
theorem dL_step_187 : decode cL_step 187 = .ok (.iconst 0, 1) := by decide +kernel
theorem dL_step_188 : decode cL_step 188 = .ok (.iconst 0, 1) := by decide +kernel
theorem dL_step_189 : decode cL_step 189 = .ok (.iconst 0, 1) := by decide +kernel
theorem dL_step_190 : decode cL_step 190 = .ok (.invokestatic 42, 3) := by decide +kernel
theorem dL_step_193 : decode cL_step 193 = .ok (.istore 8, 2) := by decide +kernel
theorem dL_step_195 : decode cL_step 195 = .ok (.aload_n 1, 1) := by decide +kernel
theorem dL_step_196 : decode cL_step 196 = .ok (.iconst 0, 1) := by decide +kernel
theorem dL_step_197 : decode cL_step 197 = .ok (.dup2, 1) := by decide +kernel
theorem dL_step_198 : decode cL_step 198 = .ok (.iaload, 1) := by decide +kernel
theorem dL_step_199 : decode cL_step 199 = .ok (.iload 8, 2) := by decide +kernel
theorem dL_step_201 : decode cL_step 201 = .ok (.ifCond .ge 7, 3) := by decide +kernel
theorem dL_step_204 : decode cL_step 204 = .ok (.iconst 0, 1) := by decide +kernel
theorem dL_step_205 : decode cL_step 205 = .ok (.goto 4, 3) := by decide +kernel
theorem dL_step_208 : decode cL_step 208 = .ok (.iconst 1, 1) := by decide +kernel
theorem dL_step_209 : decode cL_step 209 = .ok (.iadd, 1) := by decide +kernel
theorem dL_step_210 : decode cL_step 210 = .ok (.iastore, 1) := by decide +kernel
theorem dL_step_211 : decode cL_step 211 = .ok (.iload 8, 2) := by decide +kernel
theorem dL_step_213 : decode cL_step 213 = .ok (.sipush (-200), 3) := by decide +kernel
theorem dL_step_216 : decode cL_step 216 = .ok (.if_icmp .ne 19, 3) := by decide +kernel
theorem dL_step_219 : decode cL_step 219 = .ok (.aload_n 1, 1) := by decide +kernel
theorem dL_step_220 : decode cL_step 220 = .ok (.iconst 0, 1) := by decide +kernel
theorem dL_step_221 : decode cL_step 221 = .ok (.iaload, 1) := by decide +kernel
theorem dL_step_222 : decode cL_step 222 = .ok (.bipush 24, 2) := by decide +kernel
theorem dL_step_224 : decode cL_step 224 = .ok (.if_icmp .ne 7, 3) := by decide +kernel
theorem dL_step_227 : decode cL_step 227 = .ok (.iconst 1, 1) := by decide +kernel
theorem dL_step_228 : decode cL_step 228 = .ok (.goto 65, 3) := by decide +kernel
theorem dL_step_231 : decode cL_step 231 = .ok (.iconst 0, 1) := by decide +kernel
theorem dL_step_232 : decode cL_step 232 = .ok (.goto 61, 3) := by decide +kernel
theorem dL_step_235 : decode cL_step 235 = .ok (.iload 8, 2) := by decide +kernel
theorem dL_step_237 : decode cL_step 237 = .ok (.aload_n 1, 1) := by decide +kernel
theorem dL_step_238 : decode cL_step 238 = .ok (.iconst 0, 1) := by decide +kernel
theorem dL_step_239 : decode cL_step 239 = .ok (.iaload, 1) := by decide +kernel
theorem dL_step_240 : decode cL_step 240 = .ok (.iconst 1, 1) := by decide +kernel
theorem dL_step_241 : decode cL_step 241 = .ok (.isub, 1) := by decide +kernel
theorem dL_step_242 : decode cL_step 242 = .ok (.if_icmp .ne 50, 3) := by decide +kernel
theorem dL_step_245 : decode cL_step 245 = .ok (.aload_n 0, 1) := by decide +kernel
theorem dL_step_246 : decode cL_step 246 = .ok (.iload 8, 2) := by decide +kernel
theorem dL_step_248 : decode cL_step 248 = .ok (.iconst 4, 1) := by decide +kernel
theorem dL_step_249 : decode cL_step 249 = .ok (.invokevirtual 48, 3) := by decide +kernel
theorem dL_step_252 : decode cL_step 252 = .ok (.iload 7, 2) := by decide +kernel
theorem dL_step_254 : decode cL_step 254 = .ok (.if_icmp .ne 38, 3) := by decide +kernel
theorem dL_step_257 : decode cL_step 257 = .ok (.aload_n 0, 1) := by decide +kernel
theorem dL_step_258 : decode cL_step 258 = .ok (.iload 8, 2) := by decide +kernel
theorem dL_step_260 : decode cL_step 260 = .ok (.iconst 2, 1) := by decide +kernel
theorem dL_step_261 : decode cL_step 261 = .ok (.invokevirtual 48, 3) := by decide +kernel
theorem dL_step_264 : decode cL_step 264 = .ok (.iconst (-1), 1) := by decide +kernel
theorem dL_step_265 : decode cL_step 265 = .ok (.if_icmp .ne 27, 3) := by decide +kernel
theorem dL_step_268 : decode cL_step 268 = .ok (.aload_n 0, 1) := by decide +kernel
theorem dL_step_269 : decode cL_step 269 = .ok (.iload 8, 2) := by decide +kernel
theorem dL_step_271 : decode cL_step 271 = .ok (.iconst 3, 1) := by decide +kernel
theorem dL_step_272 : decode cL_step 272 = .ok (.invokevirtual 48, 3) := by decide +kernel
theorem dL_step_275 : decode cL_step 275 = .ok (.iconst (-1), 1) := by decide +kernel
theorem dL_step_276 : decode cL_step 276 = .ok (.if_icmp .ne 16, 3) := by decide +kernel
theorem dL_step_279 : decode cL_step 279 = .ok (.aload_n 0, 1) := by decide +kernel
theorem dL_step_280 : decode cL_step 280 = .ok (.iload 8, 2) := by decide +kernel
theorem dL_step_282 : decode cL_step 282 = .ok (.invokevirtual 51, 3) := by decide +kernel
theorem dL_step_285 : decode cL_step 285 = .ok (.ifCond .ne 7, 3) := by decide +kernel
theorem dL_step_288 : decode cL_step 288 = .ok (.iconst 1, 1) := by decide +kernel
theorem dL_step_289 : decode cL_step 289 = .ok (.goto 4, 3) := by decide +kernel
theorem dL_step_292 : decode cL_step 292 = .ok (.iconst 0, 1) := by decide +kernel
theorem dL_step_293 : decode cL_step 293 = .ok (.ireturn, 1) := by decide +kernel
theorem dL_step_294 : decode cL_step 294 = .ok (.aload_n 0, 1) := by decide +kernel
theorem dL_step_295 : decode cL_step 295 = .ok (.iload 5, 2) := by decide +kernel
theorem dL_step_297 : decode cL_step 297 = .ok (.iconst 5, 1) := by decide +kernel
theorem dL_step_298 : decode cL_step 298 = .ok (.invokevirtual 48, 3) := by decide +kernel
theorem dL_step_301 : decode cL_step 301 = .ok (.istore 9, 2) := by decide +kernel
theorem dL_step_303 : decode cL_step 303 = .ok (.aload_n 0, 1) := by decide +kernel
theorem dL_step_304 : decode cL_step 304 = .ok (.iload 5, 2) := by decide +kernel
theorem dL_step_306 : decode cL_step 306 = .ok (.iload 4, 2) := by decide +kernel
theorem dL_step_308 : decode cL_step 308 = .ok (.bipush 6, 2) := by decide +kernel
theorem dL_step_310 : decode cL_step 310 = .ok (.irem, 1) := by decide +kernel
theorem dL_step_311 : decode cL_step 311 = .ok (.iload 4, 2) := by decide +kernel
theorem dL_step_313 : decode cL_step 313 = .ok (.bipush 6, 2) := by decide +kernel
theorem dL_step_315 : decode cL_step 315 = .ok (.idiv, 1) := by decide +kernel
theorem dL_step_316 : decode cL_step 316 = .ok (.bipush 50, 2) := by decide +kernel
theorem dL_step_318 : decode cL_step 318 = .ok (.irem, 1) := by decide +kernel
theorem dL_step_319 : decode cL_step 319 = .ok (.iconst 1, 1) := by decide +kernel
theorem dL_step_320 : decode cL_step 320 = .ok (.iload 4, 2) := by decide +kernel
theorem dL_step_322 : decode cL_step 322 = .ok (.sipush 512, 3) := by decide +kernel
theorem dL_step_325 : decode cL_step 325 = .ok (.idiv, 1) := by decide +kernel
theorem dL_step_326 : decode cL_step 326 = .ok (.bipush 120, 2) := by decide +kernel
theorem dL_step_328 : decode cL_step 328 = .ok (.irem, 1) := by decide +kernel
theorem dL_step_329 : decode cL_step 329 = .ok (.iadd, 1) := by decide +kernel
theorem dL_step_330 : decode cL_step 330 = .ok (.iconst 1, 1) := by decide +kernel
theorem dL_step_331 : decode cL_step 331 = .ok (.invokestatic 42, 3) := by decide +kernel
theorem dL_step_334 : decode cL_step 334 = .ok (.istore 10, 2) := by decide +kernel
theorem dL_step_336 : decode cL_step 336 = .ok (.iload 10, 2) := by decide +kernel
theorem dL_step_338 : decode cL_step 338 = .ok (.sipush (-200), 3) := by decide +kernel
theorem dL_step_341 : decode cL_step 341 = .ok (.if_icmp .ne 23, 3) := by decide +kernel
theorem dL_step_344 : decode cL_step 344 = .ok (.aload_n 0, 1) := by decide +kernel
theorem dL_step_345 : decode cL_step 345 = .ok (.iload 5, 2) := by decide +kernel
theorem dL_step_347 : decode cL_step 347 = .ok (.iconst 5, 1) := by decide +kernel
theorem dL_step_348 : decode cL_step 348 = .ok (.invokevirtual 48, 3) := by decide +kernel
theorem dL_step_351 : decode cL_step 351 = .ok (.iload 9, 2) := by decide +kernel
theorem dL_step_353 : decode cL_step 353 = .ok (.if_icmp .ne 7, 3) := by decide +kernel
theorem dL_step_356 : decode cL_step 356 = .ok (.iconst 1, 1) := by decide +kernel
theorem dL_step_357 : decode cL_step 357 = .ok (.goto 84, 3) := by decide +kernel
theorem dL_step_360 : decode cL_step 360 = .ok (.iconst 0, 1) := by decide +kernel
theorem dL_step_361 : decode cL_step 361 = .ok (.goto 80, 3) := by decide +kernel
theorem dL_step_364 : decode cL_step 364 = .ok (.iload 10, 2) := by decide +kernel
theorem dL_step_366 : decode cL_step 366 = .ok (.iload 9, 2) := by decide +kernel
theorem dL_step_368 : decode cL_step 368 = .ok (.iconst 1, 1) := by decide +kernel
theorem dL_step_369 : decode cL_step 369 = .ok (.iadd, 1) := by decide +kernel
theorem dL_step_370 : decode cL_step 370 = .ok (.if_icmp .ne 70, 3) := by decide +kernel
theorem dL_step_373 : decode cL_step 373 = .ok (.aload_n 0, 1) := by decide +kernel
theorem dL_step_374 : decode cL_step 374 = .ok (.iload 5, 2) := by decide +kernel
theorem dL_step_376 : decode cL_step 376 = .ok (.iload 4, 2) := by decide +kernel
theorem dL_step_378 : decode cL_step 378 = .ok (.bipush 6, 2) := by decide +kernel
theorem dL_step_380 : decode cL_step 380 = .ok (.irem, 1) := by decide +kernel
theorem dL_step_381 : decode cL_step 381 = .ok (.invokevirtual 55, 3) := by decide +kernel
theorem dL_step_384 : decode cL_step 384 = .ok (.aload_n 0, 1) := by decide +kernel
theorem dL_step_385 : decode cL_step 385 = .ok (.iload 5, 2) := by decide +kernel
theorem dL_step_387 : decode cL_step 387 = .ok (.iconst 4, 1) := by decide +kernel
theorem dL_step_388 : decode cL_step 388 = .ok (.invokevirtual 48, 3) := by decide +kernel
theorem dL_step_391 : decode cL_step 391 = .ok (.iload 4, 2) := by decide +kernel
theorem dL_step_393 : decode cL_step 393 = .ok (.bipush 6, 2) := by decide +kernel
theorem dL_step_395 : decode cL_step 395 = .ok (.idiv, 1) := by decide +kernel
theorem dL_step_396 : decode cL_step 396 = .ok (.bipush 50, 2) := by decide +kernel
theorem dL_step_398 : decode cL_step 398 = .ok (.irem, 1) := by decide +kernel
theorem dL_step_399 : decode cL_step 399 = .ok (.iadd, 1) := by decide +kernel
theorem dL_step_400 : decode cL_step 400 = .ok (.if_icmp .ne 40, 3) := by decide +kernel
theorem dL_step_403 : decode cL_step 403 = .ok (.aload_n 0, 1) := by decide +kernel
theorem dL_step_404 : decode cL_step 404 = .ok (.iload 5, 2) := by decide +kernel
theorem dL_step_406 : decode cL_step 406 = .ok (.iconst 0, 1) := by decide +kernel
theorem dL_step_407 : decode cL_step 407 = .ok (.invokevirtual 48, 3) := by decide +kernel
theorem dL_step_410 : decode cL_step 410 = .ok (.ifCond .ne 30, 3) := by decide +kernel
theorem dL_step_413 : decode cL_step 413 = .ok (.aload_n 0, 1) := by decide +kernel
theorem dL_step_414 : decode cL_step 414 = .ok (.iload 4, 2) := by decide +kernel
theorem dL_step_416 : decode cL_step 416 = .ok (.bipush 6, 2) := by decide +kernel
theorem dL_step_418 : decode cL_step 418 = .ok (.irem, 1) := by decide +kernel
theorem dL_step_419 : decode cL_step 419 = .ok (.aload_n 0, 1) := by decide +kernel
theorem dL_step_420 : decode cL_step 420 = .ok (.iload 5, 2) := by decide +kernel
theorem dL_step_422 : decode cL_step 422 = .ok (.iload 4, 2) := by decide +kernel
theorem dL_step_424 : decode cL_step 424 = .ok (.bipush 6, 2) := by decide +kernel
theorem dL_step_426 : decode cL_step 426 = .ok (.irem, 1) := by decide +kernel
theorem dL_step_427 : decode cL_step 427 = .ok (.invokevirtual 55, 3) := by decide +kernel
theorem dL_step_430 : decode cL_step 430 = .ok (.invokevirtual 58, 3) := by decide +kernel
theorem dL_step_433 : decode cL_step 433 = .ok (.ifCond .le 7, 3) := by decide +kernel
theorem dL_step_436 : decode cL_step 436 = .ok (.iconst 1, 1) := by decide +kernel
theorem dL_step_437 : decode cL_step 437 = .ok (.goto 4, 3) := by decide +kernel
theorem dL_step_440 : decode cL_step 440 = .ok (.iconst 0, 1) := by decide +kernel
theorem dL_step_441 : decode cL_step 441 = .ok (.ireturn, 1) := by decide +kernel
theorem dL_step_442 : decode cL_step 442 = .ok (.iload_n 3, 1) := by decide +kernel
theorem dL_step_443 : decode cL_step 443 = .ok (.iconst 5, 1) := by decide +kernel
theorem dL_step_444 : decode cL_step 444 = .ok (.irem, 1) := by decide +kernel
theorem dL_step_445 : decode cL_step 445 = .ok (.ifCond .ne 13, 3) := by decide +kernel
theorem dL_step_448 : decode cL_step 448 = .ok (.iload_n 3, 1) := by decide +kernel
theorem dL_step_449 : decode cL_step 449 = .ok (.iconst 5, 1) := by decide +kernel
theorem dL_step_450 : decode cL_step 450 = .ok (.idiv, 1) := by decide +kernel
theorem dL_step_451 : decode cL_step 451 = .ok (.sipush 1440, 3) := by decide +kernel
theorem dL_step_454 : decode cL_step 454 = .ok (.irem, 1) := by decide +kernel
theorem dL_step_455 : decode cL_step 455 = .ok (.goto 13, 3) := by decide +kernel
theorem dL_step_458 : decode cL_step 458 = .ok (.sipush 390, 3) := by decide +kernel
theorem dL_step_461 : decode cL_step 461 = .ok (.iload_n 3, 1) := by decide +kernel
theorem dL_step_462 : decode cL_step 462 = .ok (.iconst 5, 1) := by decide +kernel
theorem dL_step_463 : decode cL_step 463 = .ok (.idiv, 1) := by decide +kernel
theorem dL_step_464 : decode cL_step 464 = .ok (.bipush 60, 2) := by decide +kernel
theorem dL_step_466 : decode cL_step 466 = .ok (.irem, 1) := by decide +kernel
theorem dL_step_467 : decode cL_step 467 = .ok (.iadd, 1) := by decide +kernel
theorem dL_step_468 : decode cL_step 468 = .ok (.istore 11, 2) := by decide +kernel
theorem dL_step_470 : decode cL_step 470 = .ok (.iload 11, 2) := by decide +kernel
theorem dL_step_472 : decode cL_step 472 = .ok (.iconst 1, 1) := by decide +kernel
theorem dL_step_473 : decode cL_step 473 = .ok (.iadd, 1) := by decide +kernel
theorem dL_step_474 : decode cL_step 474 = .ok (.iload 4, 2) := by decide +kernel
theorem dL_step_476 : decode cL_step 476 = .ok (.bipush 60, 2) := by decide +kernel
theorem dL_step_478 : decode cL_step 478 = .ok (.irem, 1) := by decide +kernel
theorem dL_step_479 : decode cL_step 479 = .ok (.iadd, 1) := by decide +kernel
theorem dL_step_480 : decode cL_step 480 = .ok (.sipush 1440, 3) := by decide +kernel
theorem dL_step_483 : decode cL_step 483 = .ok (.if_icmp .le 9, 3) := by decide +kernel
theorem dL_step_486 : decode cL_step 486 = .ok (.sipush 1440, 3) := by decide +kernel
theorem dL_step_489 : decode cL_step 489 = .ok (.goto 13, 3) := by decide +kernel
theorem dL_step_492 : decode cL_step 492 = .ok (.iload 11, 2) := by decide +kernel
theorem dL_step_494 : decode cL_step 494 = .ok (.iconst 1, 1) := by decide +kernel
theorem dL_step_495 : decode cL_step 495 = .ok (.iadd, 1) := by decide +kernel
theorem dL_step_496 : decode cL_step 496 = .ok (.iload 4, 2) := by decide +kernel
theorem dL_step_498 : decode cL_step 498 = .ok (.bipush 60, 2) := by decide +kernel
theorem dL_step_500 : decode cL_step 500 = .ok (.irem, 1) := by decide +kernel
theorem dL_step_501 : decode cL_step 501 = .ok (.iadd, 1) := by decide +kernel
theorem dL_step_502 : decode cL_step 502 = .ok (.istore 12, 2) := by decide +kernel
theorem dL_step_504 : decode cL_step 504 = .ok (.aload_n 0, 1) := by decide +kernel
theorem dL_step_505 : decode cL_step 505 = .ok (.iload 4, 2) := by decide +kernel
theorem dL_step_507 : decode cL_step 507 = .ok (.bipush 6, 2) := by decide +kernel
theorem dL_step_509 : decode cL_step 509 = .ok (.irem, 1) := by decide +kernel
theorem dL_step_510 : decode cL_step 510 = .ok (.iload 11, 2) := by decide +kernel
theorem dL_step_512 : decode cL_step 512 = .ok (.iload 12, 2) := by decide +kernel
theorem dL_step_514 : decode cL_step 514 = .ok (.iload_n 3, 1) := by decide +kernel
theorem dL_step_515 : decode cL_step 515 = .ok (.sipush 4096, 3) := by decide +kernel
theorem dL_step_518 : decode cL_step 518 = .ok (.idiv, 1) := by decide +kernel
theorem dL_step_519 : decode cL_step 519 = .ok (.bipush 16, 2) := by decide +kernel
theorem dL_step_521 : decode cL_step 521 = .ok (.irem, 1) := by decide +kernel
theorem dL_step_522 : decode cL_step 522 = .ok (.iconst 2, 1) := by decide +kernel
theorem dL_step_523 : decode cL_step 523 = .ok (.invokestatic 42, 3) := by decide +kernel
theorem dL_step_526 : decode cL_step 526 = .ok (.istore 13, 2) := by decide +kernel
theorem dL_step_528 : decode cL_step 528 = .ok (.aload_n 1, 1) := by decide +kernel
theorem dL_step_529 : decode cL_step 529 = .ok (.iconst 1, 1) := by decide +kernel
theorem dL_step_530 : decode cL_step 530 = .ok (.dup2, 1) := by decide +kernel
theorem dL_step_531 : decode cL_step 531 = .ok (.iaload, 1) := by decide +kernel
theorem dL_step_532 : decode cL_step 532 = .ok (.iload 13, 2) := by decide +kernel
theorem dL_step_534 : decode cL_step 534 = .ok (.ifCond .ge 7, 3) := by decide +kernel
theorem dL_step_537 : decode cL_step 537 = .ok (.iconst 0, 1) := by decide +kernel
theorem dL_step_538 : decode cL_step 538 = .ok (.goto 4, 3) := by decide +kernel
theorem dL_step_541 : decode cL_step 541 = .ok (.iconst 1, 1) := by decide +kernel
theorem dL_step_542 : decode cL_step 542 = .ok (.iadd, 1) := by decide +kernel
theorem dL_step_543 : decode cL_step 543 = .ok (.iastore, 1) := by decide +kernel
theorem dL_step_544 : decode cL_step 544 = .ok (.iload 13, 2) := by decide +kernel
theorem dL_step_546 : decode cL_step 546 = .ok (.sipush (-200), 3) := by decide +kernel
theorem dL_step_549 : decode cL_step 549 = .ok (.if_icmp .ne 19, 3) := by decide +kernel
theorem dL_step_552 : decode cL_step 552 = .ok (.aload_n 1, 1) := by decide +kernel
theorem dL_step_553 : decode cL_step 553 = .ok (.iconst 1, 1) := by decide +kernel
theorem dL_step_554 : decode cL_step 554 = .ok (.iaload, 1) := by decide +kernel
theorem dL_step_555 : decode cL_step 555 = .ok (.bipush 6, 2) := by decide +kernel
theorem dL_step_557 : decode cL_step 557 = .ok (.if_icmp .ne 7, 3) := by decide +kernel
theorem dL_step_560 : decode cL_step 560 = .ok (.iconst 1, 1) := by decide +kernel
theorem dL_step_561 : decode cL_step 561 = .ok (.goto 76, 3) := by decide +kernel
theorem dL_step_564 : decode cL_step 564 = .ok (.iconst 0, 1) := by decide +kernel
theorem dL_step_565 : decode cL_step 565 = .ok (.goto 72, 3) := by decide +kernel
theorem dL_step_568 : decode cL_step 568 = .ok (.iload 13, 2) := by decide +kernel
theorem dL_step_570 : decode cL_step 570 = .ok (.aload_n 1, 1) := by decide +kernel
theorem dL_step_571 : decode cL_step 571 = .ok (.iconst 1, 1) := by decide +kernel
theorem dL_step_572 : decode cL_step 572 = .ok (.iaload, 1) := by decide +kernel
theorem dL_step_573 : decode cL_step 573 = .ok (.iconst 1, 1) := by decide +kernel
theorem dL_step_574 : decode cL_step 574 = .ok (.isub, 1) := by decide +kernel
theorem dL_step_575 : decode cL_step 575 = .ok (.if_icmp .ne 61, 3) := by decide +kernel
theorem dL_step_578 : decode cL_step 578 = .ok (.aload_n 0, 1) := by decide +kernel
theorem dL_step_579 : decode cL_step 579 = .ok (.iload 13, 2) := by decide +kernel
theorem dL_step_581 : decode cL_step 581 = .ok (.iconst 5, 1) := by decide +kernel
theorem dL_step_582 : decode cL_step 582 = .ok (.invokevirtual 61, 3) := by decide +kernel
theorem dL_step_585 : decode cL_step 585 = .ok (.iload_n 3, 1) := by decide +kernel
theorem dL_step_586 : decode cL_step 586 = .ok (.sipush 4096, 3) := by decide +kernel
theorem dL_step_589 : decode cL_step 589 = .ok (.idiv, 1) := by decide +kernel
theorem dL_step_590 : decode cL_step 590 = .ok (.bipush 16, 2) := by decide +kernel
theorem dL_step_592 : decode cL_step 592 = .ok (.irem, 1) := by decide +kernel
theorem dL_step_593 : decode cL_step 593 = .ok (.if_icmp .ne 43, 3) := by decide +kernel
theorem dL_step_596 : decode cL_step 596 = .ok (.aload_n 0, 1) := by decide +kernel
theorem dL_step_597 : decode cL_step 597 = .ok (.iload 13, 2) := by decide +kernel
theorem dL_step_599 : decode cL_step 599 = .ok (.iconst 0, 1) := by decide +kernel
theorem dL_step_600 : decode cL_step 600 = .ok (.invokevirtual 64, 3) := by decide +kernel
theorem dL_step_603 : decode cL_step 603 = .ok (.iload_n 3, 1) := by decide +kernel
theorem dL_step_604 : decode cL_step 604 = .ok (.sipush 4096, 3) := by decide +kernel
theorem dL_step_607 : decode cL_step 607 = .ok (.idiv, 1) := by decide +kernel
theorem dL_step_608 : decode cL_step 608 = .ok (.bipush 16, 2) := by decide +kernel
theorem dL_step_610 : decode cL_step 610 = .ok (.irem, 1) := by decide +kernel
theorem dL_step_611 : decode cL_step 611 = .ok (.ifCond .ne 7, 3) := by decide +kernel
theorem dL_step_614 : decode cL_step 614 = .ok (.iconst (-1), 1) := by decide +kernel
theorem dL_step_615 : decode cL_step 615 = .ok (.goto 5, 3) := by decide +kernel
theorem dL_step_618 : decode cL_step 618 = .ok (.iload 11, 2) := by decide +kernel
theorem dL_step_620 : decode cL_step 620 = .ok (.if_icmp .ne 16, 3) := by decide +kernel
theorem dL_step_623 : decode cL_step 623 = .ok (.aload_n 0, 1) := by decide +kernel
theorem dL_step_624 : decode cL_step 624 = .ok (.iload 13, 2) := by decide +kernel
theorem dL_step_626 : decode cL_step 626 = .ok (.invokestatic 67, 3) := by decide +kernel
theorem dL_step_629 : decode cL_step 629 = .ok (.ifCond .eq 7, 3) := by decide +kernel
theorem dL_step_632 : decode cL_step 632 = .ok (.iconst 1, 1) := by decide +kernel
theorem dL_step_633 : decode cL_step 633 = .ok (.goto 4, 3) := by decide +kernel
theorem dL_step_636 : decode cL_step 636 = .ok (.iconst 0, 1) := by decide +kernel
theorem dL_step_637 : decode cL_step 637 = .ok (.ireturn, 1) := by decide +kernel
theorem dL_step_638 : decode cL_step 638 = .ok (.aload_n 0, 1) := by decide +kernel
theorem dL_step_639 : decode cL_step 639 = .ok (.iload 5, 2) := by decide +kernel
theorem dL_step_641 : decode cL_step 641 = .ok (.iload 4, 2) := by decide +kernel
theorem dL_step_643 : decode cL_step 643 = .ok (.iconst 3, 1) := by decide +kernel
theorem dL_step_644 : decode cL_step 644 = .ok (.irem, 1) := by decide +kernel
theorem dL_step_645 : decode cL_step 645 = .ok (.ifCond .ne 7, 3) := by decide +kernel
theorem dL_step_648 : decode cL_step 648 = .ok (.iconst 1, 1) := by decide +kernel
theorem dL_step_649 : decode cL_step 649 = .ok (.goto 4, 3) := by decide +kernel
theorem dL_step_652 : decode cL_step 652 = .ok (.iconst 0, 1) := by decide +kernel
theorem dL_step_653 : decode cL_step 653 = .ok (.invokestatic 71, 3) := by decide +kernel
theorem dL_step_656 : decode cL_step 656 = .ok (.istore 14, 2) := by decide +kernel
theorem dL_step_658 : decode cL_step 658 = .ok (.iload 14, 2) := by decide +kernel
theorem dL_step_660 : decode cL_step 660 = .ok (.sipush (-200), 3) := by decide +kernel
theorem dL_step_663 : decode cL_step 663 = .ok (.if_icmp .ne 21, 3) := by decide +kernel
theorem dL_step_666 : decode cL_step 666 = .ok (.aload_n 0, 1) := by decide +kernel
theorem dL_step_667 : decode cL_step 667 = .ok (.iload 5, 2) := by decide +kernel
theorem dL_step_669 : decode cL_step 669 = .ok (.iconst 0, 1) := by decide +kernel
theorem dL_step_670 : decode cL_step 670 = .ok (.invokevirtual 48, 3) := by decide +kernel
theorem dL_step_673 : decode cL_step 673 = .ok (.ifCond .le 7, 3) := by decide +kernel
theorem dL_step_676 : decode cL_step 676 = .ok (.iconst 1, 1) := by decide +kernel
theorem dL_step_677 : decode cL_step 677 = .ok (.goto 62, 3) := by decide +kernel
theorem dL_step_680 : decode cL_step 680 = .ok (.iconst 0, 1) := by decide +kernel
theorem dL_step_681 : decode cL_step 681 = .ok (.goto 58, 3) := by decide +kernel
theorem dL_step_684 : decode cL_step 684 = .ok (.aload_n 0, 1) := by decide +kernel
theorem dL_step_685 : decode cL_step 685 = .ok (.iload 5, 2) := by decide +kernel
theorem dL_step_687 : decode cL_step 687 = .ok (.bipush 7, 2) := by decide +kernel
theorem dL_step_689 : decode cL_step 689 = .ok (.invokevirtual 48, 3) := by decide +kernel
theorem dL_step_692 : decode cL_step 692 = .ok (.iload 4, 2) := by decide +kernel
theorem dL_step_694 : decode cL_step 694 = .ok (.iconst 3, 1) := by decide +kernel
theorem dL_step_695 : decode cL_step 695 = .ok (.irem, 1) := by decide +kernel
theorem dL_step_696 : decode cL_step 696 = .ok (.ifCond .ne 7, 3) := by decide +kernel
theorem dL_step_699 : decode cL_step 699 = .ok (.iconst 1, 1) := by decide +kernel
theorem dL_step_700 : decode cL_step 700 = .ok (.goto 4, 3) := by decide +kernel
theorem dL_step_703 : decode cL_step 703 = .ok (.iconst 0, 1) := by decide +kernel
theorem dL_step_704 : decode cL_step 704 = .ok (.if_icmp .ne 34, 3) := by decide +kernel
theorem dL_step_707 : decode cL_step 707 = .ok (.iload 4, 2) := by decide +kernel
theorem dL_step_709 : decode cL_step 709 = .ok (.iconst 3, 1) := by decide +kernel
theorem dL_step_710 : decode cL_step 710 = .ok (.irem, 1) := by decide +kernel
theorem dL_step_711 : decode cL_step 711 = .ok (.ifCond .gt 23, 3) := by decide +kernel
theorem dL_step_714 : decode cL_step 714 = .ok (.aload_n 0, 1) := by decide +kernel
theorem dL_step_715 : decode cL_step 715 = .ok (.iload 5, 2) := by decide +kernel
theorem dL_step_717 : decode cL_step 717 = .ok (.iconst 2, 1) := by decide +kernel
theorem dL_step_718 : decode cL_step 718 = .ok (.invokevirtual 48, 3) := by decide +kernel
theorem dL_step_721 : decode cL_step 721 = .ok (.iconst (-1), 1) := by decide +kernel
theorem dL_step_722 : decode cL_step 722 = .ok (.if_icmp .ne 16, 3) := by decide +kernel
theorem dL_step_725 : decode cL_step 725 = .ok (.aload_n 0, 1) := by decide +kernel
theorem dL_step_726 : decode cL_step 726 = .ok (.iload 5, 2) := by decide +kernel
theorem dL_step_728 : decode cL_step 728 = .ok (.invokevirtual 51, 3) := by decide +kernel
theorem dL_step_731 : decode cL_step 731 = .ok (.ifCond .ne 7, 3) := by decide +kernel
theorem dL_step_734 : decode cL_step 734 = .ok (.iconst 1, 1) := by decide +kernel
theorem dL_step_735 : decode cL_step 735 = .ok (.goto 4, 3) := by decide +kernel
theorem dL_step_738 : decode cL_step 738 = .ok (.iconst 0, 1) := by decide +kernel
theorem dL_step_739 : decode cL_step 739 = .ok (.ireturn, 1) := by decide +kernel
theorem dL_step_740 : decode cL_step 740 = .ok (.aload_n 1, 1) := by decide +kernel
theorem dL_step_741 : decode cL_step 741 = .ok (.iconst 1, 1) := by decide +kernel
theorem dL_step_742 : decode cL_step 742 = .ok (.iaload, 1) := by decide +kernel
theorem dL_step_743 : decode cL_step 743 = .ok (.ifCond .eq 36, 3) := by decide +kernel
theorem dL_step_746 : decode cL_step 746 = .ok (.aload_n 0, 1) := by decide +kernel
theorem dL_step_747 : decode cL_step 747 = .ok (.iload 6, 2) := by decide +kernel
theorem dL_step_749 : decode cL_step 749 = .ok (.iload_n 3, 1) := by decide +kernel
theorem dL_step_750 : decode cL_step 750 = .ok (.bipush 16, 2) := by decide +kernel
theorem dL_step_752 : decode cL_step 752 = .ok (.irem, 1) := by decide +kernel
theorem dL_step_753 : decode cL_step 753 = .ok (.iconst 0, 1) := by decide +kernel
theorem dL_step_754 : decode cL_step 754 = .ok (.iconst 0, 1) := by decide +kernel
theorem dL_step_755 : decode cL_step 755 = .ok (.iconst 3, 1) := by decide +kernel
theorem dL_step_756 : decode cL_step 756 = .ok (.invokestatic 42, 3) := by decide +kernel
theorem dL_step_759 : decode cL_step 759 = .ok (.sipush (-200), 3) := by decide +kernel
theorem dL_step_762 : decode cL_step 762 = .ok (.if_icmp .eq 17, 3) := by decide +kernel
theorem dL_step_765 : decode cL_step 765 = .ok (.aload_n 0, 1) := by decide +kernel
theorem dL_step_766 : decode cL_step 766 = .ok (.iload 6, 2) := by decide +kernel
theorem dL_step_768 : decode cL_step 768 = .ok (.iconst 5, 1) := by decide +kernel
theorem dL_step_769 : decode cL_step 769 = .ok (.invokevirtual 61, 3) := by decide +kernel
theorem dL_step_772 : decode cL_step 772 = .ok (.iload_n 3, 1) := by decide +kernel
theorem dL_step_773 : decode cL_step 773 = .ok (.bipush 16, 2) := by decide +kernel
theorem dL_step_775 : decode cL_step 775 = .ok (.irem, 1) := by decide +kernel
theorem dL_step_776 : decode cL_step 776 = .ok (.if_icmp .ne 7, 3) := by decide +kernel
theorem dL_step_779 : decode cL_step 779 = .ok (.iconst 1, 1) := by decide +kernel
theorem dL_step_780 : decode cL_step 780 = .ok (.goto 4, 3) := by decide +kernel
theorem dL_step_783 : decode cL_step 783 = .ok (.iconst 0, 1) := by decide +kernel
theorem dL_step_784 : decode cL_step 784 = .ok (.ireturn, 1) := by decide +kernel
theorem dL_step_785 : decode cL_step 785 = .ok (.aload_n 1, 1) := by decide +kernel
theorem dL_step_786 : decode cL_step 786 = .ok (.iconst 1, 1) := by decide +kernel
theorem dL_step_787 : decode cL_step 787 = .ok (.iaload, 1) := by decide +kernel
theorem dL_step_788 : decode cL_step 788 = .ok (.ifCond .eq 60, 3) := by decide +kernel
theorem dL_step_791 : decode cL_step 791 = .ok (.iload_n 3, 1) := by decide +kernel
theorem dL_step_792 : decode cL_step 792 = .ok (.iconst 4, 1) := by decide +kernel
theorem dL_step_793 : decode cL_step 793 = .ok (.irem, 1) := by decide +kernel
theorem dL_step_794 : decode cL_step 794 = .ok (.ifCond .gt 54, 3) := by decide +kernel
theorem dL_step_797 : decode cL_step 797 = .ok (.aload_n 0, 1) := by decide +kernel
theorem dL_step_798 : decode cL_step 798 = .ok (.iload 6, 2) := by decide +kernel
theorem dL_step_800 : decode cL_step 800 = .ok (.invokestatic 75, 3) := by decide +kernel
theorem dL_step_803 : decode cL_step 803 = .ok (.ifCond .eq 45, 3) := by decide +kernel
theorem dL_step_806 : decode cL_step 806 = .ok (.aload_n 0, 1) := by decide +kernel
theorem dL_step_807 : decode cL_step 807 = .ok (.iload 6, 2) := by decide +kernel
theorem dL_step_809 : decode cL_step 809 = .ok (.iconst 0, 1) := by decide +kernel
theorem dL_step_810 : decode cL_step 810 = .ok (.invokevirtual 61, 3) := by decide +kernel
theorem dL_step_813 : decode cL_step 813 = .ok (.ifCond .ne 39, 3) := by decide +kernel
theorem dL_step_816 : decode cL_step 816 = .ok (.aload_n 0, 1) := by decide +kernel
theorem dL_step_817 : decode cL_step 817 = .ok (.iload 6, 2) := by decide +kernel
theorem dL_step_819 : decode cL_step 819 = .ok (.iconst 0, 1) := by decide +kernel
theorem dL_step_820 : decode cL_step 820 = .ok (.invokevirtual 64, 3) := by decide +kernel
theorem dL_step_823 : decode cL_step 823 = .ok (.iconst (-1), 1) := by decide +kernel
theorem dL_step_824 : decode cL_step 824 = .ok (.if_icmp .ne 28, 3) := by decide +kernel
theorem dL_step_827 : decode cL_step 827 = .ok (.aload_n 0, 1) := by decide +kernel
theorem dL_step_828 : decode cL_step 828 = .ok (.iload 5, 2) := by decide +kernel
theorem dL_step_830 : decode cL_step 830 = .ok (.iload 6, 2) := by decide +kernel
theorem dL_step_832 : decode cL_step 832 = .ok (.invokevirtual 78, 3) := by decide +kernel
theorem dL_step_835 : decode cL_step 835 = .ok (.iconst (-1), 1) := by decide +kernel
theorem dL_step_836 : decode cL_step 836 = .ok (.if_icmp .ne 16, 3) := by decide +kernel
theorem dL_step_839 : decode cL_step 839 = .ok (.aload_n 0, 1) := by decide +kernel
theorem dL_step_840 : decode cL_step 840 = .ok (.iload 6, 2) := by decide +kernel
theorem dL_step_842 : decode cL_step 842 = .ok (.invokestatic 75, 3) := by decide +kernel
theorem dL_step_845 : decode cL_step 845 = .ok (.ifCond .ne 7, 3) := by decide +kernel
theorem dL_step_848 : decode cL_step 848 = .ok (.iconst 1, 1) := by decide +kernel
theorem dL_step_849 : decode cL_step 849 = .ok (.goto 4, 3) := by decide +kernel
theorem dL_step_852 : decode cL_step 852 = .ok (.iconst 0, 1) := by decide +kernel
theorem dL_step_853 : decode cL_step 853 = .ok (.ireturn, 1) := by decide +kernel
theorem dL_step_854 : decode cL_step 854 = .ok (.aload_n 0, 1) := by decide +kernel
theorem dL_step_855 : decode cL_step 855 = .ok (.aload_n 1, 1) := by decide +kernel
theorem dL_step_856 : decode cL_step 856 = .ok (.iload_n 3, 1) := by decide +kernel
theorem dL_step_857 : decode cL_step 857 = .ok (.iconst 3, 1) := by decide +kernel
theorem dL_step_858 : decode cL_step 858 = .ok (.irem, 1) := by decide +kernel
theorem dL_step_859 : decode cL_step 859 = .ok (.ifCond .ne 7, 3) := by decide +kernel
theorem dL_step_862 : decode cL_step 862 = .ok (.iconst 1, 1) := by decide +kernel
theorem dL_step_863 : decode cL_step 863 = .ok (.goto 4, 3) := by decide +kernel
theorem dL_step_866 : decode cL_step 866 = .ok (.iconst 0, 1) := by decide +kernel
theorem dL_step_867 : decode cL_step 867 = .ok (.iload 5, 2) := by decide +kernel
theorem dL_step_869 : decode cL_step 869 = .ok (.invokestatic 81, 3) := by decide +kernel
theorem dL_step_872 : decode cL_step 872 = .ok (.ireturn, 1) := by decide +kernel
theorem dL_step_873 : decode cL_step 873 = .ok (.aload_n 0, 1) := by decide +kernel
theorem dL_step_874 : decode cL_step 874 = .ok (.aload_n 1, 1) := by decide +kernel
theorem dL_step_875 : decode cL_step 875 = .ok (.iload 5, 2) := by decide +kernel
theorem dL_step_877 : decode cL_step 877 = .ok (.iload 4, 2) := by decide +kernel
theorem dL_step_879 : decode cL_step 879 = .ok (.invokestatic 85, 3) := by decide +kernel
theorem dL_step_882 : decode cL_step 882 = .ok (.ireturn, 1) := by decide +kernel
theorem dL_step_883 : decode cL_step 883 = .ok (.aload_n 1, 1) := by decide +kernel
theorem dL_step_884 : decode cL_step 884 = .ok (.iconst 2, 1) := by decide +kernel
theorem dL_step_885 : decode cL_step 885 = .ok (.dup2, 1) := by decide +kernel
theorem dL_step_886 : decode cL_step 886 = .ok (.iaload, 1) := by decide +kernel
theorem dL_step_887 : decode cL_step 887 = .ok (.iconst 1, 1) := by decide +kernel
theorem dL_step_888 : decode cL_step 888 = .ok (.iadd, 1) := by decide +kernel
theorem dL_step_889 : decode cL_step 889 = .ok (.iastore, 1) := by decide +kernel
theorem dL_step_890 : decode cL_step 890 = .ok (.iconst 1, 1) := by decide +kernel
theorem dL_step_891 : decode cL_step 891 = .ok (.iload 4, 2) := by decide +kernel
theorem dL_step_893 : decode cL_step 893 = .ok (.sipush 240, 3) := by decide +kernel
theorem dL_step_896 : decode cL_step 896 = .ok (.irem, 1) := by decide +kernel
theorem dL_step_897 : decode cL_step 897 = .ok (.iadd, 1) := by decide +kernel
theorem dL_step_898 : decode cL_step 898 = .ok (.istore 15, 2) := by decide +kernel
theorem dL_step_900 : decode cL_step 900 = .ok (.aload_n 1, 1) := by decide +kernel
theorem dL_step_901 : decode cL_step 901 = .ok (.iconst 2, 1) := by decide +kernel
theorem dL_step_902 : decode cL_step 902 = .ok (.iaload, 1) := by decide +kernel
theorem dL_step_903 : decode cL_step 903 = .ok (.iconst 3, 1) := by decide +kernel
theorem dL_step_904 : decode cL_step 904 = .ok (.if_icmp .gt 55, 3) := by decide +kernel
theorem dL_step_907 : decode cL_step 907 = .ok (.aload_n 0, 1) := by decide +kernel
theorem dL_step_908 : decode cL_step 908 = .ok (.iload_n 3, 1) := by decide +kernel
theorem dL_step_909 : decode cL_step 909 = .ok (.bipush 6, 2) := by decide +kernel
theorem dL_step_911 : decode cL_step 911 = .ok (.irem, 1) := by decide +kernel
theorem dL_step_912 : decode cL_step 912 = .ok (.iload 15, 2) := by decide +kernel
theorem dL_step_914 : decode cL_step 914 = .ok (.invokevirtual 89, 3) := by decide +kernel
theorem dL_step_917 : decode cL_step 917 = .ok (.aload_n 0, 1) := by decide +kernel
theorem dL_step_918 : decode cL_step 918 = .ok (.iload_n 3, 1) := by decide +kernel
theorem dL_step_919 : decode cL_step 919 = .ok (.bipush 6, 2) := by decide +kernel
theorem dL_step_921 : decode cL_step 921 = .ok (.irem, 1) := by decide +kernel
theorem dL_step_922 : decode cL_step 922 = .ok (.iload 15, 2) := by decide +kernel
theorem dL_step_924 : decode cL_step 924 = .ok (.invokevirtual 92, 3) := by decide +kernel
theorem dL_step_927 : decode cL_step 927 = .ok (.if_icmp .ne 36, 3) := by decide +kernel
theorem dL_step_930 : decode cL_step 930 = .ok (.aload_n 0, 1) := by decide +kernel
theorem dL_step_931 : decode cL_step 931 = .ok (.iload_n 3, 1) := by decide +kernel
theorem dL_step_932 : decode cL_step 932 = .ok (.bipush 6, 2) := by decide +kernel
theorem dL_step_934 : decode cL_step 934 = .ok (.irem, 1) := by decide +kernel
theorem dL_step_935 : decode cL_step 935 = .ok (.iload 4, 2) := by decide +kernel
theorem dL_step_937 : decode cL_step 937 = .ok (.sipush 1500, 3) := by decide +kernel
theorem dL_step_940 : decode cL_step 940 = .ok (.irem, 1) := by decide +kernel
theorem dL_step_941 : decode cL_step 941 = .ok (.iload 15, 2) := by decide +kernel
theorem dL_step_943 : decode cL_step 943 = .ok (.invokevirtual 95, 3) := by decide +kernel
theorem dL_step_946 : decode cL_step 946 = .ok (.aload_n 0, 1) := by decide +kernel
theorem dL_step_947 : decode cL_step 947 = .ok (.iload_n 3, 1) := by decide +kernel
theorem dL_step_948 : decode cL_step 948 = .ok (.bipush 6, 2) := by decide +kernel
theorem dL_step_950 : decode cL_step 950 = .ok (.irem, 1) := by decide +kernel
theorem dL_step_951 : decode cL_step 951 = .ok (.iload 15, 2) := by decide +kernel
theorem dL_step_953 : decode cL_step 953 = .ok (.invokevirtual 92, 3) := by decide +kernel
theorem dL_step_956 : decode cL_step 956 = .ok (.if_icmp .gt 7, 3) := by decide +kernel
theorem dL_step_959 : decode cL_step 959 = .ok (.iconst 1, 1) := by decide +kernel
theorem dL_step_960 : decode cL_step 960 = .ok (.goto 4, 3) := by decide +kernel
theorem dL_step_963 : decode cL_step 963 = .ok (.iconst 0, 1) := by decide +kernel
theorem dL_step_964 : decode cL_step 964 = .ok (.ireturn, 1) := by decide +kernel
theorem dL_step_965 : decode cL_step 965 = .ok (.aload_n 0, 1) := by decide +kernel
theorem dL_step_966 : decode cL_step 966 = .ok (.invokevirtual 99, 3) := by decide +kernel
theorem dL_step_969 : decode cL_step 969 = .ok (.istore 16, 2) := by decide +kernel
theorem dL_step_971 : decode cL_step 971 = .ok (.aload_n 0, 1) := by decide +kernel
theorem dL_step_972 : decode cL_step 972 = .ok (.iload_n 3, 1) := by decide +kernel
theorem dL_step_973 : decode cL_step 973 = .ok (.bipush 6, 2) := by decide +kernel
theorem dL_step_975 : decode cL_step 975 = .ok (.irem, 1) := by decide +kernel
theorem dL_step_976 : decode cL_step 976 = .ok (.sipush 390, 3) := by decide +kernel
theorem dL_step_979 : decode cL_step 979 = .ok (.iload 4, 2) := by decide +kernel
theorem dL_step_981 : decode cL_step 981 = .ok (.bipush 60, 2) := by decide +kernel
theorem dL_step_983 : decode cL_step 983 = .ok (.irem, 1) := by decide +kernel
theorem dL_step_984 : decode cL_step 984 = .ok (.iadd, 1) := by decide +kernel
theorem dL_step_985 : decode cL_step 985 = .ok (.sipush 391, 3) := by decide +kernel
theorem dL_step_988 : decode cL_step 988 = .ok (.iload 4, 2) := by decide +kernel
theorem dL_step_990 : decode cL_step 990 = .ok (.bipush 60, 2) := by decide +kernel
theorem dL_step_992 : decode cL_step 992 = .ok (.irem, 1) := by decide +kernel
theorem dL_step_993 : decode cL_step 993 = .ok (.iadd, 1) := by decide +kernel
theorem dL_step_994 : decode cL_step 994 = .ok (.iload 4, 2) := by decide +kernel
theorem dL_step_996 : decode cL_step 996 = .ok (.bipush 64, 2) := by decide +kernel
theorem dL_step_998 : decode cL_step 998 = .ok (.idiv, 1) := by decide +kernel
theorem dL_step_999 : decode cL_step 999 = .ok (.bipush 60, 2) := by decide +kernel
theorem dL_step_1001 : decode cL_step 1001 = .ok (.irem, 1) := by decide +kernel
theorem dL_step_1002 : decode cL_step 1002 = .ok (.iadd, 1) := by decide +kernel
theorem dL_step_1003 : decode cL_step 1003 = .ok (.iload 4, 2) := by decide +kernel
theorem dL_step_1005 : decode cL_step 1005 = .ok (.sipush 4096, 3) := by decide +kernel
theorem dL_step_1008 : decode cL_step 1008 = .ok (.idiv, 1) := by decide +kernel
theorem dL_step_1009 : decode cL_step 1009 = .ok (.bipush 16, 2) := by decide +kernel
theorem dL_step_1011 : decode cL_step 1011 = .ok (.irem, 1) := by decide +kernel
theorem dL_step_1012 : decode cL_step 1012 = .ok (.invokevirtual 103, 3) := by decide +kernel
theorem dL_step_1015 : decode cL_step 1015 = .ok (.iload 16, 2) := by decide +kernel
theorem dL_step_1017 : decode cL_step 1017 = .ok (.if_icmp .lt 16, 3) := by decide +kernel
theorem dL_step_1020 : decode cL_step 1020 = .ok (.aload_n 0, 1) := by decide +kernel
theorem dL_step_1021 : decode cL_step 1021 = .ok (.invokevirtual 99, 3) := by decide +kernel
theorem dL_step_1024 : decode cL_step 1024 = .ok (.iload 16, 2) := by decide +kernel
theorem dL_step_1026 : decode cL_step 1026 = .ok (.if_icmp .ne 7, 3) := by decide +kernel
theorem dL_step_1029 : decode cL_step 1029 = .ok (.iconst 1, 1) := by decide +kernel
theorem dL_step_1030 : decode cL_step 1030 = .ok (.goto 4, 3) := by decide +kernel
theorem dL_step_1033 : decode cL_step 1033 = .ok (.iconst 0, 1) := by decide +kernel
theorem dL_step_1034 : decode cL_step 1034 = .ok (.ireturn, 1) := by decide +kernel
theorem dL_step_1035 : decode cL_step 1035 = .ok (.aload_n 0, 1) := by decide +kernel
theorem dL_step_1036 : decode cL_step 1036 = .ok (.iload 5, 2) := by decide +kernel
theorem dL_step_1038 : decode cL_step 1038 = .ok (.iload 4, 2) := by decide +kernel
theorem dL_step_1040 : decode cL_step 1040 = .ok (.invokestatic 106, 3) := by decide +kernel
theorem dL_step_1043 : decode cL_step 1043 = .ok (.ireturn, 1) := by decide +kernel
theorem dL_areSlots_0 : decode cL_areSlots 0 = .ok (.aload_n 0, 1) := by decide +kernel
theorem dL_areSlots_1 : decode cL_areSlots 1 = .ok (.iload_n 1, 1) := by decide +kernel
theorem dL_areSlots_2 : decode cL_areSlots 2 = .ok (.iconst 0, 1) := by decide +kernel
theorem dL_areSlots_3 : decode cL_areSlots 3 = .ok (.invokevirtual 61, 3) := by decide +kernel
theorem dL_areSlots_6 : decode cL_areSlots 6 = .ok (.istore_n 2, 1) := by decide +kernel
theorem dL_areSlots_7 : decode cL_areSlots 7 = .ok (.aload_n 0, 1) := by decide +kernel
theorem dL_areSlots_8 : decode cL_areSlots 8 = .ok (.iload_n 1, 1) := by decide +kernel
theorem dL_areSlots_9 : decode cL_areSlots 9 = .ok (.iload_n 2, 1) := by decide +kernel
theorem dL_areSlots_10 : decode cL_areSlots 10 = .ok (.invokevirtual 64, 3) := by decide +kernel
theorem dL_areSlots_13 : decode cL_areSlots 13 = .ok (.iconst (-1), 1) := by decide +kernel
theorem dL_areSlots_14 : decode cL_areSlots 14 = .ok (.if_icmp .ne 7, 3) := by decide +kernel
theorem dL_areSlots_17 : decode cL_areSlots 17 = .ok (.iconst 1, 1) := by decide +kernel
theorem dL_areSlots_18 : decode cL_areSlots 18 = .ok (.goto 4, 3) := by decide +kernel
theorem dL_areSlots_21 : decode cL_areSlots 21 = .ok (.iconst 0, 1) := by decide +kernel
theorem dL_areSlots_22 : decode cL_areSlots 22 = .ok (.istore_n 3, 1) := by decide +kernel
theorem dL_areSlots_23 : decode cL_areSlots 23 = .ok (.iconst 1, 1) := by decide +kernel
theorem dL_areSlots_24 : decode cL_areSlots 24 = .ok (.istore 4, 2) := by decide +kernel
theorem dL_areSlots_26 : decode cL_areSlots 26 = .ok (.iload 4, 2) := by decide +kernel
theorem dL_areSlots_28 : decode cL_areSlots 28 = .ok (.iload_n 2, 1) := by decide +kernel
theorem dL_areSlots_29 : decode cL_areSlots 29 = .ok (.if_icmp .ge 45, 3) := by decide +kernel
theorem dL_areSlots_32 : decode cL_areSlots 32 = .ok (.iload 4, 2) := by decide +kernel
theorem dL_areSlots_34 : decode cL_areSlots 34 = .ok (.bipush 20, 2) := by decide +kernel
theorem dL_areSlots_36 : decode cL_areSlots 36 = .ok (.if_icmp .ge 38, 3) := by decide +kernel
theorem dL_areSlots_39 : decode cL_areSlots 39 = .ok (.iload_n 3, 1) := by decide +kernel
theorem dL_areSlots_40 : decode cL_areSlots 40 = .ok (.ifCond .eq 34, 3) := by decide +kernel
theorem dL_areSlots_43 : decode cL_areSlots 43 = .ok (.aload_n 0, 1) := by decide +kernel
theorem dL_areSlots_44 : decode cL_areSlots 44 = .ok (.iload_n 1, 1) := by decide +kernel
theorem dL_areSlots_45 : decode cL_areSlots 45 = .ok (.iload 4, 2) := by decide +kernel
theorem dL_areSlots_47 : decode cL_areSlots 47 = .ok (.invokevirtual 64, 3) := by decide +kernel
theorem dL_areSlots_50 : decode cL_areSlots 50 = .ok (.aload_n 0, 1) := by decide +kernel
theorem dL_areSlots_51 : decode cL_areSlots 51 = .ok (.iload_n 1, 1) := by decide +kernel
theorem dL_areSlots_52 : decode cL_areSlots 52 = .ok (.iload 4, 2) := by decide +kernel
theorem dL_areSlots_54 : decode cL_areSlots 54 = .ok (.iconst 1, 1) := by decide +kernel
theorem dL_areSlots_55 : decode cL_areSlots 55 = .ok (.isub, 1) := by decide +kernel
theorem dL_areSlots_56 : decode cL_areSlots 56 = .ok (.invokevirtual 64, 3) := by decide +kernel
theorem dL_areSlots_59 : decode cL_areSlots 59 = .ok (.if_icmp .le 7, 3) := by decide +kernel
theorem dL_areSlots_62 : decode cL_areSlots 62 = .ok (.iconst 1, 1) := by decide +kernel
theorem dL_areSlots_63 : decode cL_areSlots 63 = .ok (.goto 4, 3) := by decide +kernel
theorem dL_areSlots_66 : decode cL_areSlots 66 = .ok (.iconst 0, 1) := by decide +kernel
theorem dL_areSlots_67 : decode cL_areSlots 67 = .ok (.istore_n 3, 1) := by decide +kernel
theorem dL_areSlots_68 : decode cL_areSlots 68 = .ok (.iinc 4 1, 3) := by decide +kernel
theorem dL_areSlots_71 : decode cL_areSlots 71 = .ok (.goto (-45), 3) := by decide +kernel
theorem dL_areSlots_74 : decode cL_areSlots 74 = .ok (.iload_n 3, 1) := by decide +kernel
theorem dL_areSlots_75 : decode cL_areSlots 75 = .ok (.ireturn, 1) := by decide +kernel
theorem dL_isDealt_0 : decode cL_isDealt 0 = .ok (.aload_n 0, 1) := by decide +kernel
theorem dL_isDealt_1 : decode cL_isDealt 1 = .ok (.iload_n 3, 1) := by decide +kernel
theorem dL_isDealt_2 : decode cL_isDealt 2 = .ok (.iconst 2, 1) := by decide +kernel
theorem dL_isDealt_3 : decode cL_isDealt 3 = .ok (.invokevirtual 48, 3) := by decide +kernel
theorem dL_isDealt_6 : decode cL_isDealt 6 = .ok (.istore 4, 2) := by decide +kernel
theorem dL_isDealt_8 : decode cL_isDealt 8 = .ok (.aload_n 0, 1) := by decide +kernel
theorem dL_isDealt_9 : decode cL_isDealt 9 = .ok (.iload_n 3, 1) := by decide +kernel
theorem dL_isDealt_10 : decode cL_isDealt 10 = .ok (.iconst 3, 1) := by decide +kernel
theorem dL_isDealt_11 : decode cL_isDealt 11 = .ok (.invokevirtual 48, 3) := by decide +kernel
theorem dL_isDealt_14 : decode cL_isDealt 14 = .ok (.istore 5, 2) := by decide +kernel
theorem dL_isDealt_16 : decode cL_isDealt 16 = .ok (.aload_n 0, 1) := by decide +kernel
theorem dL_isDealt_17 : decode cL_isDealt 17 = .ok (.iload_n 3, 1) := by decide +kernel
theorem dL_isDealt_18 : decode cL_isDealt 18 = .ok (.invokevirtual 51, 3) := by decide +kernel
theorem dL_isDealt_21 : decode cL_isDealt 21 = .ok (.istore 6, 2) := by decide +kernel
theorem dL_isDealt_23 : decode cL_isDealt 23 = .ok (.aload_n 0, 1) := by decide +kernel
theorem dL_isDealt_24 : decode cL_isDealt 24 = .ok (.iload_n 3, 1) := by decide +kernel
theorem dL_isDealt_25 : decode cL_isDealt 25 = .ok (.iconst 0, 1) := by decide +kernel
theorem dL_isDealt_26 : decode cL_isDealt 26 = .ok (.invokevirtual 48, 3) := by decide +kernel
theorem dL_isDealt_29 : decode cL_isDealt 29 = .ok (.ifCond .ne 17, 3) := by decide +kernel
theorem dL_isDealt_32 : decode cL_isDealt 32 = .ok (.aload_n 0, 1) := by decide +kernel
theorem dL_isDealt_33 : decode cL_isDealt 33 = .ok (.iload_n 3, 1) := by decide +kernel
theorem dL_isDealt_34 : decode cL_isDealt 34 = .ok (.bipush 7, 2) := by decide +kernel
theorem dL_isDealt_36 : decode cL_isDealt 36 = .ok (.invokevirtual 48, 3) := by decide +kernel
theorem dL_isDealt_39 : decode cL_isDealt 39 = .ok (.ifCond .ne 7, 3) := by decide +kernel
theorem dL_isDealt_42 : decode cL_isDealt 42 = .ok (.iconst 1, 1) := by decide +kernel
theorem dL_isDealt_43 : decode cL_isDealt 43 = .ok (.goto 4, 3) := by decide +kernel
theorem dL_isDealt_46 : decode cL_isDealt 46 = .ok (.iconst 0, 1) := by decide +kernel
theorem dL_isDealt_47 : decode cL_isDealt 47 = .ok (.istore 7, 2) := by decide +kernel
theorem dL_isDealt_49 : decode cL_isDealt 49 = .ok (.aload_n 0, 1) := by decide +kernel
theorem dL_isDealt_50 : decode cL_isDealt 50 = .ok (.iload_n 2, 1) := by decide +kernel
theorem dL_isDealt_51 : decode cL_isDealt 51 = .ok (.invokevirtual 110, 3) := by decide +kernel
