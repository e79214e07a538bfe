/-! p24: the law's areAlike (printed by wip/p24/p52.py) -/
theorem dL_areAlike_0 : decode cL_areAlike 0 = .ok (.iconst 1, 1) := by decide +kernel
theorem dL_areAlike_1 : decode cL_areAlike 1 = .ok (.istore_n 3, 1) := by decide +kernel
theorem dL_areAlike_2 : decode cL_areAlike 2 = .ok (.iconst 0, 1) := by decide +kernel
theorem dL_areAlike_3 : decode cL_areAlike 3 = .ok (.istore 4, 2) := by decide +kernel
theorem dL_areAlike_5 : decode cL_areAlike 5 = .ok (.iload 4, 2) := by decide +kernel
theorem dL_areAlike_7 : decode cL_areAlike 7 = .ok (.bipush 14, 2) := by decide +kernel
theorem dL_areAlike_9 : decode cL_areAlike 9 = .ok (.if_icmp .ge 62, 3) := by decide +kernel
theorem dL_areAlike_12 : decode cL_areAlike 12 = .ok (.iload_n 3, 1) := by decide +kernel
theorem dL_areAlike_13 : decode cL_areAlike 13 = .ok (.ifCond .eq 50, 3) := by decide +kernel
theorem dL_areAlike_16 : decode cL_areAlike 16 = .ok (.iload 4, 2) := by decide +kernel
theorem dL_areAlike_18 : decode cL_areAlike 18 = .ok (.bipush 10, 2) := by decide +kernel
theorem dL_areAlike_20 : decode cL_areAlike 20 = .ok (.if_icmp .ne 24, 3) := by decide +kernel
theorem dL_areAlike_23 : decode cL_areAlike 23 = .ok (.aload_n 0, 1) := by decide +kernel
theorem dL_areAlike_24 : decode cL_areAlike 24 = .ok (.bipush 10, 2) := by decide +kernel
theorem dL_areAlike_26 : decode cL_areAlike 26 = .ok (.invokevirtual 15, 3) := by decide +kernel
theorem dL_areAlike_29 : decode cL_areAlike 29 = .ok (.invokestatic 57, 3) := by decide +kernel
theorem dL_areAlike_32 : decode cL_areAlike 32 = .ok (.aload_n 1, 1) := by decide +kernel
theorem dL_areAlike_33 : decode cL_areAlike 33 = .ok (.bipush 10, 2) := by decide +kernel
theorem dL_areAlike_35 : decode cL_areAlike 35 = .ok (.invokevirtual 15, 3) := by decide +kernel
theorem dL_areAlike_38 : decode cL_areAlike 38 = .ok (.if_icmp .ne 25, 3) := by decide +kernel
theorem dL_areAlike_41 : decode cL_areAlike 41 = .ok (.goto 18, 3) := by decide +kernel
theorem dL_areAlike_44 : decode cL_areAlike 44 = .ok (.aload_n 0, 1) := by decide +kernel
theorem dL_areAlike_45 : decode cL_areAlike 45 = .ok (.iload 4, 2) := by decide +kernel
theorem dL_areAlike_47 : decode cL_areAlike 47 = .ok (.invokevirtual 15, 3) := by decide +kernel
theorem dL_areAlike_50 : decode cL_areAlike 50 = .ok (.aload_n 1, 1) := by decide +kernel
theorem dL_areAlike_51 : decode cL_areAlike 51 = .ok (.iload 4, 2) := by decide +kernel
theorem dL_areAlike_53 : decode cL_areAlike 53 = .ok (.invokevirtual 15, 3) := by decide +kernel
theorem dL_areAlike_56 : decode cL_areAlike 56 = .ok (.if_icmp .ne 7, 3) := by decide +kernel
theorem dL_areAlike_59 : decode cL_areAlike 59 = .ok (.iconst 1, 1) := by decide +kernel
theorem dL_areAlike_60 : decode cL_areAlike 60 = .ok (.goto 4, 3) := by decide +kernel
theorem dL_areAlike_64 : decode cL_areAlike 64 = .ok (.istore_n 3, 1) := by decide +kernel
theorem dL_areAlike_65 : decode cL_areAlike 65 = .ok (.iinc 4 1, 3) := by decide +kernel
theorem dL_areAlike_68 : decode cL_areAlike 68 = .ok (.goto (-63), 3) := by decide +kernel
theorem dL_areAlike_71 : decode cL_areAlike 71 = .ok (.iconst 0, 1) := by decide +kernel
theorem dL_areAlike_72 : decode cL_areAlike 72 = .ok (.istore 4, 2) := by decide +kernel
theorem dL_areAlike_74 : decode cL_areAlike 74 = .ok (.iload 4, 2) := by decide +kernel
theorem dL_areAlike_76 : decode cL_areAlike 76 = .ok (.bipush 61, 2) := by decide +kernel
theorem dL_areAlike_78 : decode cL_areAlike 78 = .ok (.if_icmp .ge 155, 3) := by decide +kernel
theorem dL_areAlike_81 : decode cL_areAlike 81 = .ok (.aload_n 0, 1) := by decide +kernel
theorem dL_areAlike_82 : decode cL_areAlike 82 = .ok (.iload 4, 2) := by decide +kernel
theorem dL_areAlike_84 : decode cL_areAlike 84 = .ok (.iconst 3, 1) := by decide +kernel
theorem dL_areAlike_85 : decode cL_areAlike 85 = .ok (.invokevirtual 34, 3) := by decide +kernel
theorem dL_areAlike_88 : decode cL_areAlike 88 = .ok (.istore 5, 2) := by decide +kernel
theorem dL_areAlike_90 : decode cL_areAlike 90 = .ok (.iload_n 3, 1) := by decide +kernel
theorem dL_areAlike_91 : decode cL_areAlike 91 = .ok (.ifCond .eq 134, 3) := by decide +kernel
theorem dL_areAlike_94 : decode cL_areAlike 94 = .ok (.aload_n 0, 1) := by decide +kernel
theorem dL_areAlike_95 : decode cL_areAlike 95 = .ok (.iload 4, 2) := by decide +kernel
theorem dL_areAlike_97 : decode cL_areAlike 97 = .ok (.iconst 2, 1) := by decide +kernel
theorem dL_areAlike_98 : decode cL_areAlike 98 = .ok (.invokevirtual 34, 3) := by decide +kernel
theorem dL_areAlike_101 : decode cL_areAlike 101 = .ok (.aload_n 1, 1) := by decide +kernel
theorem dL_areAlike_102 : decode cL_areAlike 102 = .ok (.iload 4, 2) := by decide +kernel
theorem dL_areAlike_104 : decode cL_areAlike 104 = .ok (.invokestatic 31, 3) := by decide +kernel
theorem dL_areAlike_107 : decode cL_areAlike 107 = .ok (.iconst 2, 1) := by decide +kernel
theorem dL_areAlike_108 : decode cL_areAlike 108 = .ok (.invokevirtual 34, 3) := by decide +kernel
theorem dL_areAlike_111 : decode cL_areAlike 111 = .ok (.if_icmp .ne 114, 3) := by decide +kernel
theorem dL_areAlike_114 : decode cL_areAlike 114 = .ok (.aload_n 0, 1) := by decide +kernel
theorem dL_areAlike_115 : decode cL_areAlike 115 = .ok (.iload 4, 2) := by decide +kernel
theorem dL_areAlike_117 : decode cL_areAlike 117 = .ok (.iconst 4, 1) := by decide +kernel
theorem dL_areAlike_118 : decode cL_areAlike 118 = .ok (.invokevirtual 34, 3) := by decide +kernel
theorem dL_areAlike_121 : decode cL_areAlike 121 = .ok (.aload_n 1, 1) := by decide +kernel
theorem dL_areAlike_122 : decode cL_areAlike 122 = .ok (.iload 4, 2) := by decide +kernel
theorem dL_areAlike_124 : decode cL_areAlike 124 = .ok (.invokestatic 31, 3) := by decide +kernel
theorem dL_areAlike_127 : decode cL_areAlike 127 = .ok (.iconst 4, 1) := by decide +kernel
theorem dL_areAlike_128 : decode cL_areAlike 128 = .ok (.invokevirtual 34, 3) := by decide +kernel
theorem dL_areAlike_131 : decode cL_areAlike 131 = .ok (.if_icmp .ne 94, 3) := by decide +kernel
theorem dL_areAlike_134 : decode cL_areAlike 134 = .ok (.aload_n 0, 1) := by decide +kernel
theorem dL_areAlike_135 : decode cL_areAlike 135 = .ok (.iload 4, 2) := by decide +kernel
theorem dL_areAlike_137 : decode cL_areAlike 137 = .ok (.iconst 0, 1) := by decide +kernel
theorem dL_areAlike_138 : decode cL_areAlike 138 = .ok (.invokevirtual 34, 3) := by decide +kernel
theorem dL_areAlike_141 : decode cL_areAlike 141 = .ok (.aload_n 1, 1) := by decide +kernel
theorem dL_areAlike_142 : decode cL_areAlike 142 = .ok (.iload 4, 2) := by decide +kernel
theorem dL_areAlike_144 : decode cL_areAlike 144 = .ok (.invokestatic 31, 3) := by decide +kernel
theorem dL_areAlike_147 : decode cL_areAlike 147 = .ok (.iconst 0, 1) := by decide +kernel
theorem dL_areAlike_148 : decode cL_areAlike 148 = .ok (.invokevirtual 34, 3) := by decide +kernel
theorem dL_areAlike_151 : decode cL_areAlike 151 = .ok (.iadd, 1) := by decide +kernel
theorem dL_areAlike_152 : decode cL_areAlike 152 = .ok (.bipush 8, 2) := by decide +kernel
theorem dL_areAlike_154 : decode cL_areAlike 154 = .ok (.if_icmp .ne 71, 3) := by decide +kernel
theorem dL_areAlike_157 : decode cL_areAlike 157 = .ok (.aload_n 0, 1) := by decide +kernel
theorem dL_areAlike_158 : decode cL_areAlike 158 = .ok (.iload 4, 2) := by decide +kernel
theorem dL_areAlike_160 : decode cL_areAlike 160 = .ok (.iconst 1, 1) := by decide +kernel
theorem dL_areAlike_161 : decode cL_areAlike 161 = .ok (.invokevirtual 34, 3) := by decide +kernel
theorem dL_areAlike_164 : decode cL_areAlike 164 = .ok (.aload_n 1, 1) := by decide +kernel
theorem dL_areAlike_165 : decode cL_areAlike 165 = .ok (.iload 4, 2) := by decide +kernel
theorem dL_areAlike_167 : decode cL_areAlike 167 = .ok (.invokestatic 31, 3) := by decide +kernel
theorem dL_areAlike_170 : decode cL_areAlike 170 = .ok (.iconst 1, 1) := by decide +kernel
theorem dL_areAlike_171 : decode cL_areAlike 171 = .ok (.invokevirtual 34, 3) := by decide +kernel
theorem dL_areAlike_174 : decode cL_areAlike 174 = .ok (.iadd, 1) := by decide +kernel
theorem dL_areAlike_175 : decode cL_areAlike 175 = .ok (.bipush 8, 2) := by decide +kernel
theorem dL_areAlike_177 : decode cL_areAlike 177 = .ok (.if_icmp .ne 48, 3) := by decide +kernel
theorem dL_areAlike_180 : decode cL_areAlike 180 = .ok (.iload 5, 2) := by decide +kernel
theorem dL_areAlike_182 : decode cL_areAlike 182 = .ok (.ifCond .ge 21, 3) := by decide +kernel
theorem dL_areAlike_185 : decode cL_areAlike 185 = .ok (.aload_n 1, 1) := by decide +kernel
theorem dL_areAlike_186 : decode cL_areAlike 186 = .ok (.iload 4, 2) := by decide +kernel
theorem dL_areAlike_188 : decode cL_areAlike 188 = .ok (.invokestatic 31, 3) := by decide +kernel
theorem dL_areAlike_191 : decode cL_areAlike 191 = .ok (.iconst 3, 1) := by decide +kernel
theorem dL_areAlike_192 : decode cL_areAlike 192 = .ok (.invokevirtual 34, 3) := by decide +kernel
theorem dL_areAlike_195 : decode cL_areAlike 195 = .ok (.iload 5, 2) := by decide +kernel
theorem dL_areAlike_197 : decode cL_areAlike 197 = .ok (.if_icmp .ne 28, 3) := by decide +kernel
theorem dL_areAlike_200 : decode cL_areAlike 200 = .ok (.goto 21, 3) := by decide +kernel
theorem dL_areAlike_203 : decode cL_areAlike 203 = .ok (.aload_n 1, 1) := by decide +kernel
theorem dL_areAlike_204 : decode cL_areAlike 204 = .ok (.iload 4, 2) := by decide +kernel
theorem dL_areAlike_206 : decode cL_areAlike 206 = .ok (.invokestatic 31, 3) := by decide +kernel
theorem dL_areAlike_209 : decode cL_areAlike 209 = .ok (.iconst 3, 1) := by decide +kernel
theorem dL_areAlike_210 : decode cL_areAlike 210 = .ok (.invokevirtual 34, 3) := by decide +kernel
theorem dL_areAlike_213 : decode cL_areAlike 213 = .ok (.iload 5, 2) := by decide +kernel
theorem dL_areAlike_215 : decode cL_areAlike 215 = .ok (.invokestatic 78, 3) := by decide +kernel
theorem dL_areAlike_218 : decode cL_areAlike 218 = .ok (.if_icmp .ne 7, 3) := by decide +kernel
theorem dL_areAlike_221 : decode cL_areAlike 221 = .ok (.iconst 1, 1) := by decide +kernel
theorem dL_areAlike_222 : decode cL_areAlike 222 = .ok (.goto 4, 3) := by decide +kernel
theorem dL_areAlike_226 : decode cL_areAlike 226 = .ok (.istore_n 3, 1) := by decide +kernel
theorem dL_areAlike_227 : decode cL_areAlike 227 = .ok (.iinc 4 1, 3) := by decide +kernel
theorem dL_areAlike_230 : decode cL_areAlike 230 = .ok (.goto (-156), 3) := by decide +kernel
theorem dL_areAlike_233 : decode cL_areAlike 233 = .ok (.iconst 0, 1) := by decide +kernel
theorem dL_areAlike_234 : decode cL_areAlike 234 = .ok (.istore 4, 2) := by decide +kernel
theorem dL_areAlike_236 : decode cL_areAlike 236 = .ok (.iload 4, 2) := by decide +kernel
theorem dL_areAlike_238 : decode cL_areAlike 238 = .ok (.bipush 12, 2) := by decide +kernel
theorem dL_areAlike_240 : decode cL_areAlike 240 = .ok (.if_icmp .ge 81, 3) := by decide +kernel
theorem dL_areAlike_243 : decode cL_areAlike 243 = .ok (.iconst 0, 1) := by decide +kernel
theorem dL_areAlike_244 : decode cL_areAlike 244 = .ok (.istore 5, 2) := by decide +kernel
theorem dL_areAlike_246 : decode cL_areAlike 246 = .ok (.iload 5, 2) := by decide +kernel
theorem dL_areAlike_248 : decode cL_areAlike 248 = .ok (.iconst 5, 1) := by decide +kernel
theorem dL_areAlike_249 : decode cL_areAlike 249 = .ok (.if_icmp .ge 66, 3) := by decide +kernel
theorem dL_areAlike_252 : decode cL_areAlike 252 = .ok (.iload_n 3, 1) := by decide +kernel
theorem dL_areAlike_253 : decode cL_areAlike 253 = .ok (.ifCond .eq 54, 3) := by decide +kernel
theorem dL_areAlike_256 : decode cL_areAlike 256 = .ok (.iload 5, 2) := by decide +kernel
theorem dL_areAlike_258 : decode cL_areAlike 258 = .ok (.ifCond .ne 26, 3) := by decide +kernel
theorem dL_areAlike_261 : decode cL_areAlike 261 = .ok (.aload_n 0, 1) := by decide +kernel
theorem dL_areAlike_262 : decode cL_areAlike 262 = .ok (.iload 4, 2) := by decide +kernel
theorem dL_areAlike_264 : decode cL_areAlike 264 = .ok (.iconst 0, 1) := by decide +kernel
theorem dL_areAlike_265 : decode cL_areAlike 265 = .ok (.invokevirtual 25, 3) := by decide +kernel
theorem dL_areAlike_268 : decode cL_areAlike 268 = .ok (.invokestatic 31, 3) := by decide +kernel
theorem dL_areAlike_271 : decode cL_areAlike 271 = .ok (.aload_n 1, 1) := by decide +kernel
theorem dL_areAlike_272 : decode cL_areAlike 272 = .ok (.iload 4, 2) := by decide +kernel
theorem dL_areAlike_274 : decode cL_areAlike 274 = .ok (.iconst 0, 1) := by decide +kernel
theorem dL_areAlike_275 : decode cL_areAlike 275 = .ok (.invokevirtual 25, 3) := by decide +kernel
theorem dL_areAlike_278 : decode cL_areAlike 278 = .ok (.if_icmp .ne 29, 3) := by decide +kernel
theorem dL_areAlike_281 : decode cL_areAlike 281 = .ok (.goto 22, 3) := by decide +kernel
theorem dL_areAlike_284 : decode cL_areAlike 284 = .ok (.aload_n 0, 1) := by decide +kernel
theorem dL_areAlike_285 : decode cL_areAlike 285 = .ok (.iload 4, 2) := by decide +kernel
theorem dL_areAlike_287 : decode cL_areAlike 287 = .ok (.iload 5, 2) := by decide +kernel
theorem dL_areAlike_289 : decode cL_areAlike 289 = .ok (.invokevirtual 25, 3) := by decide +kernel
theorem dL_areAlike_292 : decode cL_areAlike 292 = .ok (.aload_n 1, 1) := by decide +kernel
theorem dL_areAlike_293 : decode cL_areAlike 293 = .ok (.iload 4, 2) := by decide +kernel
theorem dL_areAlike_295 : decode cL_areAlike 295 = .ok (.iload 5, 2) := by decide +kernel
theorem dL_areAlike_297 : decode cL_areAlike 297 = .ok (.invokevirtual 25, 3) := by decide +kernel
theorem dL_areAlike_300 : decode cL_areAlike 300 = .ok (.if_icmp .ne 7, 3) := by decide +kernel
theorem dL_areAlike_303 : decode cL_areAlike 303 = .ok (.iconst 1, 1) := by decide +kernel
theorem dL_areAlike_304 : decode cL_areAlike 304 = .ok (.goto 4, 3) := by decide +kernel
theorem dL_areAlike_308 : decode cL_areAlike 308 = .ok (.istore_n 3, 1) := by decide +kernel
theorem dL_areAlike_309 : decode cL_areAlike 309 = .ok (.iinc 5 1, 3) := by decide +kernel
theorem dL_areAlike_312 : decode cL_areAlike 312 = .ok (.goto (-66), 3) := by decide +kernel
theorem dL_areAlike_315 : decode cL_areAlike 315 = .ok (.iinc 4 1, 3) := by decide +kernel
theorem dL_areAlike_318 : decode cL_areAlike 318 = .ok (.goto (-82), 3) := by decide +kernel
theorem dL_areAlike_321 : decode cL_areAlike 321 = .ok (.iload_n 2, 1) := by decide +kernel
theorem dL_areAlike_322 : decode cL_areAlike 322 = .ok (.bipush 61, 2) := by decide +kernel
theorem dL_areAlike_324 : decode cL_areAlike 324 = .ok (.invokestatic 19, 3) := by decide +kernel
theorem dL_areAlike_327 : decode cL_areAlike 327 = .ok (.istore 4, 2) := by decide +kernel
theorem dL_areAlike_329 : decode cL_areAlike 329 = .ok (.iload_n 2, 1) := by decide +kernel
theorem dL_areAlike_330 : decode cL_areAlike 330 = .ok (.bipush 6, 2) := by decide +kernel
theorem dL_areAlike_332 : decode cL_areAlike 332 = .ok (.ishr, 1) := by decide +kernel
theorem dL_areAlike_333 : decode cL_areAlike 333 = .ok (.bipush 6, 2) := by decide +kernel
theorem dL_areAlike_335 : decode cL_areAlike 335 = .ok (.invokestatic 19, 3) := by decide +kernel
theorem dL_areAlike_338 : decode cL_areAlike 338 = .ok (.istore 5, 2) := by decide +kernel
theorem dL_areAlike_340 : decode cL_areAlike 340 = .ok (.iload_n 2, 1) := by decide +kernel
theorem dL_areAlike_341 : decode cL_areAlike 341 = .ok (.bipush 9, 2) := by decide +kernel
theorem dL_areAlike_343 : decode cL_areAlike 343 = .ok (.ishr, 1) := by decide +kernel
theorem dL_areAlike_344 : decode cL_areAlike 344 = .ok (.bipush 99, 2) := by decide +kernel
theorem dL_areAlike_346 : decode cL_areAlike 346 = .ok (.invokestatic 19, 3) := by decide +kernel
theorem dL_areAlike_349 : decode cL_areAlike 349 = .ok (.istore 6, 2) := by decide +kernel
theorem dL_areAlike_351 : decode cL_areAlike 351 = .ok (.iload_n 2, 1) := by decide +kernel
theorem dL_areAlike_352 : decode cL_areAlike 352 = .ok (.iconst 3, 1) := by decide +kernel
theorem dL_areAlike_353 : decode cL_areAlike 353 = .ok (.ishr, 1) := by decide +kernel
theorem dL_areAlike_354 : decode cL_areAlike 354 = .ok (.iconst 2, 1) := by decide +kernel
theorem dL_areAlike_355 : decode cL_areAlike 355 = .ok (.invokestatic 19, 3) := by decide +kernel
theorem dL_areAlike_358 : decode cL_areAlike 358 = .ok (.ifCond .ne 7, 3) := by decide +kernel
theorem dL_areAlike_361 : decode cL_areAlike 361 = .ok (.iconst 1, 1) := by decide +kernel
theorem dL_areAlike_362 : decode cL_areAlike 362 = .ok (.goto 4, 3) := by decide +kernel
theorem dL_areAlike_365 : decode cL_areAlike 365 = .ok (.iconst 0, 1) := by decide +kernel
theorem dL_areAlike_366 : decode cL_areAlike 366 = .ok (.istore 7, 2) := by decide +kernel
theorem dL_areAlike_368 : decode cL_areAlike 368 = .ok (.iload_n 3, 1) := by decide +kernel
theorem dL_areAlike_369 : decode cL_areAlike 369 = .ok (.ifCond .eq 43, 3) := by decide +kernel
theorem dL_areAlike_372 : decode cL_areAlike 372 = .ok (.aload_n 0, 1) := by decide +kernel
theorem dL_areAlike_373 : decode cL_areAlike 373 = .ok (.iload 4, 2) := by decide +kernel
theorem dL_areAlike_375 : decode cL_areAlike 375 = .ok (.iload 5, 2) := by decide +kernel
theorem dL_areAlike_377 : decode cL_areAlike 377 = .ok (.iload 6, 2) := by decide +kernel
theorem dL_areAlike_379 : decode cL_areAlike 379 = .ok (.iload 7, 2) := by decide +kernel
theorem dL_areAlike_381 : decode cL_areAlike 381 = .ok (.invokevirtual 84, 3) := by decide +kernel
theorem dL_areAlike_384 : decode cL_areAlike 384 = .ok (.invokestatic 31, 3) := by decide +kernel
theorem dL_areAlike_387 : decode cL_areAlike 387 = .ok (.aload_n 1, 1) := by decide +kernel
theorem dL_areAlike_388 : decode cL_areAlike 388 = .ok (.iload 4, 2) := by decide +kernel
theorem dL_areAlike_390 : decode cL_areAlike 390 = .ok (.invokestatic 31, 3) := by decide +kernel
theorem dL_areAlike_393 : decode cL_areAlike 393 = .ok (.iload 5, 2) := by decide +kernel
theorem dL_areAlike_395 : decode cL_areAlike 395 = .ok (.invokestatic 78, 3) := by decide +kernel
theorem dL_areAlike_398 : decode cL_areAlike 398 = .ok (.iload 6, 2) := by decide +kernel
theorem dL_areAlike_400 : decode cL_areAlike 400 = .ok (.iload 7, 2) := by decide +kernel
theorem dL_areAlike_402 : decode cL_areAlike 402 = .ok (.invokevirtual 84, 3) := by decide +kernel
theorem dL_areAlike_405 : decode cL_areAlike 405 = .ok (.if_icmp .ne 7, 3) := by decide +kernel
theorem dL_areAlike_408 : decode cL_areAlike 408 = .ok (.iconst 1, 1) := by decide +kernel
theorem dL_areAlike_409 : decode cL_areAlike 409 = .ok (.goto 4, 3) := by decide +kernel
theorem dL_areAlike_413 : decode cL_areAlike 413 = .ok (.ireturn, 1) := by decide +kernel
theorem ck_L_25 : CkV RL 25 RX6 yX6_ball cX6_ball 3 (some .int) 2 := ⟨wm_L_25, wim_yX6_ball, wse_yX6_ball, wi_X6, wc_yX6_ball, by decide +kernel⟩
theorem ck_L_34 : CkV RL 34 RX6 yX6_ofCell cX6_ofCell 3 (some .int) 2 := ⟨wm_L_34, wim_yX6_ofCell, wse_yX6_ofCell, wi_X6, wc_yX6_ofCell, by decide +kernel⟩
theorem ck_L_57 : CkS RL 57 yL_pots cL_pots 1 (some .int) 1 := ⟨wm_L_57, wst_yL_pots, wi_L, wc_yL_pots, by decide +kernel⟩
theorem ck_L_84 : CkV RL 84 RX6 yX6_along cX6_along 6 (some .int) 4 := ⟨wm_L_84, wim_yX6_along, wse_yX6_along, wi_X6, wc_yX6_along, by decide +kernel⟩
set_option maxHeartbeats 4000000 in
set_option maxRecDepth 100000 in
theorem kL_areAlike (l : Launch) (E : Ev) (A B : Ad) (S T : So) (vx : Int32) (M : Nat) (f : N1) (hI : BI M f S T) : KQ l yL_areAlike cL_areAlike 8 (some .boolean) 5 117 E [.ref (adH A), .ref (adH B), .int vx] (wOb E A S ++ wOb E B T) (QE E (wOb E A S ++ wOb E B T) (fun r _ => r = 1)) := by
  refine KQ.mk RL rfl (by decide +kernel) (Nat.le_of_ble_eq_true rfl) ?_
  intro p e s m below meth c ls X hr w hl
  have hx := X.1
  have hb := X.2.1
  have hl : lv_has ls 8 [(0, .ref (adH A)), (1, .ref (adH B)), (2, .int vx)] := hl
  refine lv_iconst (v := 1) hx hb dL_areAlike_0 (by decide) ?_
  refine lv_istore_n (lv' := [(3, .int 1), (0, .ref (adH A)), (1, .ref (adH B)), (2, .int vx)]) hx hb dL_areAlike_1 rfl hl (by decide) rfl (fun ls hl => ?_)
  refine lv_iconst (v := 0) hx hb dL_areAlike_2 (by decide) ?_
  refine lv_istore (lv' := [(4, .int 0), (3, .int 1), (0, .ref (adH A)), (1, .ref (adH B)), (2, .int vx)]) hx hb dL_areAlike_3 hl (by decide) rfl (fun ls hl => ?_)
  have loop : ∀ (n k : Nat), k + n = 14 → ∀ (H : Heap) (locs : List Loc), Wd E (hB (wOb E A S ++ wOb E B T)) s (wOb E A S ++ wOb E B T) H locs → ∀ (ls : Array Slot), lv_has ls 8 [(4, .int (nI k)), (3, .int 1), (0, .ref (adH A)), (1, .ref (adH B)), (2, .int vx)] → W p l e { frames := 5, cells := 0, slots := 0, locals := 117 } s m (([.ref (adH A), .ref (adH B), .int vx] : List Value)).toArray below meth c H locs 0 0 (MQ below (QE E (wOb E A S ++ wOb E B T) (fun r _ => r = 1)) (([.ref (adH A), .ref (adH B), .int vx] : List Value)).toArray s 0 0 (hB (wOb E A S ++ wOb E B T))) (F0 m 5 ls []) := by
    intro n
    induction n with
    | zero =>
      intro k hk_k H locs w ls hl
      obtain rfl : k = 14 := by omega
      refine lv_iload hx hb dL_areAlike_5 (lv_at hl 0 rfl) ?_
      refine lv_bipush (v := 14) hx hb dL_areAlike_7 (by decide) ?_
      refine lv_icmp_ge (tgt := 71) hx hb dL_areAlike_9 (by decide) (fun _ => ?_) (fun h => absurd (by decide : (14 : Int32) ≤ nI 14) h)
      refine lv_iconst (v := 0) hx hb dL_areAlike_71 (by decide) ?_
      refine lv_istore (lv' := [(4, .int 0), (3, .int 1), (0, .ref (adH A)), (1, .ref (adH B)), (2, .int vx)]) hx hb dL_areAlike_72 hl (by decide) rfl (fun ls hl => ?_)
      have loop2 : ∀ (n2 k : Nat), k + n2 = 61 → ∀ (H : Heap) (locs : List Loc), Wd E (hB (wOb E A S ++ wOb E B T)) s (wOb E A S ++ wOb E B T) H locs → ∀ (ls : Array Slot), lv_has ls 8 [(4, .int (nI k)), (3, .int 1), (0, .ref (adH A)), (1, .ref (adH B)), (2, .int vx)] → W p l e { frames := 5, cells := 0, slots := 0, locals := 117 } s m (([.ref (adH A), .ref (adH B), .int vx] : List Value)).toArray below meth c H locs 0 0 (MQ below (QE E (wOb E A S ++ wOb E B T) (fun r _ => r = 1)) (([.ref (adH A), .ref (adH B), .int vx] : List Value)).toArray s 0 0 (hB (wOb E A S ++ wOb E B T))) (F0 m 74 ls []) := by
        intro n2
        induction n2 with
        | zero =>
          intro k hk_k H locs w ls hl
          obtain rfl : k = 61 := by omega
          refine lv_iload hx hb dL_areAlike_74 (lv_at hl 0 rfl) ?_
          refine lv_bipush (v := 61) hx hb dL_areAlike_76 (by decide) ?_
          refine lv_icmp_ge (tgt := 233) hx hb dL_areAlike_78 (by decide) (fun _ => ?_) (fun h => absurd (by decide : (61 : Int32) ≤ nI 61) h)
          refine lv_iconst (v := 0) hx hb dL_areAlike_233 (by decide) ?_
          refine lv_istore (lv' := [(4, .int 0), (3, .int 1), (0, .ref (adH A)), (1, .ref (adH B)), (2, .int vx)]) hx hb dL_areAlike_234 hl (by decide) rfl (fun ls hl => ?_)
          have loop3 : ∀ (n3 k : Nat), k + n3 = 12 → ∀ (H : Heap) (locs : List Loc), Wd E (hB (wOb E A S ++ wOb E B T)) s (wOb E A S ++ wOb E B T) H locs → ∀ (ls : Array Slot), lv_has ls 8 [(4, .int (nI k)), (3, .int 1), (0, .ref (adH A)), (1, .ref (adH B)), (2, .int vx)] → W p l e { frames := 5, cells := 0, slots := 0, locals := 117 } s m (([.ref (adH A), .ref (adH B), .int vx] : List Value)).toArray below meth c H locs 0 0 (MQ below (QE E (wOb E A S ++ wOb E B T) (fun r _ => r = 1)) (([.ref (adH A), .ref (adH B), .int vx] : List Value)).toArray s 0 0 (hB (wOb E A S ++ wOb E B T))) (F0 m 236 ls []) := by
            intro n3
            induction n3 with
            | zero =>
              intro k hk_k H locs w ls hl
              obtain rfl : k = 12 := by omega
              refine lv_iload hx hb dL_areAlike_236 (lv_at hl 0 rfl) ?_
              refine lv_bipush (v := 12) hx hb dL_areAlike_238 (by decide) ?_
              refine lv_icmp_ge (tgt := 321) hx hb dL_areAlike_240 (by decide) (fun _ => ?_) (fun h => absurd (by decide : (12 : Int32) ≤ nI 12) h)
              refine lv_iload_n hx hb dL_areAlike_321 rfl (lv_at hl 4 rfl) ?_
              refine lv_bipush (v := 61) hx hb dL_areAlike_322 (by decide) ?_
              refine r_ci w (r_runS (As := [.int vx, .int 61]) (rest := []) X w (kL_up l E vx 61 (by decide)) ck_L_19 ⟨Nat.le_of_ble_eq_true rfl, Nat.le_of_ble_eq_true rfl⟩ [] rfl (by decide +kernel) hl.1 (Nat.le_of_ble_eq_true rfl) rfl dL_areAlike_324 ⟨Nat.le_of_ble_eq_true rfl, Nat.le_of_ble_eq_true rfl⟩) (wOb E A S ++ wOb E B T) [] rfl (by decide +kernel) rfl rfl (fun H locs w => ?_)
              refine lv_istore (lv' := [(4, .int (fL_up vx 61)), (3, .int 1), (0, .ref (adH A)), (1, .ref (adH B)), (2, .int vx)]) hx hb dL_areAlike_327 hl (by decide) rfl (fun ls hl => ?_)
              refine lv_iload_n hx hb dL_areAlike_329 rfl (lv_at hl 4 rfl) ?_
              refine lv_bipush (v := 6) hx hb dL_areAlike_330 (by decide) ?_
              refine lv_ishr hx hb dL_areAlike_332 ?_
              refine lv_bipush (v := 6) hx hb dL_areAlike_333 (by decide) ?_
              refine r_ci w (r_runS (As := [.int (vx >>> (6 &&& 31)), .int 6]) (rest := []) X w (kL_up l E (vx >>> (6 &&& 31)) 6 (by decide)) ck_L_19 ⟨Nat.le_of_ble_eq_true rfl, Nat.le_of_ble_eq_true rfl⟩ [] rfl (by decide +kernel) hl.1 (Nat.le_of_ble_eq_true rfl) rfl dL_areAlike_335 ⟨Nat.le_of_ble_eq_true rfl, Nat.le_of_ble_eq_true rfl⟩) (wOb E A S ++ wOb E B T) [] rfl (by decide +kernel) rfl rfl (fun H locs w => ?_)
              refine lv_istore (lv' := [(5, .int (fL_up (vx >>> (6 &&& 31)) 6)), (4, .int (fL_up vx 61)), (3, .int 1), (0, .ref (adH A)), (1, .ref (adH B)), (2, .int vx)]) hx hb dL_areAlike_338 hl (by decide) rfl (fun ls hl => ?_)
              refine lv_iload_n hx hb dL_areAlike_340 rfl (lv_at hl 5 rfl) ?_
              refine lv_bipush (v := 9) hx hb dL_areAlike_341 (by decide) ?_
              refine lv_ishr hx hb dL_areAlike_343 ?_
              refine lv_bipush (v := 99) hx hb dL_areAlike_344 (by decide) ?_
              refine r_ci w (r_runS (As := [.int (vx >>> (9 &&& 31)), .int 99]) (rest := []) X w (kL_up l E (vx >>> (9 &&& 31)) 99 (by decide)) ck_L_19 ⟨Nat.le_of_ble_eq_true rfl, Nat.le_of_ble_eq_true rfl⟩ [] rfl (by decide +kernel) hl.1 (Nat.le_of_ble_eq_true rfl) rfl dL_areAlike_346 ⟨Nat.le_of_ble_eq_true rfl, Nat.le_of_ble_eq_true rfl⟩) (wOb E A S ++ wOb E B T) [] rfl (by decide +kernel) rfl rfl (fun H locs w => ?_)
              refine lv_istore (lv' := [(6, .int (fL_up (vx >>> (9 &&& 31)) 99)), (5, .int (fL_up (vx >>> (6 &&& 31)) 6)), (4, .int (fL_up vx 61)), (3, .int 1), (0, .ref (adH A)), (1, .ref (adH B)), (2, .int vx)]) hx hb dL_areAlike_349 hl (by decide) rfl (fun ls hl => ?_)
              refine lv_iload_n hx hb dL_areAlike_351 rfl (lv_at hl 6 rfl) ?_
              refine lv_iconst (v := 3) hx hb dL_areAlike_352 (by decide) ?_
              refine lv_ishr hx hb dL_areAlike_353 ?_
              refine lv_iconst (v := 2) hx hb dL_areAlike_354 (by decide) ?_
              refine r_ci w (r_runS (As := [.int (vx >>> (3 &&& 31)), .int 2]) (rest := []) X w (kL_up l E (vx >>> (3 &&& 31)) 2 (by decide)) ck_L_19 ⟨Nat.le_of_ble_eq_true rfl, Nat.le_of_ble_eq_true rfl⟩ [] rfl (by decide +kernel) hl.1 (Nat.le_of_ble_eq_true rfl) rfl dL_areAlike_355 ⟨Nat.le_of_ble_eq_true rfl, Nat.le_of_ble_eq_true rfl⟩) (wOb E A S ++ wOb E B T) [] rfl (by decide +kernel) rfl rfl (fun H locs w => ?_)
              refine lv_if_ne (tgt := 365) hx hb dL_areAlike_358 (by decide) (fun c358_4 => ?_) (fun c358_4 => ?_)
              · refine lv_iconst (v := 0) hx hb dL_areAlike_365 (by decide) ?_
                refine lv_istore (lv' := [(7, .int 0), (6, .int (fL_up (vx >>> (9 &&& 31)) 99)), (5, .int (fL_up (vx >>> (6 &&& 31)) 6)), (4, .int (fL_up vx 61)), (3, .int 1), (0, .ref (adH A)), (1, .ref (adH B)), (2, .int vx)]) hx hb dL_areAlike_366 hl (by decide) rfl (fun ls hl => ?_)
                refine lv_iload_n hx hb dL_areAlike_368 rfl (lv_at hl 4 rfl) ?_
                refine lv_if_eq (tgt := 412) hx hb dL_areAlike_369 (by decide) (fun h => absurd h (by decide)) (fun _ => ?_)
                refine lv_aload_n hx hb dL_areAlike_372 rfl (lv_at hl 5 rfl) ?_
                refine lv_iload hx hb dL_areAlike_373 (lv_at hl 3 rfl) ?_
                refine lv_iload hx hb dL_areAlike_375 (lv_at hl 2 rfl) ?_
                refine lv_iload hx hb dL_areAlike_377 (lv_at hl 1 rfl) ?_
                refine lv_iload hx hb dL_areAlike_379 (lv_at hl 0 rfl) ?_
                refine r_ci w (r_runV (As := [.int (fL_up vx 61), .int (fL_up (vx >>> (6 &&& 31)) 6), .int (fL_up (vx >>> (9 &&& 31)) 99), .int 0]) (rest := []) X w (q_along l E A S (fL_up vx 61) (fL_up (vx >>> (6 &&& 31)) 6) (fL_up (vx >>> (9 &&& 31)) 99) 0 ) ck_L_84 ⟨Nat.le_of_ble_eq_true rfl, Nat.le_of_ble_eq_true rfl⟩ isA (hcR_2 (E := E)) nd_A (k0 := 0) CL6 rfl hl.1 (Nat.le_of_ble_eq_true rfl) rfl dL_areAlike_381 ⟨Nat.le_of_ble_eq_true rfl, Nat.le_of_ble_eq_true rfl⟩) (wOb E A (ob_along S (fL_up vx 61) (fL_up (vx >>> (6 &&& 31)) 6) (fL_up (vx >>> (9 &&& 31)) 99) 0) ++ wOb E B T) isA (hcR_2 (E := E)) nd_A (haR_2 (E := E)) (hwR_2 (E := E)) (fun H locs w => ?_)
                refine r_ci w (r_runS (As := [.int (an_along S (fL_up vx 61) (fL_up (vx >>> (6 &&& 31)) 6) (fL_up (vx >>> (9 &&& 31)) 99) 0)]) (rest := []) X w (kL_there l E (an_along S (fL_up vx 61) (fL_up (vx >>> (6 &&& 31)) 6) (fL_up (vx >>> (9 &&& 31)) 99) 0) ) ck_L_31 ⟨Nat.le_of_ble_eq_true rfl, Nat.le_of_ble_eq_true rfl⟩ [] rfl (by decide +kernel) hl.1 (Nat.le_of_ble_eq_true rfl) rfl dL_areAlike_384 ⟨Nat.le_of_ble_eq_true rfl, Nat.le_of_ble_eq_true rfl⟩) (wOb E A (ob_along S (fL_up vx 61) (fL_up (vx >>> (6 &&& 31)) 6) (fL_up (vx >>> (9 &&& 31)) 99) 0) ++ wOb E B T) [] rfl (by decide +kernel) rfl rfl (fun H locs w => ?_)
                refine lv_aload_n hx hb dL_areAlike_387 rfl (lv_at hl 6 rfl) ?_
                refine lv_iload hx hb dL_areAlike_388 (lv_at hl 3 rfl) ?_
                refine r_ci w (r_runS (As := [.int (fL_up vx 61)]) (rest := [.ref (adH B), .int (fL_there (an_along S (fL_up vx 61) (fL_up (vx >>> (6 &&& 31)) 6) (fL_up (vx >>> (9 &&& 31)) 99) 0))]) X w (kL_there l E (fL_up vx 61) ) ck_L_31 ⟨Nat.le_of_ble_eq_true rfl, Nat.le_of_ble_eq_true rfl⟩ [] rfl (by decide +kernel) hl.1 (Nat.le_of_ble_eq_true rfl) rfl dL_areAlike_390 ⟨Nat.le_of_ble_eq_true rfl, Nat.le_of_ble_eq_true rfl⟩) (wOb E A (ob_along S (fL_up vx 61) (fL_up (vx >>> (6 &&& 31)) 6) (fL_up (vx >>> (9 &&& 31)) 99) 0) ++ wOb E B T) [] rfl (by decide +kernel) rfl rfl (fun H locs w => ?_)
                refine lv_iload hx hb dL_areAlike_393 (lv_at hl 2 rfl) ?_
                refine r_ci w (r_runS (As := [.int (fL_up (vx >>> (6 &&& 31)) 6)]) (rest := [.int (fL_there (fL_up vx 61)), .ref (adH B), .int (fL_there (an_along S (fL_up vx 61) (fL_up (vx >>> (6 &&& 31)) 6) (fL_up (vx >>> (9 &&& 31)) 99) 0))]) X w (kL_way l E (fL_up (vx >>> (6 &&& 31)) 6) ) ck_L_78 ⟨Nat.le_of_ble_eq_true rfl, Nat.le_of_ble_eq_true rfl⟩ [] rfl (by decide +kernel) hl.1 (Nat.le_of_ble_eq_true rfl) rfl dL_areAlike_395 ⟨Nat.le_of_ble_eq_true rfl, Nat.le_of_ble_eq_true rfl⟩) (wOb E A (ob_along S (fL_up vx 61) (fL_up (vx >>> (6 &&& 31)) 6) (fL_up (vx >>> (9 &&& 31)) 99) 0) ++ wOb E B T) [] rfl (by decide +kernel) rfl rfl (fun H locs w => ?_)
                refine lv_iload hx hb dL_areAlike_398 (lv_at hl 1 rfl) ?_
                refine lv_iload hx hb dL_areAlike_400 (lv_at hl 0 rfl) ?_
                refine r_ci w (r_runV (As := [.int (fL_there (fL_up vx 61)), .int (fL_way (fL_up (vx >>> (6 &&& 31)) 6)), .int (fL_up (vx >>> (9 &&& 31)) 99), .int 0]) (rest := [.int (fL_there (an_along S (fL_up vx 61) (fL_up (vx >>> (6 &&& 31)) 6) (fL_up (vx >>> (9 &&& 31)) 99) 0))]) X w (q_along l E B T (fL_there (fL_up vx 61)) (fL_way (fL_up (vx >>> (6 &&& 31)) 6)) (fL_up (vx >>> (9 &&& 31)) 99) 0 ) ck_L_84 ⟨Nat.le_of_ble_eq_true rfl, Nat.le_of_ble_eq_true rfl⟩ isB (hcR_3 (E := E)) nd_B (k0 := 0) CL6 rfl hl.1 (Nat.le_of_ble_eq_true rfl) rfl dL_areAlike_402 ⟨Nat.le_of_ble_eq_true rfl, Nat.le_of_ble_eq_true rfl⟩) (wOb E A (ob_along S (fL_up vx 61) (fL_up (vx >>> (6 &&& 31)) 6) (fL_up (vx >>> (9 &&& 31)) 99) 0) ++ wOb E B (ob_along T (fL_there (fL_up vx 61)) (fL_way (fL_up (vx >>> (6 &&& 31)) 6)) (fL_up (vx >>> (9 &&& 31)) 99) 0)) isB (hcR_3 (E := E)) nd_B (haR_3 (E := E)) (hwR_3 (E := E)) (fun H locs w => ?_)
                refine lv_icmp_ne (tgt := 412) hx hb dL_areAlike_405 (by decide) (fun h => absurd (al_along (up_in rfl (by decide)) (up_in rfl (by decide))) h) (fun _ => ?_)
                refine lv_iconst (v := 1) hx hb dL_areAlike_408 (by decide) ?_
                refine lv_goto (tgt := 413) hx hb dL_areAlike_409 (by decide) ?_
                exact r_eret X w hr (Or.inr rfl) rfl (haR_4 (E := E)) dL_areAlike_413
              · refine lv_iconst (v := 1) hx hb dL_areAlike_361 (by decide) ?_
                refine lv_goto (tgt := 366) hx hb dL_areAlike_362 (by decide) ?_
                refine lv_istore (lv' := [(7, .int 1), (6, .int (fL_up (vx >>> (9 &&& 31)) 99)), (5, .int (fL_up (vx >>> (6 &&& 31)) 6)), (4, .int (fL_up vx 61)), (3, .int 1), (0, .ref (adH A)), (1, .ref (adH B)), (2, .int vx)]) hx hb dL_areAlike_366 hl (by decide) rfl (fun ls hl => ?_)
                refine lv_iload_n hx hb dL_areAlike_368 rfl (lv_at hl 4 rfl) ?_
                refine lv_if_eq (tgt := 412) hx hb dL_areAlike_369 (by decide) (fun h => absurd h (by decide)) (fun _ => ?_)
                refine lv_aload_n hx hb dL_areAlike_372 rfl (lv_at hl 5 rfl) ?_
                refine lv_iload hx hb dL_areAlike_373 (lv_at hl 3 rfl) ?_
                refine lv_iload hx hb dL_areAlike_375 (lv_at hl 2 rfl) ?_
                refine lv_iload hx hb dL_areAlike_377 (lv_at hl 1 rfl) ?_
                refine lv_iload hx hb dL_areAlike_379 (lv_at hl 0 rfl) ?_
                refine r_ci w (r_runV (As := [.int (fL_up vx 61), .int (fL_up (vx >>> (6 &&& 31)) 6), .int (fL_up (vx >>> (9 &&& 31)) 99), .int 1]) (rest := []) X w (q_along l E A S (fL_up vx 61) (fL_up (vx >>> (6 &&& 31)) 6) (fL_up (vx >>> (9 &&& 31)) 99) 1 ) ck_L_84 ⟨Nat.le_of_ble_eq_true rfl, Nat.le_of_ble_eq_true rfl⟩ isA (hcR_2 (E := E)) nd_A (k0 := 0) CL6 rfl hl.1 (Nat.le_of_ble_eq_true rfl) rfl dL_areAlike_381 ⟨Nat.le_of_ble_eq_true rfl, Nat.le_of_ble_eq_true rfl⟩) (wOb E A (ob_along S (fL_up vx 61) (fL_up (vx >>> (6 &&& 31)) 6) (fL_up (vx >>> (9 &&& 31)) 99) 1) ++ wOb E B T) isA (hcR_2 (E := E)) nd_A (haR_2 (E := E)) (hwR_2 (E := E)) (fun H locs w => ?_)
                refine r_ci w (r_runS (As := [.int (an_along S (fL_up vx 61) (fL_up (vx >>> (6 &&& 31)) 6) (fL_up (vx >>> (9 &&& 31)) 99) 1)]) (rest := []) X w (kL_there l E (an_along S (fL_up vx 61) (fL_up (vx >>> (6 &&& 31)) 6) (fL_up (vx >>> (9 &&& 31)) 99) 1) ) ck_L_31 ⟨Nat.le_of_ble_eq_true rfl, Nat.le_of_ble_eq_true rfl⟩ [] rfl (by decide +kernel) hl.1 (Nat.le_of_ble_eq_true rfl) rfl dL_areAlike_384 ⟨Nat.le_of_ble_eq_true rfl, Nat.le_of_ble_eq_true rfl⟩) (wOb E A (ob_along S (fL_up vx 61) (fL_up (vx >>> (6 &&& 31)) 6) (fL_up (vx >>> (9 &&& 31)) 99) 1) ++ wOb E B T) [] rfl (by decide +kernel) rfl rfl (fun H locs w => ?_)
                refine lv_aload_n hx hb dL_areAlike_387 rfl (lv_at hl 6 rfl) ?_
                refine lv_iload hx hb dL_areAlike_388 (lv_at hl 3 rfl) ?_
                refine r_ci w (r_runS (As := [.int (fL_up vx 61)]) (rest := [.ref (adH B), .int (fL_there (an_along S (fL_up vx 61) (fL_up (vx >>> (6 &&& 31)) 6) (fL_up (vx >>> (9 &&& 31)) 99) 1))]) X w (kL_there l E (fL_up vx 61) ) ck_L_31 ⟨Nat.le_of_ble_eq_true rfl, Nat.le_of_ble_eq_true rfl⟩ [] rfl (by decide +kernel) hl.1 (Nat.le_of_ble_eq_true rfl) rfl dL_areAlike_390 ⟨Nat.le_of_ble_eq_true rfl, Nat.le_of_ble_eq_true rfl⟩) (wOb E A (ob_along S (fL_up vx 61) (fL_up (vx >>> (6 &&& 31)) 6) (fL_up (vx >>> (9 &&& 31)) 99) 1) ++ wOb E B T) [] rfl (by decide +kernel) rfl rfl (fun H locs w => ?_)
                refine lv_iload hx hb dL_areAlike_393 (lv_at hl 2 rfl) ?_
                refine r_ci w (r_runS (As := [.int (fL_up (vx >>> (6 &&& 31)) 6)]) (rest := [.int (fL_there (fL_up vx 61)), .ref (adH B), .int (fL_there (an_along S (fL_up vx 61) (fL_up (vx >>> (6 &&& 31)) 6) (fL_up (vx >>> (9 &&& 31)) 99) 1))]) X w (kL_way l E (fL_up (vx >>> (6 &&& 31)) 6) ) ck_L_78 ⟨Nat.le_of_ble_eq_true rfl, Nat.le_of_ble_eq_true rfl⟩ [] rfl (by decide +kernel) hl.1 (Nat.le_of_ble_eq_true rfl) rfl dL_areAlike_395 ⟨Nat.le_of_ble_eq_true rfl, Nat.le_of_ble_eq_true rfl⟩) (wOb E A (ob_along S (fL_up vx 61) (fL_up (vx >>> (6 &&& 31)) 6) (fL_up (vx >>> (9 &&& 31)) 99) 1) ++ wOb E B T) [] rfl (by decide +kernel) rfl rfl (fun H locs w => ?_)
                refine lv_iload hx hb dL_areAlike_398 (lv_at hl 1 rfl) ?_
                refine lv_iload hx hb dL_areAlike_400 (lv_at hl 0 rfl) ?_
                refine r_ci w (r_runV (As := [.int (fL_there (fL_up vx 61)), .int (fL_way (fL_up (vx >>> (6 &&& 31)) 6)), .int (fL_up (vx >>> (9 &&& 31)) 99), .int 1]) (rest := [.int (fL_there (an_along S (fL_up vx 61) (fL_up (vx >>> (6 &&& 31)) 6) (fL_up (vx >>> (9 &&& 31)) 99) 1))]) X w (q_along l E B T (fL_there (fL_up vx 61)) (fL_way (fL_up (vx >>> (6 &&& 31)) 6)) (fL_up (vx >>> (9 &&& 31)) 99) 1 ) ck_L_84 ⟨Nat.le_of_ble_eq_true rfl, Nat.le_of_ble_eq_true rfl⟩ isB (hcR_3 (E := E)) nd_B (k0 := 0) CL6 rfl hl.1 (Nat.le_of_ble_eq_true rfl) rfl dL_areAlike_402 ⟨Nat.le_of_ble_eq_true rfl, Nat.le_of_ble_eq_true rfl⟩) (wOb E A (ob_along S (fL_up vx 61) (fL_up (vx >>> (6 &&& 31)) 6) (fL_up (vx >>> (9 &&& 31)) 99) 1) ++ wOb E B (ob_along T (fL_there (fL_up vx 61)) (fL_way (fL_up (vx >>> (6 &&& 31)) 6)) (fL_up (vx >>> (9 &&& 31)) 99) 1)) isB (hcR_3 (E := E)) nd_B (haR_3 (E := E)) (hwR_3 (E := E)) (fun H locs w => ?_)
                refine lv_icmp_ne (tgt := 412) hx hb dL_areAlike_405 (by decide) (fun h => absurd (al_along (up_in rfl (by decide)) (up_in rfl (by decide))) h) (fun _ => ?_)
                refine lv_iconst (v := 1) hx hb dL_areAlike_408 (by decide) ?_
                refine lv_goto (tgt := 413) hx hb dL_areAlike_409 (by decide) ?_
                exact r_eret X w hr (Or.inr rfl) rfl (haR_4 (E := E)) dL_areAlike_413
            | succ n3 ih3 =>
              intro k hk_k H locs w ls hl
              have hkNn3 : k < 12 := by omega
              refine lv_iload hx hb dL_areAlike_236 (lv_at hl 0 rfl) ?_
              refine lv_bipush (v := 12) hx hb dL_areAlike_238 (by decide) ?_
              refine lv_icmp_ge (tgt := 321) hx hb dL_areAlike_240 (by decide) (fun h => absurd h (nI_ge (b := 12) hkNn3 (by decide))) (fun _ => ?_)
              refine lv_iconst (v := 0) hx hb dL_areAlike_243 (by decide) ?_
              refine lv_istore (lv' := [(5, .int 0), (4, .int (nI k)), (3, .int 1), (0, .ref (adH A)), (1, .ref (adH B)), (2, .int vx)]) hx hb dL_areAlike_244 hl (by decide) rfl (fun ls hl => ?_)
              have loop4 : ∀ (n4 j : Nat), j + n4 = 5 → ∀ (H : Heap) (locs : List Loc), Wd E (hB (wOb E A S ++ wOb E B T)) s (wOb E A S ++ wOb E B T) H locs → ∀ (ls : Array Slot), lv_has ls 8 [(5, .int (nI j)), (4, .int (nI k)), (3, .int 1), (0, .ref (adH A)), (1, .ref (adH B)), (2, .int vx)] → W p l e { frames := 5, cells := 0, slots := 0, locals := 117 } s m (([.ref (adH A), .ref (adH B), .int vx] : List Value)).toArray below meth c H locs 0 0 (MQ below (QE E (wOb E A S ++ wOb E B T) (fun r _ => r = 1)) (([.ref (adH A), .ref (adH B), .int vx] : List Value)).toArray s 0 0 (hB (wOb E A S ++ wOb E B T))) (F0 m 246 ls []) := by
                intro n4
                induction n4 with
                | zero =>
                  intro j hk_j H locs w ls hl
                  obtain rfl : j = 5 := by omega
                  refine lv_iload hx hb dL_areAlike_246 (lv_at hl 0 rfl) ?_
                  refine lv_iconst (v := 5) hx hb dL_areAlike_248 (by decide) ?_
                  refine lv_icmp_ge (tgt := 315) hx hb dL_areAlike_249 (by decide) (fun _ => ?_) (fun h => absurd (by decide : (5 : Int32) ≤ nI 5) h)
                  refine lv_iinc (v := (nI k) + 1) (lv' := [(4, .int ((nI k) + 1)), (5, .int (nI 5)), (3, .int 1), (0, .ref (adH A)), (1, .ref (adH B)), (2, .int vx)]) hx hb dL_areAlike_315 hl (k := 1) rfl (by first | rfl | decide) (by decide) rfl (fun ls hl => ?_)
                  refine lv_goto (tgt := 236) hx hb dL_areAlike_318 (by decide) ?_
                  have e0 : nI k + 1 = nI (k + 1) := nI_1 k
                  rw [e0] at hl
                  exact ih3 (k + 1) (by omega) _ _ w ls (lv_sub hl [0, 2, 3, 4, 5] rfl)
                | succ n4 ih4 =>
                  intro j hk_j H locs w ls hl
                  have hkNn4 : j < 5 := by omega
                  refine lv_iload hx hb dL_areAlike_246 (lv_at hl 0 rfl) ?_
                  refine lv_iconst (v := 5) hx hb dL_areAlike_248 (by decide) ?_
                  refine lv_icmp_ge (tgt := 315) hx hb dL_areAlike_249 (by decide) (fun h => absurd h (nI_ge (b := 5) hkNn4 (by decide))) (fun _ => ?_)
                  refine lv_iload_n hx hb dL_areAlike_252 rfl (lv_at hl 2 rfl) ?_
                  refine lv_if_eq (tgt := 307) hx hb dL_areAlike_253 (by decide) (fun h => absurd h (by decide)) (fun _ => ?_)
                  refine lv_iload hx hb dL_areAlike_256 (lv_at hl 0 rfl) ?_
                  refine lv_if_ne (tgt := 284) hx hb dL_areAlike_258 (by decide) (fun c258_10 => ?_) (fun c258_10 => ?_)
                  · refine lv_aload_n hx hb dL_areAlike_284 rfl (lv_at hl 3 rfl) ?_
                    refine lv_iload hx hb dL_areAlike_285 (lv_at hl 1 rfl) ?_
                    refine lv_iload hx hb dL_areAlike_287 (lv_at hl 0 rfl) ?_
                    refine r_ci w (r_runV (As := [.int (nI k), .int (nI j)]) (rest := []) X w (q_ball l E A S (nI k) (nI j) ) ck_L_25 ⟨Nat.le_of_ble_eq_true rfl, Nat.le_of_ble_eq_true rfl⟩ isA (hcR_2 (E := E)) nd_A (k0 := 0) CL6 rfl hl.1 (Nat.le_of_ble_eq_true rfl) rfl dL_areAlike_289 ⟨Nat.le_of_ble_eq_true rfl, Nat.le_of_ble_eq_true rfl⟩) (wOb E A S ++ wOb E B T) isA (hcR_2 (E := E)) nd_A (haR_2 (E := E)) (hwR_2 (E := E)) (fun H locs w => ?_)
                    refine lv_aload_n hx hb dL_areAlike_292 rfl (lv_at hl 4 rfl) ?_
                    refine lv_iload hx hb dL_areAlike_293 (lv_at hl 1 rfl) ?_
                    refine lv_iload hx hb dL_areAlike_295 (lv_at hl 0 rfl) ?_
                    refine r_ci w (r_runV (As := [.int (nI k), .int (nI j)]) (rest := [.int (an_ball S (nI k) (nI j))]) X w (q_ball l E B T (nI k) (nI j) ) ck_L_25 ⟨Nat.le_of_ble_eq_true rfl, Nat.le_of_ble_eq_true rfl⟩ isB (hcR_3 (E := E)) nd_B (k0 := 0) CL6 rfl hl.1 (Nat.le_of_ble_eq_true rfl) rfl dL_areAlike_297 ⟨Nat.le_of_ble_eq_true rfl, Nat.le_of_ble_eq_true rfl⟩) (wOb E A S ++ wOb E B T) isB (hcR_3 (E := E)) nd_B (haR_3 (E := E)) (hwR_3 (E := E)) (fun H locs w => ?_)
                    refine lv_icmp_ne (tgt := 307) hx hb dL_areAlike_300 (by decide) (fun h => absurd (al_bn hI (by omega) j (by omega) c258_10) h) (fun _ => ?_)
                    refine lv_iconst (v := 1) hx hb dL_areAlike_303 (by decide) ?_
                    refine lv_goto (tgt := 308) hx hb dL_areAlike_304 (by decide) ?_
                    refine lv_istore_n (lv' := [(3, .int 1), (5, .int (nI j)), (4, .int (nI k)), (0, .ref (adH A)), (1, .ref (adH B)), (2, .int vx)]) hx hb dL_areAlike_308 rfl hl (by decide) rfl (fun ls hl => ?_)
                    refine lv_iinc (v := (nI j) + 1) (lv' := [(5, .int ((nI j) + 1)), (3, .int 1), (4, .int (nI k)), (0, .ref (adH A)), (1, .ref (adH B)), (2, .int vx)]) hx hb dL_areAlike_309 hl (k := 1) rfl (by first | rfl | decide) (by decide) rfl (fun ls hl => ?_)
                    refine lv_goto (tgt := 246) hx hb dL_areAlike_312 (by decide) ?_
                    have e0 : nI j + 1 = nI (j + 1) := nI_1 j
                    rw [e0] at hl
                    exact ih4 (j + 1) (by omega) _ _ w ls (lv_sub hl [0, 2, 1, 3, 4, 5] rfl)
                  · refine lv_aload_n hx hb dL_areAlike_261 rfl (lv_at hl 3 rfl) ?_
                    refine lv_iload hx hb dL_areAlike_262 (lv_at hl 1 rfl) ?_
                    refine lv_iconst (v := 0) hx hb dL_areAlike_264 (by decide) ?_
                    refine r_ci w (r_runV (As := [.int (nI k), .int 0]) (rest := []) X w (q_ball l E A S (nI k) 0 ) ck_L_25 ⟨Nat.le_of_ble_eq_true rfl, Nat.le_of_ble_eq_true rfl⟩ isA (hcR_2 (E := E)) nd_A (k0 := 0) CL6 rfl hl.1 (Nat.le_of_ble_eq_true rfl) rfl dL_areAlike_265 ⟨Nat.le_of_ble_eq_true rfl, Nat.le_of_ble_eq_true rfl⟩) (wOb E A S ++ wOb E B T) isA (hcR_2 (E := E)) nd_A (haR_2 (E := E)) (hwR_2 (E := E)) (fun H locs w => ?_)
                    refine r_ci w (r_runS (As := [.int (an_ball S (nI k) 0)]) (rest := []) X w (kL_there l E (an_ball S (nI k) 0) ) ck_L_31 ⟨Nat.le_of_ble_eq_true rfl, Nat.le_of_ble_eq_true rfl⟩ [] rfl (by decide +kernel) hl.1 (Nat.le_of_ble_eq_true rfl) rfl dL_areAlike_268 ⟨Nat.le_of_ble_eq_true rfl, Nat.le_of_ble_eq_true rfl⟩) (wOb E A S ++ wOb E B T) [] rfl (by decide +kernel) rfl rfl (fun H locs w => ?_)
                    refine lv_aload_n hx hb dL_areAlike_271 rfl (lv_at hl 4 rfl) ?_
                    refine lv_iload hx hb dL_areAlike_272 (lv_at hl 1 rfl) ?_
                    refine lv_iconst (v := 0) hx hb dL_areAlike_274 (by decide) ?_
                    refine r_ci w (r_runV (As := [.int (nI k), .int 0]) (rest := [.int (fL_there (an_ball S (nI k) 0))]) X w (q_ball l E B T (nI k) 0 ) ck_L_25 ⟨Nat.le_of_ble_eq_true rfl, Nat.le_of_ble_eq_true rfl⟩ isB (hcR_3 (E := E)) nd_B (k0 := 0) CL6 rfl hl.1 (Nat.le_of_ble_eq_true rfl) rfl dL_areAlike_275 ⟨Nat.le_of_ble_eq_true rfl, Nat.le_of_ble_eq_true rfl⟩) (wOb E A S ++ wOb E B T) isB (hcR_3 (E := E)) nd_B (haR_3 (E := E)) (hwR_3 (E := E)) (fun H locs w => ?_)
                    refine lv_icmp_ne (tgt := 307) hx hb dL_areAlike_278 (by decide) (fun h => absurd (al_b0 hI (by omega)) h) (fun _ => ?_)
                    refine lv_goto (tgt := 303) hx hb dL_areAlike_281 (by decide) ?_
                    refine lv_iconst (v := 1) hx hb dL_areAlike_303 (by decide) ?_
                    refine lv_goto (tgt := 308) hx hb dL_areAlike_304 (by decide) ?_
                    refine lv_istore_n (lv' := [(3, .int 1), (5, .int (nI j)), (4, .int (nI k)), (0, .ref (adH A)), (1, .ref (adH B)), (2, .int vx)]) hx hb dL_areAlike_308 rfl hl (by decide) rfl (fun ls hl => ?_)
                    refine lv_iinc (v := (nI j) + 1) (lv' := [(5, .int ((nI j) + 1)), (3, .int 1), (4, .int (nI k)), (0, .ref (adH A)), (1, .ref (adH B)), (2, .int vx)]) hx hb dL_areAlike_309 hl (k := 1) rfl (by first | rfl | decide) (by decide) rfl (fun ls hl => ?_)
                    refine lv_goto (tgt := 246) hx hb dL_areAlike_312 (by decide) ?_
                    have e0 : nI j + 1 = nI (j + 1) := nI_1 j
                    rw [e0] at hl
                    exact ih4 (j + 1) (by omega) _ _ w ls (lv_sub hl [0, 2, 1, 3, 4, 5] rfl)
              exact loop4 5 0 (by omega) _ _ w ls (lv_sub hl [0, 1, 2, 3, 4, 5] rfl)
          exact loop3 12 0 (by omega) _ _ w ls (lv_sub hl [0, 1, 2, 3, 4] rfl)
        | succ n2 ih2 =>
          intro k hk_k H locs w ls hl
          have hkNn2 : k < 61 := by omega
          refine lv_iload hx hb dL_areAlike_74 (lv_at hl 0 rfl) ?_
          refine lv_bipush (v := 61) hx hb dL_areAlike_76 (by decide) ?_
          refine lv_icmp_ge (tgt := 233) hx hb dL_areAlike_78 (by decide) (fun h => absurd h (nI_ge (b := 61) hkNn2 (by decide))) (fun _ => ?_)
          refine lv_aload_n hx hb dL_areAlike_81 rfl (lv_at hl 2 rfl) ?_
          refine lv_iload hx hb dL_areAlike_82 (lv_at hl 0 rfl) ?_
          refine lv_iconst (v := 3) hx hb dL_areAlike_84 (by decide) ?_
          refine r_ci w (r_runV (As := [.int (nI k), .int 3]) (rest := []) X w (q_ofCell l E A S (nI k) 3 ) ck_L_34 ⟨Nat.le_of_ble_eq_true rfl, Nat.le_of_ble_eq_true rfl⟩ isA (hcR_2 (E := E)) nd_A (k0 := 0) CL6 rfl hl.1 (Nat.le_of_ble_eq_true rfl) rfl dL_areAlike_85 ⟨Nat.le_of_ble_eq_true rfl, Nat.le_of_ble_eq_true rfl⟩) (wOb E A S ++ wOb E B T) isA (hcR_2 (E := E)) nd_A (haR_2 (E := E)) (hwR_2 (E := E)) (fun H locs w => ?_)
          refine lv_istore (lv' := [(5, .int (an_ofCell S (nI k) 3)), (4, .int (nI k)), (3, .int 1), (0, .ref (adH A)), (1, .ref (adH B)), (2, .int vx)]) hx hb dL_areAlike_88 hl (by decide) rfl (fun ls hl => ?_)
          refine lv_iload_n hx hb dL_areAlike_90 rfl (lv_at hl 2 rfl) ?_
          refine lv_if_eq (tgt := 225) hx hb dL_areAlike_91 (by decide) (fun h => absurd h (by decide)) (fun _ => ?_)
          refine lv_aload_n hx hb dL_areAlike_94 rfl (lv_at hl 3 rfl) ?_
          refine lv_iload hx hb dL_areAlike_95 (lv_at hl 1 rfl) ?_
          refine lv_iconst (v := 2) hx hb dL_areAlike_97 (by decide) ?_
          refine r_ci w (r_runV (As := [.int (nI k), .int 2]) (rest := []) X w (q_ofCell l E A S (nI k) 2 ) ck_L_34 ⟨Nat.le_of_ble_eq_true rfl, Nat.le_of_ble_eq_true rfl⟩ isA (hcR_2 (E := E)) nd_A (k0 := 0) CL6 rfl hl.1 (Nat.le_of_ble_eq_true rfl) rfl dL_areAlike_98 ⟨Nat.le_of_ble_eq_true rfl, Nat.le_of_ble_eq_true rfl⟩) (wOb E A S ++ wOb E B T) isA (hcR_2 (E := E)) nd_A (haR_2 (E := E)) (hwR_2 (E := E)) (fun H locs w => ?_)
          refine lv_aload_n hx hb dL_areAlike_101 rfl (lv_at hl 4 rfl) ?_
          refine lv_iload hx hb dL_areAlike_102 (lv_at hl 1 rfl) ?_
          refine r_ci w (r_runS (As := [.int (nI k)]) (rest := [.ref (adH B), .int (an_ofCell S (nI k) 2)]) X w (kL_there l E (nI k) ) ck_L_31 ⟨Nat.le_of_ble_eq_true rfl, Nat.le_of_ble_eq_true rfl⟩ [] rfl (by decide +kernel) hl.1 (Nat.le_of_ble_eq_true rfl) rfl dL_areAlike_104 ⟨Nat.le_of_ble_eq_true rfl, Nat.le_of_ble_eq_true rfl⟩) (wOb E A S ++ wOb E B T) [] rfl (by decide +kernel) rfl rfl (fun H locs w => ?_)
          refine lv_iconst (v := 2) hx hb dL_areAlike_107 (by decide) ?_
          refine r_ci w (r_runV (As := [.int (fL_there (nI k)), .int 2]) (rest := [.int (an_ofCell S (nI k) 2)]) X w (q_ofCell l E B T (fL_there (nI k)) 2 ) ck_L_34 ⟨Nat.le_of_ble_eq_true rfl, Nat.le_of_ble_eq_true rfl⟩ isB (hcR_3 (E := E)) nd_B (k0 := 0) CL6 rfl hl.1 (Nat.le_of_ble_eq_true rfl) rfl dL_areAlike_108 ⟨Nat.le_of_ble_eq_true rfl, Nat.le_of_ble_eq_true rfl⟩) (wOb E A S ++ wOb E B T) isB (hcR_3 (E := E)) nd_B (haR_3 (E := E)) (hwR_3 (E := E)) (fun H locs w => ?_)
          refine lv_icmp_ne (tgt := 225) hx hb dL_areAlike_111 (by decide) (fun h => absurd (al_c2 hI (by omega)) h) (fun _ => ?_)
          refine lv_aload_n hx hb dL_areAlike_114 rfl (lv_at hl 3 rfl) ?_
          refine lv_iload hx hb dL_areAlike_115 (lv_at hl 1 rfl) ?_
          refine lv_iconst (v := 4) hx hb dL_areAlike_117 (by decide) ?_
          refine r_ci w (r_runV (As := [.int (nI k), .int 4]) (rest := []) X w (q_ofCell l E A S (nI k) 4 ) ck_L_34 ⟨Nat.le_of_ble_eq_true rfl, Nat.le_of_ble_eq_true rfl⟩ isA (hcR_2 (E := E)) nd_A (k0 := 0) CL6 rfl hl.1 (Nat.le_of_ble_eq_true rfl) rfl dL_areAlike_118 ⟨Nat.le_of_ble_eq_true rfl, Nat.le_of_ble_eq_true rfl⟩) (wOb E A S ++ wOb E B T) isA (hcR_2 (E := E)) nd_A (haR_2 (E := E)) (hwR_2 (E := E)) (fun H locs w => ?_)
          refine lv_aload_n hx hb dL_areAlike_121 rfl (lv_at hl 4 rfl) ?_
          refine lv_iload hx hb dL_areAlike_122 (lv_at hl 1 rfl) ?_
          refine r_ci w (r_runS (As := [.int (nI k)]) (rest := [.ref (adH B), .int (an_ofCell S (nI k) 4)]) X w (kL_there l E (nI k) ) ck_L_31 ⟨Nat.le_of_ble_eq_true rfl, Nat.le_of_ble_eq_true rfl⟩ [] rfl (by decide +kernel) hl.1 (Nat.le_of_ble_eq_true rfl) rfl dL_areAlike_124 ⟨Nat.le_of_ble_eq_true rfl, Nat.le_of_ble_eq_true rfl⟩) (wOb E A S ++ wOb E B T) [] rfl (by decide +kernel) rfl rfl (fun H locs w => ?_)
          refine lv_iconst (v := 4) hx hb dL_areAlike_127 (by decide) ?_
          refine r_ci w (r_runV (As := [.int (fL_there (nI k)), .int 4]) (rest := [.int (an_ofCell S (nI k) 4)]) X w (q_ofCell l E B T (fL_there (nI k)) 4 ) ck_L_34 ⟨Nat.le_of_ble_eq_true rfl, Nat.le_of_ble_eq_true rfl⟩ isB (hcR_3 (E := E)) nd_B (k0 := 0) CL6 rfl hl.1 (Nat.le_of_ble_eq_true rfl) rfl dL_areAlike_128 ⟨Nat.le_of_ble_eq_true rfl, Nat.le_of_ble_eq_true rfl⟩) (wOb E A S ++ wOb E B T) isB (hcR_3 (E := E)) nd_B (haR_3 (E := E)) (hwR_3 (E := E)) (fun H locs w => ?_)
          refine lv_icmp_ne (tgt := 225) hx hb dL_areAlike_131 (by decide) (fun h => absurd (al_c4 (by omega)) h) (fun _ => ?_)
          refine lv_aload_n hx hb dL_areAlike_134 rfl (lv_at hl 3 rfl) ?_
          refine lv_iload hx hb dL_areAlike_135 (lv_at hl 1 rfl) ?_
          refine lv_iconst (v := 0) hx hb dL_areAlike_137 (by decide) ?_
          refine r_ci w (r_runV (As := [.int (nI k), .int 0]) (rest := []) X w (q_ofCell l E A S (nI k) 0 ) ck_L_34 ⟨Nat.le_of_ble_eq_true rfl, Nat.le_of_ble_eq_true rfl⟩ isA (hcR_2 (E := E)) nd_A (k0 := 0) CL6 rfl hl.1 (Nat.le_of_ble_eq_true rfl) rfl dL_areAlike_138 ⟨Nat.le_of_ble_eq_true rfl, Nat.le_of_ble_eq_true rfl⟩) (wOb E A S ++ wOb E B T) isA (hcR_2 (E := E)) nd_A (haR_2 (E := E)) (hwR_2 (E := E)) (fun H locs w => ?_)
          refine lv_aload_n hx hb dL_areAlike_141 rfl (lv_at hl 4 rfl) ?_
          refine lv_iload hx hb dL_areAlike_142 (lv_at hl 1 rfl) ?_
          refine r_ci w (r_runS (As := [.int (nI k)]) (rest := [.ref (adH B), .int (an_ofCell S (nI k) 0)]) X w (kL_there l E (nI k) ) ck_L_31 ⟨Nat.le_of_ble_eq_true rfl, Nat.le_of_ble_eq_true rfl⟩ [] rfl (by decide +kernel) hl.1 (Nat.le_of_ble_eq_true rfl) rfl dL_areAlike_144 ⟨Nat.le_of_ble_eq_true rfl, Nat.le_of_ble_eq_true rfl⟩) (wOb E A S ++ wOb E B T) [] rfl (by decide +kernel) rfl rfl (fun H locs w => ?_)
          refine lv_iconst (v := 0) hx hb dL_areAlike_147 (by decide) ?_
          refine r_ci w (r_runV (As := [.int (fL_there (nI k)), .int 0]) (rest := [.int (an_ofCell S (nI k) 0)]) X w (q_ofCell l E B T (fL_there (nI k)) 0 ) ck_L_34 ⟨Nat.le_of_ble_eq_true rfl, Nat.le_of_ble_eq_true rfl⟩ isB (hcR_3 (E := E)) nd_B (k0 := 0) CL6 rfl hl.1 (Nat.le_of_ble_eq_true rfl) rfl dL_areAlike_148 ⟨Nat.le_of_ble_eq_true rfl, Nat.le_of_ble_eq_true rfl⟩) (wOb E A S ++ wOb E B T) isB (hcR_3 (E := E)) nd_B (haR_3 (E := E)) (hwR_3 (E := E)) (fun H locs w => ?_)
          refine lv_iadd hx hb dL_areAlike_151 ?_
          refine lv_bipush (v := 8) hx hb dL_areAlike_152 (by decide) ?_
          refine lv_icmp_ne (tgt := 225) hx hb dL_areAlike_154 (by decide) (fun h => absurd (al_c0 (by omega)) h) (fun _ => ?_)
          refine lv_aload_n hx hb dL_areAlike_157 rfl (lv_at hl 3 rfl) ?_
          refine lv_iload hx hb dL_areAlike_158 (lv_at hl 1 rfl) ?_
          refine lv_iconst (v := 1) hx hb dL_areAlike_160 (by decide) ?_
          refine r_ci w (r_runV (As := [.int (nI k), .int 1]) (rest := []) X w (q_ofCell l E A S (nI k) 1 ) ck_L_34 ⟨Nat.le_of_ble_eq_true rfl, Nat.le_of_ble_eq_true rfl⟩ isA (hcR_2 (E := E)) nd_A (k0 := 0) CL6 rfl hl.1 (Nat.le_of_ble_eq_true rfl) rfl dL_areAlike_161 ⟨Nat.le_of_ble_eq_true rfl, Nat.le_of_ble_eq_true rfl⟩) (wOb E A S ++ wOb E B T) isA (hcR_2 (E := E)) nd_A (haR_2 (E := E)) (hwR_2 (E := E)) (fun H locs w => ?_)
          refine lv_aload_n hx hb dL_areAlike_164 rfl (lv_at hl 4 rfl) ?_
          refine lv_iload hx hb dL_areAlike_165 (lv_at hl 1 rfl) ?_
          refine r_ci w (r_runS (As := [.int (nI k)]) (rest := [.ref (adH B), .int (an_ofCell S (nI k) 1)]) X w (kL_there l E (nI k) ) ck_L_31 ⟨Nat.le_of_ble_eq_true rfl, Nat.le_of_ble_eq_true rfl⟩ [] rfl (by decide +kernel) hl.1 (Nat.le_of_ble_eq_true rfl) rfl dL_areAlike_167 ⟨Nat.le_of_ble_eq_true rfl, Nat.le_of_ble_eq_true rfl⟩) (wOb E A S ++ wOb E B T) [] rfl (by decide +kernel) rfl rfl (fun H locs w => ?_)
          refine lv_iconst (v := 1) hx hb dL_areAlike_170 (by decide) ?_
          refine r_ci w (r_runV (As := [.int (fL_there (nI k)), .int 1]) (rest := [.int (an_ofCell S (nI k) 1)]) X w (q_ofCell l E B T (fL_there (nI k)) 1 ) ck_L_34 ⟨Nat.le_of_ble_eq_true rfl, Nat.le_of_ble_eq_true rfl⟩ isB (hcR_3 (E := E)) nd_B (k0 := 0) CL6 rfl hl.1 (Nat.le_of_ble_eq_true rfl) rfl dL_areAlike_171 ⟨Nat.le_of_ble_eq_true rfl, Nat.le_of_ble_eq_true rfl⟩) (wOb E A S ++ wOb E B T) isB (hcR_3 (E := E)) nd_B (haR_3 (E := E)) (hwR_3 (E := E)) (fun H locs w => ?_)
          refine lv_iadd hx hb dL_areAlike_174 ?_
          refine lv_bipush (v := 8) hx hb dL_areAlike_175 (by decide) ?_
          refine lv_icmp_ne (tgt := 225) hx hb dL_areAlike_177 (by decide) (fun h => absurd (al_c1 (by omega)) h) (fun _ => ?_)
          refine lv_iload hx hb dL_areAlike_180 (lv_at hl 0 rfl) ?_
          refine lv_if_ge (tgt := 203) hx hb dL_areAlike_182 (by decide) (fun c182_18 => ?_) (fun c182_18 => ?_)
          · refine lv_aload_n hx hb dL_areAlike_203 rfl (lv_at hl 4 rfl) ?_
            refine lv_iload hx hb dL_areAlike_204 (lv_at hl 1 rfl) ?_
            refine r_ci w (r_runS (As := [.int (nI k)]) (rest := [.ref (adH B)]) X w (kL_there l E (nI k) ) ck_L_31 ⟨Nat.le_of_ble_eq_true rfl, Nat.le_of_ble_eq_true rfl⟩ [] rfl (by decide +kernel) hl.1 (Nat.le_of_ble_eq_true rfl) rfl dL_areAlike_206 ⟨Nat.le_of_ble_eq_true rfl, Nat.le_of_ble_eq_true rfl⟩) (wOb E A S ++ wOb E B T) [] rfl (by decide +kernel) rfl rfl (fun H locs w => ?_)
            refine lv_iconst (v := 3) hx hb dL_areAlike_209 (by decide) ?_
            refine r_ci w (r_runV (As := [.int (fL_there (nI k)), .int 3]) (rest := []) X w (q_ofCell l E B T (fL_there (nI k)) 3 ) ck_L_34 ⟨Nat.le_of_ble_eq_true rfl, Nat.le_of_ble_eq_true rfl⟩ isB (hcR_3 (E := E)) nd_B (k0 := 0) CL6 rfl hl.1 (Nat.le_of_ble_eq_true rfl) rfl dL_areAlike_210 ⟨Nat.le_of_ble_eq_true rfl, Nat.le_of_ble_eq_true rfl⟩) (wOb E A S ++ wOb E B T) isB (hcR_3 (E := E)) nd_B (haR_3 (E := E)) (hwR_3 (E := E)) (fun H locs w => ?_)
            refine lv_iload hx hb dL_areAlike_213 (lv_at hl 0 rfl) ?_
            refine r_ci w (r_runS (As := [.int (an_ofCell S (nI k) 3)]) (rest := [.int (an_ofCell T (fL_there (nI k)) 3)]) X w (kL_way l E (an_ofCell S (nI k) 3) ) ck_L_78 ⟨Nat.le_of_ble_eq_true rfl, Nat.le_of_ble_eq_true rfl⟩ [] rfl (by decide +kernel) hl.1 (Nat.le_of_ble_eq_true rfl) rfl dL_areAlike_215 ⟨Nat.le_of_ble_eq_true rfl, Nat.le_of_ble_eq_true rfl⟩) (wOb E A S ++ wOb E B T) [] rfl (by decide +kernel) rfl rfl (fun H locs w => ?_)
            refine lv_icmp_ne (tgt := 225) hx hb dL_areAlike_218 (by decide) (fun h => absurd (al_c3y (by omega) c182_18) h) (fun _ => ?_)
            refine lv_iconst (v := 1) hx hb dL_areAlike_221 (by decide) ?_
            refine lv_goto (tgt := 226) hx hb dL_areAlike_222 (by decide) ?_
            refine lv_istore_n (lv' := [(3, .int 1), (5, .int (an_ofCell S (nI k) 3)), (4, .int (nI k)), (0, .ref (adH A)), (1, .ref (adH B)), (2, .int vx)]) hx hb dL_areAlike_226 rfl hl (by decide) rfl (fun ls hl => ?_)
            refine lv_iinc (v := (nI k) + 1) (lv' := [(4, .int ((nI k) + 1)), (3, .int 1), (5, .int (an_ofCell S (nI k) 3)), (0, .ref (adH A)), (1, .ref (adH B)), (2, .int vx)]) hx hb dL_areAlike_227 hl (k := 2) rfl (by first | rfl | decide) (by decide) rfl (fun ls hl => ?_)
            refine lv_goto (tgt := 74) hx hb dL_areAlike_230 (by decide) ?_
            have e0 : nI k + 1 = nI (k + 1) := nI_1 k
            rw [e0] at hl
            exact ih2 (k + 1) (by omega) _ _ w ls (lv_sub hl [0, 1, 3, 4, 5] rfl)
          · refine lv_aload_n hx hb dL_areAlike_185 rfl (lv_at hl 4 rfl) ?_
            refine lv_iload hx hb dL_areAlike_186 (lv_at hl 1 rfl) ?_
            refine r_ci w (r_runS (As := [.int (nI k)]) (rest := [.ref (adH B)]) X w (kL_there l E (nI k) ) ck_L_31 ⟨Nat.le_of_ble_eq_true rfl, Nat.le_of_ble_eq_true rfl⟩ [] rfl (by decide +kernel) hl.1 (Nat.le_of_ble_eq_true rfl) rfl dL_areAlike_188 ⟨Nat.le_of_ble_eq_true rfl, Nat.le_of_ble_eq_true rfl⟩) (wOb E A S ++ wOb E B T) [] rfl (by decide +kernel) rfl rfl (fun H locs w => ?_)
            refine lv_iconst (v := 3) hx hb dL_areAlike_191 (by decide) ?_
            refine r_ci w (r_runV (As := [.int (fL_there (nI k)), .int 3]) (rest := []) X w (q_ofCell l E B T (fL_there (nI k)) 3 ) ck_L_34 ⟨Nat.le_of_ble_eq_true rfl, Nat.le_of_ble_eq_true rfl⟩ isB (hcR_3 (E := E)) nd_B (k0 := 0) CL6 rfl hl.1 (Nat.le_of_ble_eq_true rfl) rfl dL_areAlike_192 ⟨Nat.le_of_ble_eq_true rfl, Nat.le_of_ble_eq_true rfl⟩) (wOb E A S ++ wOb E B T) isB (hcR_3 (E := E)) nd_B (haR_3 (E := E)) (hwR_3 (E := E)) (fun H locs w => ?_)
            refine lv_iload hx hb dL_areAlike_195 (lv_at hl 0 rfl) ?_
            refine lv_icmp_ne (tgt := 225) hx hb dL_areAlike_197 (by decide) (fun h => absurd (al_c3n (by omega) c182_18) h) (fun _ => ?_)
            refine lv_goto (tgt := 221) hx hb dL_areAlike_200 (by decide) ?_
            refine lv_iconst (v := 1) hx hb dL_areAlike_221 (by decide) ?_
            refine lv_goto (tgt := 226) hx hb dL_areAlike_222 (by decide) ?_
            refine lv_istore_n (lv' := [(3, .int 1), (5, .int (an_ofCell S (nI k) 3)), (4, .int (nI k)), (0, .ref (adH A)), (1, .ref (adH B)), (2, .int vx)]) hx hb dL_areAlike_226 rfl hl (by decide) rfl (fun ls hl => ?_)
            refine lv_iinc (v := (nI k) + 1) (lv' := [(4, .int ((nI k) + 1)), (3, .int 1), (5, .int (an_ofCell S (nI k) 3)), (0, .ref (adH A)), (1, .ref (adH B)), (2, .int vx)]) hx hb dL_areAlike_227 hl (k := 2) rfl (by first | rfl | decide) (by decide) rfl (fun ls hl => ?_)
            refine lv_goto (tgt := 74) hx hb dL_areAlike_230 (by decide) ?_
            have e0 : nI k + 1 = nI (k + 1) := nI_1 k
            rw [e0] at hl
            exact ih2 (k + 1) (by omega) _ _ w ls (lv_sub hl [0, 1, 3, 4, 5] rfl)
      exact loop2 61 0 (by omega) _ _ w ls (lv_sub hl [0, 1, 2, 3, 4] rfl)
    | succ n ih =>
      intro k hk_k H locs w ls hl
      have hkN : k < 14 := by omega
      refine lv_iload hx hb dL_areAlike_5 (lv_at hl 0 rfl) ?_
      refine lv_bipush (v := 14) hx hb dL_areAlike_7 (by decide) ?_
      refine lv_icmp_ge (tgt := 71) hx hb dL_areAlike_9 (by decide) (fun h => absurd h (nI_ge (b := 14) hkN (by decide))) (fun _ => ?_)
      refine lv_iload_n hx hb dL_areAlike_12 rfl (lv_at hl 1 rfl) ?_
      refine lv_if_eq (tgt := 63) hx hb dL_areAlike_13 (by decide) (fun h => absurd h (by decide)) (fun _ => ?_)
      refine lv_iload hx hb dL_areAlike_16 (lv_at hl 0 rfl) ?_
      refine lv_bipush (v := 10) hx hb dL_areAlike_18 (by decide) ?_
      refine lv_icmp_ne (tgt := 44) hx hb dL_areAlike_20 (by decide) (fun c20_22 => ?_) (fun c20_22 => ?_)
      · refine lv_aload_n hx hb dL_areAlike_44 rfl (lv_at hl 2 rfl) ?_
        refine lv_iload hx hb dL_areAlike_45 (lv_at hl 0 rfl) ?_
        refine r_ci w (r_runV (As := [.int (nI k)]) (rest := []) X w (q_count l E A S (nI k) ) ck_L_15 ⟨Nat.le_of_ble_eq_true rfl, Nat.le_of_ble_eq_true rfl⟩ isA (hcR_2 (E := E)) nd_A (k0 := 0) CL6 rfl hl.1 (Nat.le_of_ble_eq_true rfl) rfl dL_areAlike_47 ⟨Nat.le_of_ble_eq_true rfl, Nat.le_of_ble_eq_true rfl⟩) (wOb E A S ++ wOb E B T) isA (hcR_2 (E := E)) nd_A (haR_2 (E := E)) (hwR_2 (E := E)) (fun H locs w => ?_)
        refine lv_aload_n hx hb dL_areAlike_50 rfl (lv_at hl 3 rfl) ?_
        refine lv_iload hx hb dL_areAlike_51 (lv_at hl 0 rfl) ?_
        refine r_ci w (r_runV (As := [.int (nI k)]) (rest := [.int (an_count S (nI k))]) X w (q_count l E B T (nI k) ) ck_L_15 ⟨Nat.le_of_ble_eq_true rfl, Nat.le_of_ble_eq_true rfl⟩ isB (hcR_3 (E := E)) nd_B (k0 := 0) CL6 rfl hl.1 (Nat.le_of_ble_eq_true rfl) rfl dL_areAlike_53 ⟨Nat.le_of_ble_eq_true rfl, Nat.le_of_ble_eq_true rfl⟩) (wOb E A S ++ wOb E B T) isB (hcR_3 (E := E)) nd_B (haR_3 (E := E)) (hwR_3 (E := E)) (fun H locs w => ?_)
        refine lv_icmp_ne (tgt := 63) hx hb dL_areAlike_56 (by decide) (fun h => absurd (al_ct hI k (by omega) c20_22) h) (fun _ => ?_)
        refine lv_iconst (v := 1) hx hb dL_areAlike_59 (by decide) ?_
        refine lv_goto (tgt := 64) hx hb dL_areAlike_60 (by decide) ?_
        refine lv_istore_n (lv' := [(3, .int 1), (4, .int (nI k)), (0, .ref (adH A)), (1, .ref (adH B)), (2, .int vx)]) hx hb dL_areAlike_64 rfl hl (by decide) rfl (fun ls hl => ?_)
        refine lv_iinc (v := (nI k) + 1) (lv' := [(4, .int ((nI k) + 1)), (3, .int 1), (0, .ref (adH A)), (1, .ref (adH B)), (2, .int vx)]) hx hb dL_areAlike_65 hl (k := 1) rfl (by first | rfl | decide) (by decide) rfl (fun ls hl => ?_)
        refine lv_goto (tgt := 5) hx hb dL_areAlike_68 (by decide) ?_
        have e0 : nI k + 1 = nI (k + 1) := nI_1 k
        rw [e0] at hl
        exact ih (k + 1) (by omega) _ _ w ls (lv_sub hl [0, 1, 2, 3, 4] rfl)
      · refine lv_aload_n hx hb dL_areAlike_23 rfl (lv_at hl 2 rfl) ?_
        refine lv_bipush (v := 10) hx hb dL_areAlike_24 (by decide) ?_
        refine r_ci w (r_runV (As := [.int 10]) (rest := []) X w (q_count l E A S 10 ) ck_L_15 ⟨Nat.le_of_ble_eq_true rfl, Nat.le_of_ble_eq_true rfl⟩ isA (hcR_2 (E := E)) nd_A (k0 := 0) CL6 rfl hl.1 (Nat.le_of_ble_eq_true rfl) rfl dL_areAlike_26 ⟨Nat.le_of_ble_eq_true rfl, Nat.le_of_ble_eq_true rfl⟩) (wOb E A S ++ wOb E B T) isA (hcR_2 (E := E)) nd_A (haR_2 (E := E)) (hwR_2 (E := E)) (fun H locs w => ?_)
        refine r_ci w (r_runS (As := [.int (an_count S 10)]) (rest := []) X w (kL_pots l E (an_count S 10) ) ck_L_57 ⟨Nat.le_of_ble_eq_true rfl, Nat.le_of_ble_eq_true rfl⟩ [] rfl (by decide +kernel) hl.1 (Nat.le_of_ble_eq_true rfl) rfl dL_areAlike_29 ⟨Nat.le_of_ble_eq_true rfl, Nat.le_of_ble_eq_true rfl⟩) (wOb E A S ++ wOb E B T) [] rfl (by decide +kernel) rfl rfl (fun H locs w => ?_)
        refine lv_aload_n hx hb dL_areAlike_32 rfl (lv_at hl 3 rfl) ?_
        refine lv_bipush (v := 10) hx hb dL_areAlike_33 (by decide) ?_
        refine r_ci w (r_runV (As := [.int 10]) (rest := [.int (fL_pots (an_count S 10))]) X w (q_count l E B T 10 ) ck_L_15 ⟨Nat.le_of_ble_eq_true rfl, Nat.le_of_ble_eq_true rfl⟩ isB (hcR_3 (E := E)) nd_B (k0 := 0) CL6 rfl hl.1 (Nat.le_of_ble_eq_true rfl) rfl dL_areAlike_35 ⟨Nat.le_of_ble_eq_true rfl, Nat.le_of_ble_eq_true rfl⟩) (wOb E A S ++ wOb E B T) isB (hcR_3 (E := E)) nd_B (haR_3 (E := E)) (hwR_3 (E := E)) (fun H locs w => ?_)
        refine lv_icmp_ne (tgt := 63) hx hb dL_areAlike_38 (by decide) (fun h => absurd (al_10 hI) h) (fun _ => ?_)
        refine lv_goto (tgt := 59) hx hb dL_areAlike_41 (by decide) ?_
        refine lv_iconst (v := 1) hx hb dL_areAlike_59 (by decide) ?_
        refine lv_goto (tgt := 64) hx hb dL_areAlike_60 (by decide) ?_
        refine lv_istore_n (lv' := [(3, .int 1), (4, .int (nI k)), (0, .ref (adH A)), (1, .ref (adH B)), (2, .int vx)]) hx hb dL_areAlike_64 rfl hl (by decide) rfl (fun ls hl => ?_)
        refine lv_iinc (v := (nI k) + 1) (lv' := [(4, .int ((nI k) + 1)), (3, .int 1), (0, .ref (adH A)), (1, .ref (adH B)), (2, .int vx)]) hx hb dL_areAlike_65 hl (k := 1) rfl (by first | rfl | decide) (by decide) rfl (fun ls hl => ?_)
        refine lv_goto (tgt := 5) hx hb dL_areAlike_68 (by decide) ?_
        have e0 : nI k + 1 = nI (k + 1) := nI_1 k
        rw [e0] at hl
        exact ih (k + 1) (by omega) _ _ w ls (lv_sub hl [0, 1, 2, 3, 4] rfl)
  exact loop 14 0 (by omega) _ _ w ls (lv_sub hl [0, 1, 2, 3, 4] rfl)
