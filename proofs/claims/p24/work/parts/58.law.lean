/-! p24: the law's isStep (printed by wip/p24/p58.py) -/
theorem tab_out_8 {x : Int32} (h0 : ¬ x = 0) (h1 : ¬ x = 1) (h2 : ¬ x = 2) (h3 : ¬ x = 3) (h4 : ¬ x = 4) (h5 : ¬ x = 5) (h6 : ¬ x = 6) (h7 : ¬ x = 7) (h8 : ¬ x = 8) : x.toInt < 0 ∨ 8 < x.toInt := by
  have e0 : ¬ x.toInt = 0 := ne_i h0
  have e1 : ¬ x.toInt = 1 := ne_i h1
  have e2 : ¬ x.toInt = 2 := ne_i h2
  have e3 : ¬ x.toInt = 3 := ne_i h3
  have e4 : ¬ x.toInt = 4 := ne_i h4
  have e5 : ¬ x.toInt = 5 := ne_i h5
  have e6 : ¬ x.toInt = 6 := ne_i h6
  have e7 : ¬ x.toInt = 7 := ne_i h7
  have e8 : ¬ x.toInt = 8 := ne_i h8
  omega
theorem ev1_ne {S : So} {f : N1} {M : Nat} (hG : gG M f) (h : oS S = cls f) : ¬ an_count S 1 + 1 = 0 := by
  obtain ⟨e, he, h12⟩ := ever_n hG.1
  rw [ct_1 h, h12, nI_s (by omega)]
  exact fun q => by have := nI_inj (show e + 1 < 1000 by omega) (show 0 < 1000 by omega) q; omega
theorem n3_ex (y : Int32) : ∃ N : Nat, 1 ≤ N ∧ N ≤ 3 ∧ 1 + fL_up y 3 = nI N := by
  have h := add_in (u := fL_up y 3) (a := 1) (k := 1) (n := 3) rfl (up_in rfl (by decide)) (by decide)
  have h1 : ((1 : Nat) : Int) = 1 := rfl
  have h2 : ((1 + 3 : Nat) : Int) = 4 := rfl
  rw [h1, h2] at h
  exact ⟨(1 + fL_up y 3).toInt.toNat, by omega, by omega, of_toI (by omega) (by omega)⟩
theorem dL_isStep_0 : decode cL_isStep 0 = .ok (.iload_n 2, 1) := by decide +kernel
theorem dL_isStep_1 : decode cL_isStep 1 = .ok (.iconst 4, 1) := by decide +kernel
theorem dL_isStep_2 : decode cL_isStep 2 = .ok (.ishr, 1) := by decide +kernel
theorem dL_isStep_3 : decode cL_isStep 3 = .ok (.istore 4, 2) := by decide +kernel
theorem dL_isStep_5 : decode cL_isStep 5 = .ok (.iload 4, 2) := by decide +kernel
theorem dL_isStep_7 : decode cL_isStep 7 = .ok (.aload_n 0, 1) := by decide +kernel
theorem dL_isStep_8 : decode cL_isStep 8 = .ok (.iconst 1, 1) := by decide +kernel
theorem dL_isStep_9 : decode cL_isStep 9 = .ok (.invokevirtual 15, 3) := by decide +kernel
theorem dL_isStep_12 : decode cL_isStep 12 = .ok (.iconst 1, 1) := by decide +kernel
theorem dL_isStep_13 : decode cL_isStep 13 = .ok (.iadd, 1) := by decide +kernel
theorem dL_isStep_14 : decode cL_isStep 14 = .ok (.invokestatic 19, 3) := by decide +kernel
theorem dL_isStep_17 : decode cL_isStep 17 = .ok (.istore 5, 2) := by decide +kernel
theorem dL_isStep_19 : decode cL_isStep 19 = .ok (.aload_n 0, 1) := by decide +kernel
theorem dL_isStep_20 : decode cL_isStep 20 = .ok (.iload 5, 2) := by decide +kernel
theorem dL_isStep_22 : decode cL_isStep 22 = .ok (.iconst 0, 1) := by decide +kernel
theorem dL_isStep_23 : decode cL_isStep 23 = .ok (.invokevirtual 25, 3) := by decide +kernel
theorem dL_isStep_26 : decode cL_isStep 26 = .ok (.istore 6, 2) := by decide +kernel
theorem dL_isStep_28 : decode cL_isStep 28 = .ok (.iload_n 2, 1) := by decide +kernel
theorem dL_isStep_29 : decode cL_isStep 29 = .ok (.bipush 13, 2) := by decide +kernel
theorem dL_isStep_31 : decode cL_isStep 31 = .ok (.invokestatic 19, 3) := by decide +kernel
theorem dL_isStep_34 : decode cL_isStep 34 = .ok (.tableswitch 697 0 8 #[50, 50, 50, 163, 387, 479, 531, 600, 669], 50) := by decide +kernel
theorem dL_isStep_84 : decode cL_isStep 84 = .ok (.iload_n 3, 1) := by decide +kernel
theorem dL_isStep_85 : decode cL_isStep 85 = .ok (.bipush 61, 2) := by decide +kernel
theorem dL_isStep_87 : decode cL_isStep 87 = .ok (.invokestatic 19, 3) := by decide +kernel
theorem dL_isStep_90 : decode cL_isStep 90 = .ok (.istore 7, 2) := by decide +kernel
theorem dL_isStep_92 : decode cL_isStep 92 = .ok (.iconst 1, 1) := by decide +kernel
theorem dL_isStep_93 : decode cL_isStep 93 = .ok (.iload 4, 2) := by decide +kernel
theorem dL_isStep_95 : decode cL_isStep 95 = .ok (.bipush 20, 2) := by decide +kernel
theorem dL_isStep_97 : decode cL_isStep 97 = .ok (.invokestatic 19, 3) := by decide +kernel
theorem dL_isStep_100 : decode cL_isStep 100 = .ok (.iadd, 1) := by decide +kernel
theorem dL_isStep_101 : decode cL_isStep 101 = .ok (.istore 8, 2) := by decide +kernel
theorem dL_isStep_103 : decode cL_isStep 103 = .ok (.aload_n 0, 1) := by decide +kernel
theorem dL_isStep_104 : decode cL_isStep 104 = .ok (.iload 7, 2) := by decide +kernel
theorem dL_isStep_106 : decode cL_isStep 106 = .ok (.iload 8, 2) := by decide +kernel
theorem dL_isStep_108 : decode cL_isStep 108 = .ok (.invokevirtual 28, 3) := by decide +kernel
theorem dL_isStep_111 : decode cL_isStep 111 = .ok (.istore 9, 2) := by decide +kernel
theorem dL_isStep_113 : decode cL_isStep 113 = .ok (.iload 9, 2) := by decide +kernel
theorem dL_isStep_115 : decode cL_isStep 115 = .ok (.aload_n 1, 1) := by decide +kernel
theorem dL_isStep_116 : decode cL_isStep 116 = .ok (.iload 7, 2) := by decide +kernel
theorem dL_isStep_118 : decode cL_isStep 118 = .ok (.invokestatic 31, 3) := by decide +kernel
theorem dL_isStep_121 : decode cL_isStep 121 = .ok (.iload 8, 2) := by decide +kernel
theorem dL_isStep_123 : decode cL_isStep 123 = .ok (.invokevirtual 28, 3) := by decide +kernel
theorem dL_isStep_126 : decode cL_isStep 126 = .ok (.if_icmp .ne 69, 3) := by decide +kernel
theorem dL_isStep_129 : decode cL_isStep 129 = .ok (.iload 9, 2) := by decide +kernel
theorem dL_isStep_131 : decode cL_isStep 131 = .ok (.ifCond .ge 26, 3) := by decide +kernel
theorem dL_isStep_134 : decode cL_isStep 134 = .ok (.aload_n 0, 1) := by decide +kernel
theorem dL_isStep_135 : decode cL_isStep 135 = .ok (.iload 7, 2) := by decide +kernel
theorem dL_isStep_137 : decode cL_isStep 137 = .ok (.iconst 2, 1) := by decide +kernel
theorem dL_isStep_138 : decode cL_isStep 138 = .ok (.invokevirtual 34, 3) := by decide +kernel
theorem dL_isStep_141 : decode cL_isStep 141 = .ok (.ifCond .ge 50, 3) := by decide +kernel
theorem dL_isStep_144 : decode cL_isStep 144 = .ok (.aload_n 0, 1) := by decide +kernel
theorem dL_isStep_145 : decode cL_isStep 145 = .ok (.iconst 1, 1) := by decide +kernel
theorem dL_isStep_146 : decode cL_isStep 146 = .ok (.invokevirtual 15, 3) := by decide +kernel
theorem dL_isStep_149 : decode cL_isStep 149 = .ok (.bipush 12, 2) := by decide +kernel
theorem dL_isStep_151 : decode cL_isStep 151 = .ok (.if_icmp .ne 44, 3) := by decide +kernel
theorem dL_isStep_154 : decode cL_isStep 154 = .ok (.goto 37, 3) := by decide +kernel
theorem dL_isStep_157 : decode cL_isStep 157 = .ok (.aload_n 0, 1) := by decide +kernel
theorem dL_isStep_158 : decode cL_isStep 158 = .ok (.iload 7, 2) := by decide +kernel
theorem dL_isStep_160 : decode cL_isStep 160 = .ok (.iconst 2, 1) := by decide +kernel
theorem dL_isStep_161 : decode cL_isStep 161 = .ok (.invokevirtual 34, 3) := by decide +kernel
theorem dL_isStep_164 : decode cL_isStep 164 = .ok (.iload 9, 2) := by decide +kernel
theorem dL_isStep_166 : decode cL_isStep 166 = .ok (.if_icmp .ne 29, 3) := by decide +kernel
theorem dL_isStep_169 : decode cL_isStep 169 = .ok (.aload_n 0, 1) := by decide +kernel
theorem dL_isStep_170 : decode cL_isStep 170 = .ok (.iload 9, 2) := by decide +kernel
theorem dL_isStep_172 : decode cL_isStep 172 = .ok (.iconst 1, 1) := by decide +kernel
theorem dL_isStep_173 : decode cL_isStep 173 = .ok (.invokevirtual 25, 3) := by decide +kernel
theorem dL_isStep_176 : decode cL_isStep 176 = .ok (.iload 8, 2) := by decide +kernel
theorem dL_isStep_178 : decode cL_isStep 178 = .ok (.if_icmp .ne 17, 3) := by decide +kernel
theorem dL_isStep_181 : decode cL_isStep 181 = .ok (.aload_n 0, 1) := by decide +kernel
theorem dL_isStep_182 : decode cL_isStep 182 = .ok (.iload 9, 2) := by decide +kernel
theorem dL_isStep_184 : decode cL_isStep 184 = .ok (.iconst 2, 1) := by decide +kernel
theorem dL_isStep_185 : decode cL_isStep 185 = .ok (.invokevirtual 25, 3) := by decide +kernel
theorem dL_isStep_188 : decode cL_isStep 188 = .ok (.ifCond .ne 7, 3) := by decide +kernel
theorem dL_isStep_191 : decode cL_isStep 191 = .ok (.iconst 1, 1) := by decide +kernel
theorem dL_isStep_192 : decode cL_isStep 192 = .ok (.goto 4, 3) := by decide +kernel
theorem dL_isStep_196 : decode cL_isStep 196 = .ok (.ireturn, 1) := by decide +kernel
theorem dL_isStep_197 : decode cL_isStep 197 = .ok (.iconst 1, 1) := by decide +kernel
theorem dL_isStep_198 : decode cL_isStep 198 = .ok (.iload 4, 2) := by decide +kernel
theorem dL_isStep_200 : decode cL_isStep 200 = .ok (.iconst 3, 1) := by decide +kernel
theorem dL_isStep_201 : decode cL_isStep 201 = .ok (.invokestatic 19, 3) := by decide +kernel
theorem dL_isStep_204 : decode cL_isStep 204 = .ok (.iadd, 1) := by decide +kernel
theorem dL_isStep_205 : decode cL_isStep 205 = .ok (.istore 7, 2) := by decide +kernel
theorem dL_isStep_207 : decode cL_isStep 207 = .ok (.aload_n 0, 1) := by decide +kernel
theorem dL_isStep_208 : decode cL_isStep 208 = .ok (.invokevirtual 37, 3) := by decide +kernel
theorem dL_isStep_211 : decode cL_isStep 211 = .ok (.ifCond .lt 14, 3) := by decide +kernel
theorem dL_isStep_214 : decode cL_isStep 214 = .ok (.aload_n 1, 1) := by decide +kernel
theorem dL_isStep_215 : decode cL_isStep 215 = .ok (.invokevirtual 37, 3) := by decide +kernel
theorem dL_isStep_218 : decode cL_isStep 218 = .ok (.ifCond .lt 7, 3) := by decide +kernel
theorem dL_isStep_221 : decode cL_isStep 221 = .ok (.iconst 1, 1) := by decide +kernel
theorem dL_isStep_222 : decode cL_isStep 222 = .ok (.goto 4, 3) := by decide +kernel
theorem dL_isStep_226 : decode cL_isStep 226 = .ok (.istore 8, 2) := by decide +kernel
theorem dL_isStep_228 : decode cL_isStep 228 = .ok (.iconst 0, 1) := by decide +kernel
theorem dL_isStep_229 : decode cL_isStep 229 = .ok (.istore 9, 2) := by decide +kernel
theorem dL_isStep_231 : decode cL_isStep 231 = .ok (.iload 9, 2) := by decide +kernel
theorem dL_isStep_233 : decode cL_isStep 233 = .ok (.iload 7, 2) := by decide +kernel
theorem dL_isStep_235 : decode cL_isStep 235 = .ok (.if_icmp .ge 131, 3) := by decide +kernel
theorem dL_isStep_238 : decode cL_isStep 238 = .ok (.iload_n 3, 1) := by decide +kernel
theorem dL_isStep_239 : decode cL_isStep 239 = .ok (.iconst 3, 1) := by decide +kernel
theorem dL_isStep_240 : decode cL_isStep 240 = .ok (.iload 9, 2) := by decide +kernel
theorem dL_isStep_242 : decode cL_isStep 242 = .ok (.imul, 1) := by decide +kernel
theorem dL_isStep_243 : decode cL_isStep 243 = .ok (.ishr, 1) := by decide +kernel
theorem dL_isStep_244 : decode cL_isStep 244 = .ok (.bipush 61, 2) := by decide +kernel
theorem dL_isStep_246 : decode cL_isStep 246 = .ok (.invokestatic 19, 3) := by decide +kernel
theorem dL_isStep_249 : decode cL_isStep 249 = .ok (.istore 10, 2) := by decide +kernel
theorem dL_isStep_251 : decode cL_isStep 251 = .ok (.iconst 1, 1) := by decide +kernel
theorem dL_isStep_252 : decode cL_isStep 252 = .ok (.iload_n 3, 1) := by decide +kernel
theorem dL_isStep_253 : decode cL_isStep 253 = .ok (.iconst 2, 1) := by decide +kernel
theorem dL_isStep_254 : decode cL_isStep 254 = .ok (.iload 9, 2) := by decide +kernel
theorem dL_isStep_256 : decode cL_isStep 256 = .ok (.imul, 1) := by decide +kernel
theorem dL_isStep_257 : decode cL_isStep 257 = .ok (.iconst 1, 1) := by decide +kernel
theorem dL_isStep_258 : decode cL_isStep 258 = .ok (.iadd, 1) := by decide +kernel
theorem dL_isStep_259 : decode cL_isStep 259 = .ok (.ishr, 1) := by decide +kernel
theorem dL_isStep_260 : decode cL_isStep 260 = .ok (.bipush 20, 2) := by decide +kernel
theorem dL_isStep_262 : decode cL_isStep 262 = .ok (.invokestatic 19, 3) := by decide +kernel
theorem dL_isStep_265 : decode cL_isStep 265 = .ok (.iadd, 1) := by decide +kernel
theorem dL_isStep_266 : decode cL_isStep 266 = .ok (.istore 11, 2) := by decide +kernel
theorem dL_isStep_268 : decode cL_isStep 268 = .ok (.iload 8, 2) := by decide +kernel
theorem dL_isStep_270 : decode cL_isStep 270 = .ok (.ifCond .eq 87, 3) := by decide +kernel
theorem dL_isStep_273 : decode cL_isStep 273 = .ok (.iload 9, 2) := by decide +kernel
theorem dL_isStep_275 : decode cL_isStep 275 = .ok (.ifCond .eq 21, 3) := by decide +kernel
theorem dL_isStep_278 : decode cL_isStep 278 = .ok (.aload_n 0, 1) := by decide +kernel
theorem dL_isStep_279 : decode cL_isStep 279 = .ok (.bipush 59, 2) := by decide +kernel
theorem dL_isStep_281 : decode cL_isStep 281 = .ok (.invokevirtual 9, 3) := by decide +kernel
theorem dL_isStep_284 : decode cL_isStep 284 = .ok (.ifCond .le 73, 3) := by decide +kernel
theorem dL_isStep_287 : decode cL_isStep 287 = .ok (.aload_n 1, 1) := by decide +kernel
theorem dL_isStep_288 : decode cL_isStep 288 = .ok (.bipush 59, 2) := by decide +kernel
theorem dL_isStep_290 : decode cL_isStep 290 = .ok (.invokevirtual 9, 3) := by decide +kernel
theorem dL_isStep_293 : decode cL_isStep 293 = .ok (.ifCond .le 64, 3) := by decide +kernel
theorem dL_isStep_296 : decode cL_isStep 296 = .ok (.aload_n 0, 1) := by decide +kernel
theorem dL_isStep_297 : decode cL_isStep 297 = .ok (.iload 10, 2) := by decide +kernel
theorem dL_isStep_299 : decode cL_isStep 299 = .ok (.invokestatic 41, 3) := by decide +kernel
theorem dL_isStep_302 : decode cL_isStep 302 = .ok (.ifCond .eq 55, 3) := by decide +kernel
theorem dL_isStep_305 : decode cL_isStep 305 = .ok (.aload_n 1, 1) := by decide +kernel
theorem dL_isStep_306 : decode cL_isStep 306 = .ok (.iload 10, 2) := by decide +kernel
theorem dL_isStep_308 : decode cL_isStep 308 = .ok (.invokestatic 31, 3) := by decide +kernel
theorem dL_isStep_311 : decode cL_isStep 311 = .ok (.invokestatic 41, 3) := by decide +kernel
theorem dL_isStep_314 : decode cL_isStep 314 = .ok (.ifCond .eq 43, 3) := by decide +kernel
theorem dL_isStep_317 : decode cL_isStep 317 = .ok (.aload_n 0, 1) := by decide +kernel
theorem dL_isStep_318 : decode cL_isStep 318 = .ok (.bipush 58, 2) := by decide +kernel
theorem dL_isStep_320 : decode cL_isStep 320 = .ok (.invokevirtual 9, 3) := by decide +kernel
theorem dL_isStep_323 : decode cL_isStep 323 = .ok (.ifCond .le 34, 3) := by decide +kernel
theorem dL_isStep_326 : decode cL_isStep 326 = .ok (.aload_n 1, 1) := by decide +kernel
theorem dL_isStep_327 : decode cL_isStep 327 = .ok (.bipush 58, 2) := by decide +kernel
theorem dL_isStep_329 : decode cL_isStep 329 = .ok (.invokevirtual 9, 3) := by decide +kernel
theorem dL_isStep_332 : decode cL_isStep 332 = .ok (.ifCond .le 25, 3) := by decide +kernel
theorem dL_isStep_335 : decode cL_isStep 335 = .ok (.aload_n 0, 1) := by decide +kernel
theorem dL_isStep_336 : decode cL_isStep 336 = .ok (.iload 11, 2) := by decide +kernel
theorem dL_isStep_338 : decode cL_isStep 338 = .ok (.invokestatic 41, 3) := by decide +kernel
theorem dL_isStep_341 : decode cL_isStep 341 = .ok (.ifCond .eq 16, 3) := by decide +kernel
theorem dL_isStep_344 : decode cL_isStep 344 = .ok (.aload_n 1, 1) := by decide +kernel
theorem dL_isStep_345 : decode cL_isStep 345 = .ok (.iload 11, 2) := by decide +kernel
theorem dL_isStep_347 : decode cL_isStep 347 = .ok (.invokestatic 41, 3) := by decide +kernel
theorem dL_isStep_350 : decode cL_isStep 350 = .ok (.ifCond .eq 7, 3) := by decide +kernel
theorem dL_isStep_353 : decode cL_isStep 353 = .ok (.iconst 1, 1) := by decide +kernel
theorem dL_isStep_354 : decode cL_isStep 354 = .ok (.goto 4, 3) := by decide +kernel
theorem dL_isStep_358 : decode cL_isStep 358 = .ok (.istore 8, 2) := by decide +kernel
theorem dL_isStep_360 : decode cL_isStep 360 = .ok (.iinc 9 1, 3) := by decide +kernel
theorem dL_isStep_363 : decode cL_isStep 363 = .ok (.goto (-132), 3) := by decide +kernel
theorem dL_isStep_366 : decode cL_isStep 366 = .ok (.aload_n 0, 1) := by decide +kernel
theorem dL_isStep_367 : decode cL_isStep 367 = .ok (.iconst 1, 1) := by decide +kernel
theorem dL_isStep_368 : decode cL_isStep 368 = .ok (.invokevirtual 15, 3) := by decide +kernel
theorem dL_isStep_371 : decode cL_isStep 371 = .ok (.istore 9, 2) := by decide +kernel
theorem dL_isStep_373 : decode cL_isStep 373 = .ok (.aload_n 0, 1) := by decide +kernel
theorem dL_isStep_374 : decode cL_isStep 374 = .ok (.invokevirtual 45, 3) := by decide +kernel
theorem dL_isStep_377 : decode cL_isStep 377 = .ok (.istore 10, 2) := by decide +kernel
theorem dL_isStep_379 : decode cL_isStep 379 = .ok (.iload 8, 2) := by decide +kernel
theorem dL_isStep_381 : decode cL_isStep 381 = .ok (.ifCond .eq 38, 3) := by decide +kernel
theorem dL_isStep_384 : decode cL_isStep 384 = .ok (.iload 10, 2) := by decide +kernel
theorem dL_isStep_386 : decode cL_isStep 386 = .ok (.aload_n 1, 1) := by decide +kernel
theorem dL_isStep_387 : decode cL_isStep 387 = .ok (.invokevirtual 45, 3) := by decide +kernel
theorem dL_isStep_390 : decode cL_isStep 390 = .ok (.if_icmp .ne 29, 3) := by decide +kernel
theorem dL_isStep_393 : decode cL_isStep 393 = .ok (.aload_n 0, 1) := by decide +kernel
theorem dL_isStep_394 : decode cL_isStep 394 = .ok (.iconst 1, 1) := by decide +kernel
theorem dL_isStep_395 : decode cL_isStep 395 = .ok (.invokevirtual 15, 3) := by decide +kernel
theorem dL_isStep_398 : decode cL_isStep 398 = .ok (.iload 9, 2) := by decide +kernel
theorem dL_isStep_400 : decode cL_isStep 400 = .ok (.iload 10, 2) := by decide +kernel
theorem dL_isStep_402 : decode cL_isStep 402 = .ok (.ifCond .ge 7, 3) := by decide +kernel
theorem dL_isStep_405 : decode cL_isStep 405 = .ok (.iconst 0, 1) := by decide +kernel
theorem dL_isStep_406 : decode cL_isStep 406 = .ok (.goto 5, 3) := by decide +kernel
theorem dL_isStep_409 : decode cL_isStep 409 = .ok (.iload 7, 2) := by decide +kernel
theorem dL_isStep_411 : decode cL_isStep 411 = .ok (.iadd, 1) := by decide +kernel
theorem dL_isStep_412 : decode cL_isStep 412 = .ok (.if_icmp .ne 7, 3) := by decide +kernel
theorem dL_isStep_415 : decode cL_isStep 415 = .ok (.iconst 1, 1) := by decide +kernel
theorem dL_isStep_416 : decode cL_isStep 416 = .ok (.goto 4, 3) := by decide +kernel
theorem dL_isStep_420 : decode cL_isStep 420 = .ok (.ireturn, 1) := by decide +kernel
theorem dL_isStep_421 : decode cL_isStep 421 = .ok (.iload_n 3, 1) := by decide +kernel
theorem dL_isStep_422 : decode cL_isStep 422 = .ok (.bipush 61, 2) := by decide +kernel
theorem dL_isStep_424 : decode cL_isStep 424 = .ok (.invokestatic 19, 3) := by decide +kernel
theorem dL_isStep_427 : decode cL_isStep 427 = .ok (.istore 7, 2) := by decide +kernel
theorem dL_isStep_429 : decode cL_isStep 429 = .ok (.aload_n 0, 1) := by decide +kernel
theorem dL_isStep_430 : decode cL_isStep 430 = .ok (.iload 5, 2) := by decide +kernel
theorem dL_isStep_432 : decode cL_isStep 432 = .ok (.iload 7, 2) := by decide +kernel
theorem dL_isStep_434 : decode cL_isStep 434 = .ok (.invokevirtual 48, 3) := by decide +kernel
theorem dL_isStep_437 : decode cL_isStep 437 = .ok (.istore 8, 2) := by decide +kernel
theorem dL_isStep_439 : decode cL_isStep 439 = .ok (.aload_n 1, 1) := by decide +kernel
theorem dL_isStep_440 : decode cL_isStep 440 = .ok (.iload 5, 2) := by decide +kernel
theorem dL_isStep_442 : decode cL_isStep 442 = .ok (.iload 7, 2) := by decide +kernel
theorem dL_isStep_444 : decode cL_isStep 444 = .ok (.invokestatic 31, 3) := by decide +kernel
theorem dL_isStep_447 : decode cL_isStep 447 = .ok (.invokevirtual 48, 3) := by decide +kernel
theorem dL_isStep_450 : decode cL_isStep 450 = .ok (.istore 9, 2) := by decide +kernel
theorem dL_isStep_452 : decode cL_isStep 452 = .ok (.iload 6, 2) := by decide +kernel
theorem dL_isStep_454 : decode cL_isStep 454 = .ok (.ifCond .ge 24, 3) := by decide +kernel
theorem dL_isStep_457 : decode cL_isStep 457 = .ok (.iload 8, 2) := by decide +kernel
theorem dL_isStep_459 : decode cL_isStep 459 = .ok (.iconst (-1), 1) := by decide +kernel
theorem dL_isStep_460 : decode cL_isStep 460 = .ok (.if_icmp .ne 14, 3) := by decide +kernel
theorem dL_isStep_463 : decode cL_isStep 463 = .ok (.iload 9, 2) := by decide +kernel
theorem dL_isStep_465 : decode cL_isStep 465 = .ok (.iload 8, 2) := by decide +kernel
theorem dL_isStep_467 : decode cL_isStep 467 = .ok (.if_icmp .ne 7, 3) := by decide +kernel
theorem dL_isStep_470 : decode cL_isStep 470 = .ok (.iconst 1, 1) := by decide +kernel
theorem dL_isStep_471 : decode cL_isStep 471 = .ok (.goto 41, 3) := by decide +kernel
theorem dL_isStep_478 : decode cL_isStep 478 = .ok (.iload 9, 2) := by decide +kernel
theorem dL_isStep_480 : decode cL_isStep 480 = .ok (.iload 8, 2) := by decide +kernel
theorem dL_isStep_482 : decode cL_isStep 482 = .ok (.invokestatic 31, 3) := by decide +kernel
theorem dL_isStep_485 : decode cL_isStep 485 = .ok (.if_icmp .ne 26, 3) := by decide +kernel
theorem dL_isStep_488 : decode cL_isStep 488 = .ok (.iload 8, 2) := by decide +kernel
theorem dL_isStep_490 : decode cL_isStep 490 = .ok (.bipush (-4), 2) := by decide +kernel
theorem dL_isStep_492 : decode cL_isStep 492 = .ok (.if_icmp .eq 15, 3) := by decide +kernel
theorem dL_isStep_495 : decode cL_isStep 495 = .ok (.aload_n 0, 1) := by decide +kernel
theorem dL_isStep_496 : decode cL_isStep 496 = .ok (.iload 5, 2) := by decide +kernel
theorem dL_isStep_498 : decode cL_isStep 498 = .ok (.iconst 0, 1) := by decide +kernel
theorem dL_isStep_499 : decode cL_isStep 499 = .ok (.invokevirtual 25, 3) := by decide +kernel
theorem dL_isStep_502 : decode cL_isStep 502 = .ok (.iload 7, 2) := by decide +kernel
theorem dL_isStep_504 : decode cL_isStep 504 = .ok (.if_icmp .ne 7, 3) := by decide +kernel
theorem dL_isStep_507 : decode cL_isStep 507 = .ok (.iconst 1, 1) := by decide +kernel
theorem dL_isStep_508 : decode cL_isStep 508 = .ok (.goto 4, 3) := by decide +kernel
theorem dL_isStep_512 : decode cL_isStep 512 = .ok (.ireturn, 1) := by decide +kernel
theorem dL_isStep_513 : decode cL_isStep 513 = .ok (.iload_n 3, 1) := by decide +kernel
theorem dL_isStep_514 : decode cL_isStep 514 = .ok (.iconst 4, 1) := by decide +kernel
theorem dL_isStep_515 : decode cL_isStep 515 = .ok (.invokestatic 19, 3) := by decide +kernel
theorem dL_isStep_518 : decode cL_isStep 518 = .ok (.ifCond .le 5, 3) := by decide +kernel
theorem dL_isStep_521 : decode cL_isStep 521 = .ok (.iconst 1, 1) := by decide +kernel
theorem dL_isStep_522 : decode cL_isStep 522 = .ok (.ireturn, 1) := by decide +kernel
theorem dL_isStep_523 : decode cL_isStep 523 = .ok (.aload_n 0, 1) := by decide +kernel
theorem dL_isStep_524 : decode cL_isStep 524 = .ok (.iload 5, 2) := by decide +kernel
theorem dL_isStep_526 : decode cL_isStep 526 = .ok (.invokevirtual 51, 3) := by decide +kernel
theorem dL_isStep_529 : decode cL_isStep 529 = .ok (.iload 6, 2) := by decide +kernel
theorem dL_isStep_531 : decode cL_isStep 531 = .ok (.if_icmp .ne 32, 3) := by decide +kernel
theorem dL_isStep_534 : decode cL_isStep 534 = .ok (.aload_n 1, 1) := by decide +kernel
theorem dL_isStep_535 : decode cL_isStep 535 = .ok (.iload 5, 2) := by decide +kernel
theorem dL_isStep_537 : decode cL_isStep 537 = .ok (.invokevirtual 51, 3) := by decide +kernel
theorem dL_isStep_540 : decode cL_isStep 540 = .ok (.iload 6, 2) := by decide +kernel
theorem dL_isStep_542 : decode cL_isStep 542 = .ok (.invokestatic 31, 3) := by decide +kernel
theorem dL_isStep_545 : decode cL_isStep 545 = .ok (.if_icmp .ne 18, 3) := by decide +kernel
theorem dL_isStep_548 : decode cL_isStep 548 = .ok (.aload_n 0, 1) := by decide +kernel
theorem dL_isStep_549 : decode cL_isStep 549 = .ok (.iload 5, 2) := by decide +kernel
theorem dL_isStep_551 : decode cL_isStep 551 = .ok (.iconst 0, 1) := by decide +kernel
theorem dL_isStep_552 : decode cL_isStep 552 = .ok (.invokevirtual 25, 3) := by decide +kernel
theorem dL_isStep_555 : decode cL_isStep 555 = .ok (.iconst (-1), 1) := by decide +kernel
theorem dL_isStep_556 : decode cL_isStep 556 = .ok (.if_icmp .ne 7, 3) := by decide +kernel
theorem dL_isStep_559 : decode cL_isStep 559 = .ok (.iconst 1, 1) := by decide +kernel
theorem dL_isStep_560 : decode cL_isStep 560 = .ok (.goto 4, 3) := by decide +kernel
theorem dL_isStep_564 : decode cL_isStep 564 = .ok (.ireturn, 1) := by decide +kernel
theorem dL_isStep_565 : decode cL_isStep 565 = .ok (.iload_n 3, 1) := by decide +kernel
theorem dL_isStep_566 : decode cL_isStep 566 = .ok (.bipush 64, 2) := by decide +kernel
theorem dL_isStep_568 : decode cL_isStep 568 = .ok (.invokestatic 19, 3) := by decide +kernel
theorem dL_isStep_571 : decode cL_isStep 571 = .ok (.istore 7, 2) := by decide +kernel
theorem dL_isStep_573 : decode cL_isStep 573 = .ok (.aload_n 0, 1) := by decide +kernel
theorem dL_isStep_574 : decode cL_isStep 574 = .ok (.iload 7, 2) := by decide +kernel
theorem dL_isStep_576 : decode cL_isStep 576 = .ok (.invokevirtual 54, 3) := by decide +kernel
theorem dL_isStep_579 : decode cL_isStep 579 = .ok (.istore 8, 2) := by decide +kernel
theorem dL_isStep_581 : decode cL_isStep 581 = .ok (.aload_n 1, 1) := by decide +kernel
theorem dL_isStep_582 : decode cL_isStep 582 = .ok (.iload 7, 2) := by decide +kernel
theorem dL_isStep_584 : decode cL_isStep 584 = .ok (.invokestatic 57, 3) := by decide +kernel
theorem dL_isStep_587 : decode cL_isStep 587 = .ok (.invokevirtual 54, 3) := by decide +kernel
theorem dL_isStep_590 : decode cL_isStep 590 = .ok (.istore 9, 2) := by decide +kernel
theorem dL_isStep_592 : decode cL_isStep 592 = .ok (.iload 8, 2) := by decide +kernel
theorem dL_isStep_594 : decode cL_isStep 594 = .ok (.ifCond .ge 13, 3) := by decide +kernel
theorem dL_isStep_597 : decode cL_isStep 597 = .ok (.iload 9, 2) := by decide +kernel
theorem dL_isStep_599 : decode cL_isStep 599 = .ok (.iload 8, 2) := by decide +kernel
theorem dL_isStep_601 : decode cL_isStep 601 = .ok (.if_icmp .ne 31, 3) := by decide +kernel
theorem dL_isStep_604 : decode cL_isStep 604 = .ok (.goto 13, 3) := by decide +kernel
theorem dL_isStep_607 : decode cL_isStep 607 = .ok (.iload 9, 2) := by decide +kernel
theorem dL_isStep_609 : decode cL_isStep 609 = .ok (.iload 8, 2) := by decide +kernel
theorem dL_isStep_611 : decode cL_isStep 611 = .ok (.invokestatic 57, 3) := by decide +kernel
theorem dL_isStep_614 : decode cL_isStep 614 = .ok (.if_icmp .ne 18, 3) := by decide +kernel
theorem dL_isStep_617 : decode cL_isStep 617 = .ok (.aload_n 0, 1) := by decide +kernel
theorem dL_isStep_618 : decode cL_isStep 618 = .ok (.bipush 10, 2) := by decide +kernel
theorem dL_isStep_620 : decode cL_isStep 620 = .ok (.invokevirtual 15, 3) := by decide +kernel
theorem dL_isStep_623 : decode cL_isStep 623 = .ok (.iload 7, 2) := by decide +kernel
theorem dL_isStep_625 : decode cL_isStep 625 = .ok (.if_icmp .ne 7, 3) := by decide +kernel
theorem dL_isStep_628 : decode cL_isStep 628 = .ok (.iconst 1, 1) := by decide +kernel
theorem dL_isStep_629 : decode cL_isStep 629 = .ok (.goto 4, 3) := by decide +kernel
theorem dL_isStep_633 : decode cL_isStep 633 = .ok (.ireturn, 1) := by decide +kernel
theorem dL_isStep_634 : decode cL_isStep 634 = .ok (.iload 4, 2) := by decide +kernel
theorem dL_isStep_636 : decode cL_isStep 636 = .ok (.iconst 3, 1) := by decide +kernel
theorem dL_isStep_637 : decode cL_isStep 637 = .ok (.invokestatic 19, 3) := by decide +kernel
theorem dL_isStep_640 : decode cL_isStep 640 = .ok (.istore 7, 2) := by decide +kernel
theorem dL_isStep_642 : decode cL_isStep 642 = .ok (.bipush 50, 2) := by decide +kernel
theorem dL_isStep_644 : decode cL_isStep 644 = .ok (.iload_n 3, 1) := by decide +kernel
theorem dL_isStep_645 : decode cL_isStep 645 = .ok (.iload 7, 2) := by decide +kernel
theorem dL_isStep_647 : decode cL_isStep 647 = .ok (.iconst 1, 1) := by decide +kernel
theorem dL_isStep_648 : decode cL_isStep 648 = .ok (.if_icmp .ne 8, 3) := by decide +kernel
theorem dL_isStep_651 : decode cL_isStep 651 = .ok (.bipush 51, 2) := by decide +kernel
theorem dL_isStep_653 : decode cL_isStep 653 = .ok (.goto 5, 3) := by decide +kernel
theorem dL_isStep_656 : decode cL_isStep 656 = .ok (.bipush 50, 2) := by decide +kernel
theorem dL_isStep_658 : decode cL_isStep 658 = .ok (.invokestatic 19, 3) := by decide +kernel
theorem dL_isStep_661 : decode cL_isStep 661 = .ok (.iadd, 1) := by decide +kernel
theorem dL_isStep_662 : decode cL_isStep 662 = .ok (.istore 8, 2) := by decide +kernel
theorem dL_isStep_664 : decode cL_isStep 664 = .ok (.aload_n 0, 1) := by decide +kernel
theorem dL_isStep_665 : decode cL_isStep 665 = .ok (.iload 7, 2) := by decide +kernel
theorem dL_isStep_667 : decode cL_isStep 667 = .ok (.iload 8, 2) := by decide +kernel
theorem dL_isStep_669 : decode cL_isStep 669 = .ok (.invokevirtual 60, 3) := by decide +kernel
theorem dL_isStep_672 : decode cL_isStep 672 = .ok (.aload_n 1, 1) := by decide +kernel
theorem dL_isStep_673 : decode cL_isStep 673 = .ok (.iload 7, 2) := by decide +kernel
theorem dL_isStep_675 : decode cL_isStep 675 = .ok (.iload 8, 2) := by decide +kernel
theorem dL_isStep_677 : decode cL_isStep 677 = .ok (.invokevirtual 60, 3) := by decide +kernel
theorem dL_isStep_680 : decode cL_isStep 680 = .ok (.if_icmp .ne 21, 3) := by decide +kernel
theorem dL_isStep_683 : decode cL_isStep 683 = .ok (.aload_n 0, 1) := by decide +kernel
theorem dL_isStep_684 : decode cL_isStep 684 = .ok (.bipush 11, 2) := by decide +kernel
theorem dL_isStep_686 : decode cL_isStep 686 = .ok (.iload 7, 2) := by decide +kernel
theorem dL_isStep_688 : decode cL_isStep 688 = .ok (.iadd, 1) := by decide +kernel
theorem dL_isStep_689 : decode cL_isStep 689 = .ok (.invokevirtual 15, 3) := by decide +kernel
theorem dL_isStep_692 : decode cL_isStep 692 = .ok (.iload 8, 2) := by decide +kernel
theorem dL_isStep_694 : decode cL_isStep 694 = .ok (.if_icmp .ne 7, 3) := by decide +kernel
theorem dL_isStep_697 : decode cL_isStep 697 = .ok (.iconst 1, 1) := by decide +kernel
theorem dL_isStep_698 : decode cL_isStep 698 = .ok (.goto 4, 3) := by decide +kernel
theorem dL_isStep_702 : decode cL_isStep 702 = .ok (.ireturn, 1) := by decide +kernel
theorem dL_isStep_703 : decode cL_isStep 703 = .ok (.iload_n 3, 1) := by decide +kernel
theorem dL_isStep_704 : decode cL_isStep 704 = .ok (.iconst 2, 1) := by decide +kernel
theorem dL_isStep_705 : decode cL_isStep 705 = .ok (.invokestatic 19, 3) := by decide +kernel
theorem dL_isStep_708 : decode cL_isStep 708 = .ok (.istore 7, 2) := by decide +kernel
theorem dL_isStep_710 : decode cL_isStep 710 = .ok (.aload_n 0, 1) := by decide +kernel
theorem dL_isStep_711 : decode cL_isStep 711 = .ok (.iload 7, 2) := by decide +kernel
theorem dL_isStep_713 : decode cL_isStep 713 = .ok (.invokevirtual 63, 3) := by decide +kernel
theorem dL_isStep_716 : decode cL_isStep 716 = .ok (.aload_n 1, 1) := by decide +kernel
theorem dL_isStep_717 : decode cL_isStep 717 = .ok (.iload 7, 2) := by decide +kernel
theorem dL_isStep_719 : decode cL_isStep 719 = .ok (.invokevirtual 63, 3) := by decide +kernel
theorem dL_isStep_722 : decode cL_isStep 722 = .ok (.if_icmp .ne 7, 3) := by decide +kernel
theorem dL_isStep_725 : decode cL_isStep 725 = .ok (.iconst 1, 1) := by decide +kernel
theorem dL_isStep_726 : decode cL_isStep 726 = .ok (.goto 4, 3) := by decide +kernel
theorem dL_isStep_730 : decode cL_isStep 730 = .ok (.ireturn, 1) := by decide +kernel
theorem dL_isStep_731 : decode cL_isStep 731 = .ok (.aload_n 0, 1) := by decide +kernel
theorem dL_isStep_732 : decode cL_isStep 732 = .ok (.aload_n 1, 1) := by decide +kernel
theorem dL_isStep_733 : decode cL_isStep 733 = .ok (.iload 5, 2) := by decide +kernel
theorem dL_isStep_735 : decode cL_isStep 735 = .ok (.iload 4, 2) := by decide +kernel
theorem dL_isStep_737 : decode cL_isStep 737 = .ok (.iconst 5, 1) := by decide +kernel
theorem dL_isStep_738 : decode cL_isStep 738 = .ok (.ishr, 1) := by decide +kernel
theorem dL_isStep_739 : decode cL_isStep 739 = .ok (.iload_n 3, 1) := by decide +kernel
theorem dL_isStep_740 : decode cL_isStep 740 = .ok (.invokestatic 66, 3) := by decide +kernel
theorem dL_isStep_743 : decode cL_isStep 743 = .ok (.ireturn, 1) := by decide +kernel
theorem ck_L_28 : CkV RL 28 RX6 yX6_put cX6_put 4 (some .int) 2 := ⟨wm_L_28, wim_yX6_put, wse_yX6_put, wi_X6, wc_yX6_put, by decide +kernel⟩
theorem ck_L_37 : CkV RL 37 RX6 yX6_clearText cX6_clearText 2 (some .int) 0 := ⟨wm_L_37, wim_yX6_clearText, wse_yX6_clearText, wi_X6, wc_yX6_clearText, by decide +kernel⟩
theorem ck_L_41 : CkS RL 41 yL_number cL_number 2 (some .boolean) 2 := ⟨wm_L_41, wst_yL_number, wi_L, wc_yL_number, by decide +kernel⟩
theorem ck_L_45 : CkV RL 45 RX6 yX6_putAll cX6_putAll 5 (some .int) 0 := ⟨wm_L_45, wim_yX6_putAll, wse_yX6_putAll, wi_X6, wc_yX6_putAll, by decide +kernel⟩
theorem ck_L_48 : CkV RL 48 RX6 yX6_move cX6_move 4 (some .int) 2 := ⟨wm_L_48, wim_yX6_move, wse_yX6_move, wi_X6, wc_yX6_move, by decide +kernel⟩
theorem ck_L_51 : CkV RL 51 RX6 yX6_takeOff cX6_takeOff 3 (some .int) 1 := ⟨wm_L_51, wim_yX6_takeOff, wse_yX6_takeOff, wi_X6, wc_yX6_takeOff, by decide +kernel⟩
theorem ck_L_54 : CkV RL 54 RX6 yX6_setPots cX6_setPots 3 (some .int) 1 := ⟨wm_L_54, wim_yX6_setPots, wse_yX6_setPots, wi_X6, wc_yX6_setPots, by decide +kernel⟩
theorem ck_L_60 : CkV RL 60 RX6 yX6_set cX6_set 4 (some .int) 2 := ⟨wm_L_60, wim_yX6_set, wse_yX6_set, wi_X6, wc_yX6_set, by decide +kernel⟩
theorem ck_L_63 : CkV RL 63 RX6 yX6_pass cX6_pass 3 (some .int) 1 := ⟨wm_L_63, wim_yX6_pass, wse_yX6_pass, wi_X6, wc_yX6_pass, by decide +kernel⟩
theorem ck_L_66 : CkS RL 66 yL_isShot cL_isShot 17 (some .boolean) 5 := ⟨wm_L_66, wst_yL_isShot, wi_L, wc_yL_isShot, by decide +kernel⟩
set_option maxHeartbeats 4000000 in
set_option maxRecDepth 100000 in
theorem kL_isStep (l : Launch) (E : Ev) (A B : Ad) (S T : So) (vx vy : Int32) (M : Nat) (f : N1) (hI : BI M f S T) (hM : M ≤ 100) : KQ l yL_isStep cL_isStep 12 (some .boolean) 8 204 E [.ref (adH A), .ref (adH B), .int vx, .int vy] (wOb E A S ++ wOb E B T) (QE E (wOb E A S ++ wOb E B T) (NS E A B (M + 1))) := by
  refine KQ.mk RL rfl (by decide +kernel) (Nat.le_of_ble_eq_true rfl) ?_
  intro p e s m below meth c ls X hr w hl
  have hx := X.1
  have hb := X.2.1
  have hl : lv_has ls 12 [(0, .ref (adH A)), (1, .ref (adH B)), (2, .int vx), (3, .int vy)] := hl
  refine lv_iload_n hx hb dL_isStep_0 rfl (lv_at hl 2 rfl) ?_
  refine lv_iconst (v := 4) hx hb dL_isStep_1 (by decide) ?_
  refine lv_ishr hx hb dL_isStep_2 ?_
  refine lv_istore (lv' := [(4, .int (vx >>> (4 &&& 31))), (0, .ref (adH A)), (1, .ref (adH B)), (2, .int vx), (3, .int vy)]) hx hb dL_isStep_3 hl (by decide) rfl (fun ls hl => ?_)
  obtain ⟨vz, ez⟩ : ∃ q, vx >>> (4 &&& 31) = q := ⟨_, rfl⟩
  rw [ez] at hl
  refine lv_iload hx hb dL_isStep_5 (lv_at hl 0 rfl) ?_
  refine lv_aload_n hx hb dL_isStep_7 rfl (lv_at hl 1 rfl) ?_
  refine lv_iconst (v := 1) hx hb dL_isStep_8 (by decide) ?_
  refine r_ci w (r_runV (As := [.int 1]) (rest := [.int vz]) X w (q_count l E A S 1 ) ck_L_15 ⟨Nat.le_of_ble_eq_true rfl, Nat.le_of_ble_eq_true rfl⟩ isA (hcR_2 (E := E)) nd_A (k0 := 0) CL6 rfl hl.1 (Nat.le_of_ble_eq_true rfl) rfl dL_isStep_9 ⟨Nat.le_of_ble_eq_true rfl, Nat.le_of_ble_eq_true rfl⟩) (wOb E A S ++ wOb E B T) isA (hcR_2 (E := E)) nd_A (haR_2 (E := E)) (hwR_2 (E := E)) (fun H locs w => ?_)
  refine lv_iconst (v := 1) hx hb dL_isStep_12 (by decide) ?_
  refine lv_iadd hx hb dL_isStep_13 ?_
  refine r_ci w (r_runS (As := [.int vz, .int ((an_count S 1) + 1)]) (rest := []) X w (kL_up l E vz ((an_count S 1) + 1) (ev1_ne hI.1 hI.2.1.1)) ck_L_19 ⟨Nat.le_of_ble_eq_true rfl, Nat.le_of_ble_eq_true rfl⟩ [] rfl (by decide +kernel) hl.1 (Nat.le_of_ble_eq_true rfl) rfl dL_isStep_14 ⟨Nat.le_of_ble_eq_true rfl, Nat.le_of_ble_eq_true rfl⟩) (wOb E A S ++ wOb E B T) [] rfl (by decide +kernel) rfl rfl (fun H locs w => ?_)
  refine lv_istore (lv' := [(5, .int (fL_up vz ((an_count S 1) + 1))), (4, .int vz), (0, .ref (adH A)), (1, .ref (adH B)), (2, .int vx), (3, .int vy)]) hx hb dL_isStep_17 hl (by decide) rfl (fun ls hl => ?_)
  obtain ⟨bl, eb⟩ : ∃ q, fL_up vz (an_count S 1 + 1) = q := ⟨_, rfl⟩
  rw [eb] at hl
  refine lv_aload_n hx hb dL_isStep_19 rfl (lv_at hl 2 rfl) ?_
  refine lv_iload hx hb dL_isStep_20 (lv_at hl 0 rfl) ?_
  refine lv_iconst (v := 0) hx hb dL_isStep_22 (by decide) ?_
  refine r_ci w (r_runV (As := [.int bl, .int 0]) (rest := []) X w (q_ball l E A S bl 0 ) ck_L_25 ⟨Nat.le_of_ble_eq_true rfl, Nat.le_of_ble_eq_true rfl⟩ isA (hcR_2 (E := E)) nd_A (k0 := 0) CL6 rfl hl.1 (Nat.le_of_ble_eq_true rfl) rfl dL_isStep_23 ⟨Nat.le_of_ble_eq_true rfl, Nat.le_of_ble_eq_true rfl⟩) (wOb E A S ++ wOb E B T) isA (hcR_2 (E := E)) nd_A (haR_2 (E := E)) (hwR_2 (E := E)) (fun H locs w => ?_)
  refine lv_istore (lv' := [(6, .int (an_ball S bl 0)), (5, .int bl), (4, .int vz), (0, .ref (adH A)), (1, .ref (adH B)), (2, .int vx), (3, .int vy)]) hx hb dL_isStep_26 hl (by decide) rfl (fun ls hl => ?_)
  refine lv_iload_n hx hb dL_isStep_28 rfl (lv_at hl 5 rfl) ?_
  refine lv_bipush (v := 13) hx hb dL_isStep_29 (by decide) ?_
  refine r_ci w (r_runS (As := [.int vx, .int 13]) (rest := []) X w (kL_up l E vx 13 (by decide)) ck_L_19 ⟨Nat.le_of_ble_eq_true rfl, Nat.le_of_ble_eq_true rfl⟩ [] rfl (by decide +kernel) hl.1 (Nat.le_of_ble_eq_true rfl) rfl dL_isStep_31 ⟨Nat.le_of_ble_eq_true rfl, Nat.le_of_ble_eq_true rfl⟩) (wOb E A S ++ wOb E B T) [] rfl (by decide +kernel) rfl rfl (fun H locs w => ?_)
  by_cases c34_1 : (fL_up vx 13) = 0
  · refine lv_tableIn (off := 50) (tgt := 84) hx hb dL_isStep_34 (by rw [c34_1]; decide) (by rw [c34_1]; decide) (by rw [c34_1]; rfl) (by decide) ?_
    refine lv_iload_n hx hb dL_isStep_84 rfl (lv_at hl 6 rfl) ?_
    refine lv_bipush (v := 61) hx hb dL_isStep_85 (by decide) ?_
    refine r_ci w (r_runS (As := [.int vy, .int 61]) (rest := []) X w (kL_up l E vy 61 (by decide)) ck_L_19 ⟨Nat.le_of_ble_eq_true rfl, Nat.le_of_ble_eq_true rfl⟩ [] rfl (by decide +kernel) hl.1 (Nat.le_of_ble_eq_true rfl) rfl dL_isStep_87 ⟨Nat.le_of_ble_eq_true rfl, Nat.le_of_ble_eq_true rfl⟩) (wOb E A S ++ wOb E B T) [] rfl (by decide +kernel) rfl rfl (fun H locs w => ?_)
    refine lv_istore (lv' := [(7, .int (fL_up vy 61)), (6, .int (an_ball S bl 0)), (5, .int bl), (4, .int vz), (0, .ref (adH A)), (1, .ref (adH B)), (2, .int vx), (3, .int vy)]) hx hb dL_isStep_90 hl (by decide) rfl (fun ls hl => ?_)
    refine lv_iconst (v := 1) hx hb dL_isStep_92 (by decide) ?_
    refine lv_iload hx hb dL_isStep_93 (lv_at hl 3 rfl) ?_
    refine lv_bipush (v := 20) hx hb dL_isStep_95 (by decide) ?_
    refine r_ci w (r_runS (As := [.int vz, .int 20]) (rest := [.int 1]) X w (kL_up l E vz 20 (by decide)) ck_L_19 ⟨Nat.le_of_ble_eq_true rfl, Nat.le_of_ble_eq_true rfl⟩ [] rfl (by decide +kernel) hl.1 (Nat.le_of_ble_eq_true rfl) rfl dL_isStep_97 ⟨Nat.le_of_ble_eq_true rfl, Nat.le_of_ble_eq_true rfl⟩) (wOb E A S ++ wOb E B T) [] rfl (by decide +kernel) rfl rfl (fun H locs w => ?_)
    refine lv_iadd hx hb dL_isStep_100 ?_
    refine lv_istore (lv' := [(8, .int (1 + (fL_up vz 20))), (7, .int (fL_up vy 61)), (6, .int (an_ball S bl 0)), (5, .int bl), (4, .int vz), (0, .ref (adH A)), (1, .ref (adH B)), (2, .int vx), (3, .int vy)]) hx hb dL_isStep_101 hl (by decide) rfl (fun ls hl => ?_)
    obtain ⟨cl, hcl, ec⟩ : ∃ q, vp_in q 61 ∧ fL_up vy 61 = q := ⟨_, up_in rfl (by decide), rfl⟩
    obtain ⟨vl, hvl, evl⟩ : ∃ q : Int32, (1 ≤ q.toInt ∧ q.toInt ≤ 20) ∧ 1 + fL_up vz 20 = q := ⟨_, by have h9 := add_in (u := fL_up vz 20) (a := 1) (k := 1) rfl (up_in (N := 20) rfl (by decide)) (by decide); omega, rfl⟩
    rw [ec, evl] at hl
    obtain ⟨g, hg, e1, e2, e3⟩ := s_put hI hcl hvl
    refine lv_aload_n hx hb dL_isStep_103 rfl (lv_at hl 5 rfl) ?_
    refine lv_iload hx hb dL_isStep_104 (lv_at hl 1 rfl) ?_
    refine lv_iload hx hb dL_isStep_106 (lv_at hl 0 rfl) ?_
    refine r_ci w (r_runV (As := [.int cl, .int vl]) (rest := []) X w (q_put l E A S cl vl ) ck_L_28 ⟨Nat.le_of_ble_eq_true rfl, Nat.le_of_ble_eq_true rfl⟩ isA (hcR_2 (E := E)) nd_A (k0 := 0) CL6 rfl hl.1 (Nat.le_of_ble_eq_true rfl) rfl dL_isStep_108 ⟨Nat.le_of_ble_eq_true rfl, Nat.le_of_ble_eq_true rfl⟩) (wOb E A (ob_put S cl vl) ++ wOb E B T) isA (hcR_2 (E := E)) nd_A (haR_2 (E := E)) (hwR_2 (E := E)) (fun H locs w => ?_)
    refine lv_istore (lv' := [(9, .int (an_put S cl vl)), (8, .int vl), (7, .int cl), (6, .int (an_ball S bl 0)), (5, .int bl), (4, .int vz), (0, .ref (adH A)), (1, .ref (adH B)), (2, .int vx), (3, .int vy)]) hx hb dL_isStep_111 hl (by decide) rfl (fun ls hl => ?_)
    refine lv_iload hx hb dL_isStep_113 (lv_at hl 0 rfl) ?_
    refine lv_aload_n hx hb dL_isStep_115 rfl (lv_at hl 7 rfl) ?_
    refine lv_iload hx hb dL_isStep_116 (lv_at hl 2 rfl) ?_
    refine r_ci w (r_runS (As := [.int cl]) (rest := [.ref (adH B), .int (an_put S cl vl)]) X w (kL_there l E cl ) ck_L_31 ⟨Nat.le_of_ble_eq_true rfl, Nat.le_of_ble_eq_true rfl⟩ [] rfl (by decide +kernel) hl.1 (Nat.le_of_ble_eq_true rfl) rfl dL_isStep_118 ⟨Nat.le_of_ble_eq_true rfl, Nat.le_of_ble_eq_true rfl⟩) (wOb E A (ob_put S cl vl) ++ wOb E B T) [] rfl (by decide +kernel) rfl rfl (fun H locs w => ?_)
    refine lv_iload hx hb dL_isStep_121 (lv_at hl 1 rfl) ?_
    refine r_ci w (r_runV (As := [.int (fL_there cl), .int vl]) (rest := [.int (an_put S cl vl)]) X w (q_put l E B T (fL_there cl) vl ) ck_L_28 ⟨Nat.le_of_ble_eq_true rfl, Nat.le_of_ble_eq_true rfl⟩ isB (hcR_3 (E := E)) nd_B (k0 := 0) CL6 rfl hl.1 (Nat.le_of_ble_eq_true rfl) rfl dL_isStep_123 ⟨Nat.le_of_ble_eq_true rfl, Nat.le_of_ble_eq_true rfl⟩) (wOb E A (ob_put S cl vl) ++ wOb E B (ob_put T (fL_there cl) vl)) isB (hcR_3 (E := E)) nd_B (haR_3 (E := E)) (hwR_3 (E := E)) (fun H locs w => ?_)
    refine lv_icmp_ne (tgt := 195) hx hb dL_isStep_126 (by decide) (fun h => absurd e1.symm h) (fun _ => ?_)
    refine lv_iload hx hb dL_isStep_129 (lv_at hl 0 rfl) ?_
    refine lv_if_ge (tgt := 157) hx hb dL_isStep_131 (by decide) (fun c131_3 => ?_) (fun c131_3 => ?_)
    · refine lv_aload_n hx hb dL_isStep_157 rfl (lv_at hl 6 rfl) ?_
      refine lv_iload hx hb dL_isStep_158 (lv_at hl 2 rfl) ?_
      refine lv_iconst (v := 2) hx hb dL_isStep_160 (by decide) ?_
      refine r_ci w (r_runV (As := [.int cl, .int 2]) (rest := []) X w (q_ofCell l E A (ob_put S cl vl) cl 2 ) ck_L_34 ⟨Nat.le_of_ble_eq_true rfl, Nat.le_of_ble_eq_true rfl⟩ isA (hcR_2 (E := E)) nd_A (k0 := 0) CL6 rfl hl.1 (Nat.le_of_ble_eq_true rfl) rfl dL_isStep_161 ⟨Nat.le_of_ble_eq_true rfl, Nat.le_of_ble_eq_true rfl⟩) (wOb E A (ob_put S cl vl) ++ wOb E B (ob_put T (fL_there cl) vl)) isA (hcR_2 (E := E)) nd_A (haR_2 (E := E)) (hwR_2 (E := E)) (fun H locs w => ?_)
      refine lv_iload hx hb dL_isStep_164 (lv_at hl 0 rfl) ?_
      refine lv_icmp_ne (tgt := 195) hx hb dL_isStep_166 (by decide) (fun h => absurd (e3 (nlt_ge c131_3)).1 h) (fun _ => ?_)
      refine lv_aload_n hx hb dL_isStep_169 rfl (lv_at hl 6 rfl) ?_
      refine lv_iload hx hb dL_isStep_170 (lv_at hl 0 rfl) ?_
      refine lv_iconst (v := 1) hx hb dL_isStep_172 (by decide) ?_
      refine r_ci w (r_runV (As := [.int (an_put S cl vl), .int 1]) (rest := []) X w (q_ball l E A (ob_put S cl vl) (an_put S cl vl) 1 ) ck_L_25 ⟨Nat.le_of_ble_eq_true rfl, Nat.le_of_ble_eq_true rfl⟩ isA (hcR_2 (E := E)) nd_A (k0 := 0) CL6 rfl hl.1 (Nat.le_of_ble_eq_true rfl) rfl dL_isStep_173 ⟨Nat.le_of_ble_eq_true rfl, Nat.le_of_ble_eq_true rfl⟩) (wOb E A (ob_put S cl vl) ++ wOb E B (ob_put T (fL_there cl) vl)) isA (hcR_2 (E := E)) nd_A (haR_2 (E := E)) (hwR_2 (E := E)) (fun H locs w => ?_)
      refine lv_iload hx hb dL_isStep_176 (lv_at hl 1 rfl) ?_
      refine lv_icmp_ne (tgt := 195) hx hb dL_isStep_178 (by decide) (fun h => absurd (e3 (nlt_ge c131_3)).2.1 h) (fun _ => ?_)
      refine lv_aload_n hx hb dL_isStep_181 rfl (lv_at hl 6 rfl) ?_
      refine lv_iload hx hb dL_isStep_182 (lv_at hl 0 rfl) ?_
      refine lv_iconst (v := 2) hx hb dL_isStep_184 (by decide) ?_
      refine r_ci w (r_runV (As := [.int (an_put S cl vl), .int 2]) (rest := []) X w (q_ball l E A (ob_put S cl vl) (an_put S cl vl) 2 ) ck_L_25 ⟨Nat.le_of_ble_eq_true rfl, Nat.le_of_ble_eq_true rfl⟩ isA (hcR_2 (E := E)) nd_A (k0 := 0) CL6 rfl hl.1 (Nat.le_of_ble_eq_true rfl) rfl dL_isStep_185 ⟨Nat.le_of_ble_eq_true rfl, Nat.le_of_ble_eq_true rfl⟩) (wOb E A (ob_put S cl vl) ++ wOb E B (ob_put T (fL_there cl) vl)) isA (hcR_2 (E := E)) nd_A (haR_2 (E := E)) (hwR_2 (E := E)) (fun H locs w => ?_)
      refine lv_if_ne (tgt := 195) hx hb dL_isStep_188 (by decide) (fun h => absurd (e3 (nlt_ge c131_3)).2.2 h) (fun _ => ?_)
      refine lv_iconst (v := 1) hx hb dL_isStep_191 (by decide) ?_
      refine lv_goto (tgt := 196) hx hb dL_isStep_192 (by decide) ?_
      exact r_eret X w hr (Or.inr rfl) ⟨rfl, _, _, _, ⟨gG_up hg.1, hg.2⟩, rfl⟩ (haR_4 (E := E)) dL_isStep_196
    · refine lv_aload_n hx hb dL_isStep_134 rfl (lv_at hl 6 rfl) ?_
      refine lv_iload hx hb dL_isStep_135 (lv_at hl 2 rfl) ?_
      refine lv_iconst (v := 2) hx hb dL_isStep_137 (by decide) ?_
      refine r_ci w (r_runV (As := [.int cl, .int 2]) (rest := []) X w (q_ofCell l E A (ob_put S cl vl) cl 2 ) ck_L_34 ⟨Nat.le_of_ble_eq_true rfl, Nat.le_of_ble_eq_true rfl⟩ isA (hcR_2 (E := E)) nd_A (k0 := 0) CL6 rfl hl.1 (Nat.le_of_ble_eq_true rfl) rfl dL_isStep_138 ⟨Nat.le_of_ble_eq_true rfl, Nat.le_of_ble_eq_true rfl⟩) (wOb E A (ob_put S cl vl) ++ wOb E B (ob_put T (fL_there cl) vl)) isA (hcR_2 (E := E)) nd_A (haR_2 (E := E)) (hwR_2 (E := E)) (fun H locs w => ?_)
      refine lv_if_ge (tgt := 191) hx hb dL_isStep_141 (by decide) (fun c141_7 => ?_) (fun c141_7 => ?_)
      · refine lv_iconst (v := 1) hx hb dL_isStep_191 (by decide) ?_
        refine lv_goto (tgt := 196) hx hb dL_isStep_192 (by decide) ?_
        exact r_eret X w hr (Or.inr rfl) ⟨rfl, _, _, _, ⟨gG_up hg.1, hg.2⟩, rfl⟩ (haR_4 (E := E)) dL_isStep_196
      · refine lv_aload_n hx hb dL_isStep_144 rfl (lv_at hl 6 rfl) ?_
        refine lv_iconst (v := 1) hx hb dL_isStep_145 (by decide) ?_
        refine r_ci w (r_runV (As := [.int 1]) (rest := []) X w (q_count l E A (ob_put S cl vl) 1 ) ck_L_15 ⟨Nat.le_of_ble_eq_true rfl, Nat.le_of_ble_eq_true rfl⟩ isA (hcR_2 (E := E)) nd_A (k0 := 0) CL6 rfl hl.1 (Nat.le_of_ble_eq_true rfl) rfl dL_isStep_146 ⟨Nat.le_of_ble_eq_true rfl, Nat.le_of_ble_eq_true rfl⟩) (wOb E A (ob_put S cl vl) ++ wOb E B (ob_put T (fL_there cl) vl)) isA (hcR_2 (E := E)) nd_A (haR_2 (E := E)) (hwR_2 (E := E)) (fun H locs w => ?_)
        refine lv_bipush (v := 12) hx hb dL_isStep_149 (by decide) ?_
        refine lv_icmp_ne (tgt := 195) hx hb dL_isStep_151 (by decide) (fun h => absurd (e2 (lt_nge c131_3) (lt_nge c141_7)) h) (fun _ => ?_)
        refine lv_goto (tgt := 191) hx hb dL_isStep_154 (by decide) ?_
        refine lv_iconst (v := 1) hx hb dL_isStep_191 (by decide) ?_
        refine lv_goto (tgt := 196) hx hb dL_isStep_192 (by decide) ?_
        exact r_eret X w hr (Or.inr rfl) ⟨rfl, _, _, _, ⟨gG_up hg.1, hg.2⟩, rfl⟩ (haR_4 (E := E)) dL_isStep_196
  · by_cases c34_9 : (fL_up vx 13) = 1
    · refine lv_tableIn (off := 50) (tgt := 84) hx hb dL_isStep_34 (by rw [c34_9]; decide) (by rw [c34_9]; decide) (by rw [c34_9]; rfl) (by decide) ?_
      refine lv_iload_n hx hb dL_isStep_84 rfl (lv_at hl 6 rfl) ?_
      refine lv_bipush (v := 61) hx hb dL_isStep_85 (by decide) ?_
      refine r_ci w (r_runS (As := [.int vy, .int 61]) (rest := []) X w (kL_up l E vy 61 (by decide)) ck_L_19 ⟨Nat.le_of_ble_eq_true rfl, Nat.le_of_ble_eq_true rfl⟩ [] rfl (by decide +kernel) hl.1 (Nat.le_of_ble_eq_true rfl) rfl dL_isStep_87 ⟨Nat.le_of_ble_eq_true rfl, Nat.le_of_ble_eq_true rfl⟩) (wOb E A S ++ wOb E B T) [] rfl (by decide +kernel) rfl rfl (fun H locs w => ?_)
      refine lv_istore (lv' := [(7, .int (fL_up vy 61)), (6, .int (an_ball S bl 0)), (5, .int bl), (4, .int vz), (0, .ref (adH A)), (1, .ref (adH B)), (2, .int vx), (3, .int vy)]) hx hb dL_isStep_90 hl (by decide) rfl (fun ls hl => ?_)
      refine lv_iconst (v := 1) hx hb dL_isStep_92 (by decide) ?_
      refine lv_iload hx hb dL_isStep_93 (lv_at hl 3 rfl) ?_
      refine lv_bipush (v := 20) hx hb dL_isStep_95 (by decide) ?_
      refine r_ci w (r_runS (As := [.int vz, .int 20]) (rest := [.int 1]) X w (kL_up l E vz 20 (by decide)) ck_L_19 ⟨Nat.le_of_ble_eq_true rfl, Nat.le_of_ble_eq_true rfl⟩ [] rfl (by decide +kernel) hl.1 (Nat.le_of_ble_eq_true rfl) rfl dL_isStep_97 ⟨Nat.le_of_ble_eq_true rfl, Nat.le_of_ble_eq_true rfl⟩) (wOb E A S ++ wOb E B T) [] rfl (by decide +kernel) rfl rfl (fun H locs w => ?_)
      refine lv_iadd hx hb dL_isStep_100 ?_
      refine lv_istore (lv' := [(8, .int (1 + (fL_up vz 20))), (7, .int (fL_up vy 61)), (6, .int (an_ball S bl 0)), (5, .int bl), (4, .int vz), (0, .ref (adH A)), (1, .ref (adH B)), (2, .int vx), (3, .int vy)]) hx hb dL_isStep_101 hl (by decide) rfl (fun ls hl => ?_)
      obtain ⟨cl, hcl, ec⟩ : ∃ q, vp_in q 61 ∧ fL_up vy 61 = q := ⟨_, up_in rfl (by decide), rfl⟩
      obtain ⟨vl, hvl, evl⟩ : ∃ q : Int32, (1 ≤ q.toInt ∧ q.toInt ≤ 20) ∧ 1 + fL_up vz 20 = q := ⟨_, by have h9 := add_in (u := fL_up vz 20) (a := 1) (k := 1) rfl (up_in (N := 20) rfl (by decide)) (by decide); omega, rfl⟩
      rw [ec, evl] at hl
      obtain ⟨g, hg, e1, e2, e3⟩ := s_put hI hcl hvl
      refine lv_aload_n hx hb dL_isStep_103 rfl (lv_at hl 5 rfl) ?_
      refine lv_iload hx hb dL_isStep_104 (lv_at hl 1 rfl) ?_
      refine lv_iload hx hb dL_isStep_106 (lv_at hl 0 rfl) ?_
      refine r_ci w (r_runV (As := [.int cl, .int vl]) (rest := []) X w (q_put l E A S cl vl ) ck_L_28 ⟨Nat.le_of_ble_eq_true rfl, Nat.le_of_ble_eq_true rfl⟩ isA (hcR_2 (E := E)) nd_A (k0 := 0) CL6 rfl hl.1 (Nat.le_of_ble_eq_true rfl) rfl dL_isStep_108 ⟨Nat.le_of_ble_eq_true rfl, Nat.le_of_ble_eq_true rfl⟩) (wOb E A (ob_put S cl vl) ++ wOb E B T) isA (hcR_2 (E := E)) nd_A (haR_2 (E := E)) (hwR_2 (E := E)) (fun H locs w => ?_)
      refine lv_istore (lv' := [(9, .int (an_put S cl vl)), (8, .int vl), (7, .int cl), (6, .int (an_ball S bl 0)), (5, .int bl), (4, .int vz), (0, .ref (adH A)), (1, .ref (adH B)), (2, .int vx), (3, .int vy)]) hx hb dL_isStep_111 hl (by decide) rfl (fun ls hl => ?_)
      refine lv_iload hx hb dL_isStep_113 (lv_at hl 0 rfl) ?_
      refine lv_aload_n hx hb dL_isStep_115 rfl (lv_at hl 7 rfl) ?_
      refine lv_iload hx hb dL_isStep_116 (lv_at hl 2 rfl) ?_
      refine r_ci w (r_runS (As := [.int cl]) (rest := [.ref (adH B), .int (an_put S cl vl)]) X w (kL_there l E cl ) ck_L_31 ⟨Nat.le_of_ble_eq_true rfl, Nat.le_of_ble_eq_true rfl⟩ [] rfl (by decide +kernel) hl.1 (Nat.le_of_ble_eq_true rfl) rfl dL_isStep_118 ⟨Nat.le_of_ble_eq_true rfl, Nat.le_of_ble_eq_true rfl⟩) (wOb E A (ob_put S cl vl) ++ wOb E B T) [] rfl (by decide +kernel) rfl rfl (fun H locs w => ?_)
      refine lv_iload hx hb dL_isStep_121 (lv_at hl 1 rfl) ?_
      refine r_ci w (r_runV (As := [.int (fL_there cl), .int vl]) (rest := [.int (an_put S cl vl)]) X w (q_put l E B T (fL_there cl) vl ) ck_L_28 ⟨Nat.le_of_ble_eq_true rfl, Nat.le_of_ble_eq_true rfl⟩ isB (hcR_3 (E := E)) nd_B (k0 := 0) CL6 rfl hl.1 (Nat.le_of_ble_eq_true rfl) rfl dL_isStep_123 ⟨Nat.le_of_ble_eq_true rfl, Nat.le_of_ble_eq_true rfl⟩) (wOb E A (ob_put S cl vl) ++ wOb E B (ob_put T (fL_there cl) vl)) isB (hcR_3 (E := E)) nd_B (haR_3 (E := E)) (hwR_3 (E := E)) (fun H locs w => ?_)
      refine lv_icmp_ne (tgt := 195) hx hb dL_isStep_126 (by decide) (fun h => absurd e1.symm h) (fun _ => ?_)
      refine lv_iload hx hb dL_isStep_129 (lv_at hl 0 rfl) ?_
      refine lv_if_ge (tgt := 157) hx hb dL_isStep_131 (by decide) (fun c131_11 => ?_) (fun c131_11 => ?_)
      · refine lv_aload_n hx hb dL_isStep_157 rfl (lv_at hl 6 rfl) ?_
        refine lv_iload hx hb dL_isStep_158 (lv_at hl 2 rfl) ?_
        refine lv_iconst (v := 2) hx hb dL_isStep_160 (by decide) ?_
        refine r_ci w (r_runV (As := [.int cl, .int 2]) (rest := []) X w (q_ofCell l E A (ob_put S cl vl) cl 2 ) ck_L_34 ⟨Nat.le_of_ble_eq_true rfl, Nat.le_of_ble_eq_true rfl⟩ isA (hcR_2 (E := E)) nd_A (k0 := 0) CL6 rfl hl.1 (Nat.le_of_ble_eq_true rfl) rfl dL_isStep_161 ⟨Nat.le_of_ble_eq_true rfl, Nat.le_of_ble_eq_true rfl⟩) (wOb E A (ob_put S cl vl) ++ wOb E B (ob_put T (fL_there cl) vl)) isA (hcR_2 (E := E)) nd_A (haR_2 (E := E)) (hwR_2 (E := E)) (fun H locs w => ?_)
        refine lv_iload hx hb dL_isStep_164 (lv_at hl 0 rfl) ?_
        refine lv_icmp_ne (tgt := 195) hx hb dL_isStep_166 (by decide) (fun h => absurd (e3 (nlt_ge c131_11)).1 h) (fun _ => ?_)
        refine lv_aload_n hx hb dL_isStep_169 rfl (lv_at hl 6 rfl) ?_
        refine lv_iload hx hb dL_isStep_170 (lv_at hl 0 rfl) ?_
        refine lv_iconst (v := 1) hx hb dL_isStep_172 (by decide) ?_
        refine r_ci w (r_runV (As := [.int (an_put S cl vl), .int 1]) (rest := []) X w (q_ball l E A (ob_put S cl vl) (an_put S cl vl) 1 ) ck_L_25 ⟨Nat.le_of_ble_eq_true rfl, Nat.le_of_ble_eq_true rfl⟩ isA (hcR_2 (E := E)) nd_A (k0 := 0) CL6 rfl hl.1 (Nat.le_of_ble_eq_true rfl) rfl dL_isStep_173 ⟨Nat.le_of_ble_eq_true rfl, Nat.le_of_ble_eq_true rfl⟩) (wOb E A (ob_put S cl vl) ++ wOb E B (ob_put T (fL_there cl) vl)) isA (hcR_2 (E := E)) nd_A (haR_2 (E := E)) (hwR_2 (E := E)) (fun H locs w => ?_)
        refine lv_iload hx hb dL_isStep_176 (lv_at hl 1 rfl) ?_
        refine lv_icmp_ne (tgt := 195) hx hb dL_isStep_178 (by decide) (fun h => absurd (e3 (nlt_ge c131_11)).2.1 h) (fun _ => ?_)
        refine lv_aload_n hx hb dL_isStep_181 rfl (lv_at hl 6 rfl) ?_
        refine lv_iload hx hb dL_isStep_182 (lv_at hl 0 rfl) ?_
        refine lv_iconst (v := 2) hx hb dL_isStep_184 (by decide) ?_
        refine r_ci w (r_runV (As := [.int (an_put S cl vl), .int 2]) (rest := []) X w (q_ball l E A (ob_put S cl vl) (an_put S cl vl) 2 ) ck_L_25 ⟨Nat.le_of_ble_eq_true rfl, Nat.le_of_ble_eq_true rfl⟩ isA (hcR_2 (E := E)) nd_A (k0 := 0) CL6 rfl hl.1 (Nat.le_of_ble_eq_true rfl) rfl dL_isStep_185 ⟨Nat.le_of_ble_eq_true rfl, Nat.le_of_ble_eq_true rfl⟩) (wOb E A (ob_put S cl vl) ++ wOb E B (ob_put T (fL_there cl) vl)) isA (hcR_2 (E := E)) nd_A (haR_2 (E := E)) (hwR_2 (E := E)) (fun H locs w => ?_)
        refine lv_if_ne (tgt := 195) hx hb dL_isStep_188 (by decide) (fun h => absurd (e3 (nlt_ge c131_11)).2.2 h) (fun _ => ?_)
        refine lv_iconst (v := 1) hx hb dL_isStep_191 (by decide) ?_
        refine lv_goto (tgt := 196) hx hb dL_isStep_192 (by decide) ?_
        exact r_eret X w hr (Or.inr rfl) ⟨rfl, _, _, _, ⟨gG_up hg.1, hg.2⟩, rfl⟩ (haR_4 (E := E)) dL_isStep_196
      · refine lv_aload_n hx hb dL_isStep_134 rfl (lv_at hl 6 rfl) ?_
        refine lv_iload hx hb dL_isStep_135 (lv_at hl 2 rfl) ?_
        refine lv_iconst (v := 2) hx hb dL_isStep_137 (by decide) ?_
        refine r_ci w (r_runV (As := [.int cl, .int 2]) (rest := []) X w (q_ofCell l E A (ob_put S cl vl) cl 2 ) ck_L_34 ⟨Nat.le_of_ble_eq_true rfl, Nat.le_of_ble_eq_true rfl⟩ isA (hcR_2 (E := E)) nd_A (k0 := 0) CL6 rfl hl.1 (Nat.le_of_ble_eq_true rfl) rfl dL_isStep_138 ⟨Nat.le_of_ble_eq_true rfl, Nat.le_of_ble_eq_true rfl⟩) (wOb E A (ob_put S cl vl) ++ wOb E B (ob_put T (fL_there cl) vl)) isA (hcR_2 (E := E)) nd_A (haR_2 (E := E)) (hwR_2 (E := E)) (fun H locs w => ?_)
        refine lv_if_ge (tgt := 191) hx hb dL_isStep_141 (by decide) (fun c141_15 => ?_) (fun c141_15 => ?_)
        · refine lv_iconst (v := 1) hx hb dL_isStep_191 (by decide) ?_
          refine lv_goto (tgt := 196) hx hb dL_isStep_192 (by decide) ?_
          exact r_eret X w hr (Or.inr rfl) ⟨rfl, _, _, _, ⟨gG_up hg.1, hg.2⟩, rfl⟩ (haR_4 (E := E)) dL_isStep_196
        · refine lv_aload_n hx hb dL_isStep_144 rfl (lv_at hl 6 rfl) ?_
          refine lv_iconst (v := 1) hx hb dL_isStep_145 (by decide) ?_
          refine r_ci w (r_runV (As := [.int 1]) (rest := []) X w (q_count l E A (ob_put S cl vl) 1 ) ck_L_15 ⟨Nat.le_of_ble_eq_true rfl, Nat.le_of_ble_eq_true rfl⟩ isA (hcR_2 (E := E)) nd_A (k0 := 0) CL6 rfl hl.1 (Nat.le_of_ble_eq_true rfl) rfl dL_isStep_146 ⟨Nat.le_of_ble_eq_true rfl, Nat.le_of_ble_eq_true rfl⟩) (wOb E A (ob_put S cl vl) ++ wOb E B (ob_put T (fL_there cl) vl)) isA (hcR_2 (E := E)) nd_A (haR_2 (E := E)) (hwR_2 (E := E)) (fun H locs w => ?_)
          refine lv_bipush (v := 12) hx hb dL_isStep_149 (by decide) ?_
          refine lv_icmp_ne (tgt := 195) hx hb dL_isStep_151 (by decide) (fun h => absurd (e2 (lt_nge c131_11) (lt_nge c141_15)) h) (fun _ => ?_)
          refine lv_goto (tgt := 191) hx hb dL_isStep_154 (by decide) ?_
          refine lv_iconst (v := 1) hx hb dL_isStep_191 (by decide) ?_
          refine lv_goto (tgt := 196) hx hb dL_isStep_192 (by decide) ?_
          exact r_eret X w hr (Or.inr rfl) ⟨rfl, _, _, _, ⟨gG_up hg.1, hg.2⟩, rfl⟩ (haR_4 (E := E)) dL_isStep_196
    · by_cases c34_17 : (fL_up vx 13) = 2
      · refine lv_tableIn (off := 50) (tgt := 84) hx hb dL_isStep_34 (by rw [c34_17]; decide) (by rw [c34_17]; decide) (by rw [c34_17]; rfl) (by decide) ?_
        refine lv_iload_n hx hb dL_isStep_84 rfl (lv_at hl 6 rfl) ?_
        refine lv_bipush (v := 61) hx hb dL_isStep_85 (by decide) ?_
        refine r_ci w (r_runS (As := [.int vy, .int 61]) (rest := []) X w (kL_up l E vy 61 (by decide)) ck_L_19 ⟨Nat.le_of_ble_eq_true rfl, Nat.le_of_ble_eq_true rfl⟩ [] rfl (by decide +kernel) hl.1 (Nat.le_of_ble_eq_true rfl) rfl dL_isStep_87 ⟨Nat.le_of_ble_eq_true rfl, Nat.le_of_ble_eq_true rfl⟩) (wOb E A S ++ wOb E B T) [] rfl (by decide +kernel) rfl rfl (fun H locs w => ?_)
        refine lv_istore (lv' := [(7, .int (fL_up vy 61)), (6, .int (an_ball S bl 0)), (5, .int bl), (4, .int vz), (0, .ref (adH A)), (1, .ref (adH B)), (2, .int vx), (3, .int vy)]) hx hb dL_isStep_90 hl (by decide) rfl (fun ls hl => ?_)
        refine lv_iconst (v := 1) hx hb dL_isStep_92 (by decide) ?_
        refine lv_iload hx hb dL_isStep_93 (lv_at hl 3 rfl) ?_
        refine lv_bipush (v := 20) hx hb dL_isStep_95 (by decide) ?_
        refine r_ci w (r_runS (As := [.int vz, .int 20]) (rest := [.int 1]) X w (kL_up l E vz 20 (by decide)) ck_L_19 ⟨Nat.le_of_ble_eq_true rfl, Nat.le_of_ble_eq_true rfl⟩ [] rfl (by decide +kernel) hl.1 (Nat.le_of_ble_eq_true rfl) rfl dL_isStep_97 ⟨Nat.le_of_ble_eq_true rfl, Nat.le_of_ble_eq_true rfl⟩) (wOb E A S ++ wOb E B T) [] rfl (by decide +kernel) rfl rfl (fun H locs w => ?_)
        refine lv_iadd hx hb dL_isStep_100 ?_
        refine lv_istore (lv' := [(8, .int (1 + (fL_up vz 20))), (7, .int (fL_up vy 61)), (6, .int (an_ball S bl 0)), (5, .int bl), (4, .int vz), (0, .ref (adH A)), (1, .ref (adH B)), (2, .int vx), (3, .int vy)]) hx hb dL_isStep_101 hl (by decide) rfl (fun ls hl => ?_)
        obtain ⟨cl, hcl, ec⟩ : ∃ q, vp_in q 61 ∧ fL_up vy 61 = q := ⟨_, up_in rfl (by decide), rfl⟩
        obtain ⟨vl, hvl, evl⟩ : ∃ q : Int32, (1 ≤ q.toInt ∧ q.toInt ≤ 20) ∧ 1 + fL_up vz 20 = q := ⟨_, by have h9 := add_in (u := fL_up vz 20) (a := 1) (k := 1) rfl (up_in (N := 20) rfl (by decide)) (by decide); omega, rfl⟩
        rw [ec, evl] at hl
        obtain ⟨g, hg, e1, e2, e3⟩ := s_put hI hcl hvl
        refine lv_aload_n hx hb dL_isStep_103 rfl (lv_at hl 5 rfl) ?_
        refine lv_iload hx hb dL_isStep_104 (lv_at hl 1 rfl) ?_
        refine lv_iload hx hb dL_isStep_106 (lv_at hl 0 rfl) ?_
        refine r_ci w (r_runV (As := [.int cl, .int vl]) (rest := []) X w (q_put l E A S cl vl ) ck_L_28 ⟨Nat.le_of_ble_eq_true rfl, Nat.le_of_ble_eq_true rfl⟩ isA (hcR_2 (E := E)) nd_A (k0 := 0) CL6 rfl hl.1 (Nat.le_of_ble_eq_true rfl) rfl dL_isStep_108 ⟨Nat.le_of_ble_eq_true rfl, Nat.le_of_ble_eq_true rfl⟩) (wOb E A (ob_put S cl vl) ++ wOb E B T) isA (hcR_2 (E := E)) nd_A (haR_2 (E := E)) (hwR_2 (E := E)) (fun H locs w => ?_)
        refine lv_istore (lv' := [(9, .int (an_put S cl vl)), (8, .int vl), (7, .int cl), (6, .int (an_ball S bl 0)), (5, .int bl), (4, .int vz), (0, .ref (adH A)), (1, .ref (adH B)), (2, .int vx), (3, .int vy)]) hx hb dL_isStep_111 hl (by decide) rfl (fun ls hl => ?_)
        refine lv_iload hx hb dL_isStep_113 (lv_at hl 0 rfl) ?_
        refine lv_aload_n hx hb dL_isStep_115 rfl (lv_at hl 7 rfl) ?_
        refine lv_iload hx hb dL_isStep_116 (lv_at hl 2 rfl) ?_
        refine r_ci w (r_runS (As := [.int cl]) (rest := [.ref (adH B), .int (an_put S cl vl)]) X w (kL_there l E cl ) ck_L_31 ⟨Nat.le_of_ble_eq_true rfl, Nat.le_of_ble_eq_true rfl⟩ [] rfl (by decide +kernel) hl.1 (Nat.le_of_ble_eq_true rfl) rfl dL_isStep_118 ⟨Nat.le_of_ble_eq_true rfl, Nat.le_of_ble_eq_true rfl⟩) (wOb E A (ob_put S cl vl) ++ wOb E B T) [] rfl (by decide +kernel) rfl rfl (fun H locs w => ?_)
        refine lv_iload hx hb dL_isStep_121 (lv_at hl 1 rfl) ?_
        refine r_ci w (r_runV (As := [.int (fL_there cl), .int vl]) (rest := [.int (an_put S cl vl)]) X w (q_put l E B T (fL_there cl) vl ) ck_L_28 ⟨Nat.le_of_ble_eq_true rfl, Nat.le_of_ble_eq_true rfl⟩ isB (hcR_3 (E := E)) nd_B (k0 := 0) CL6 rfl hl.1 (Nat.le_of_ble_eq_true rfl) rfl dL_isStep_123 ⟨Nat.le_of_ble_eq_true rfl, Nat.le_of_ble_eq_true rfl⟩) (wOb E A (ob_put S cl vl) ++ wOb E B (ob_put T (fL_there cl) vl)) isB (hcR_3 (E := E)) nd_B (haR_3 (E := E)) (hwR_3 (E := E)) (fun H locs w => ?_)
        refine lv_icmp_ne (tgt := 195) hx hb dL_isStep_126 (by decide) (fun h => absurd e1.symm h) (fun _ => ?_)
        refine lv_iload hx hb dL_isStep_129 (lv_at hl 0 rfl) ?_
        refine lv_if_ge (tgt := 157) hx hb dL_isStep_131 (by decide) (fun c131_19 => ?_) (fun c131_19 => ?_)
        · refine lv_aload_n hx hb dL_isStep_157 rfl (lv_at hl 6 rfl) ?_
          refine lv_iload hx hb dL_isStep_158 (lv_at hl 2 rfl) ?_
          refine lv_iconst (v := 2) hx hb dL_isStep_160 (by decide) ?_
          refine r_ci w (r_runV (As := [.int cl, .int 2]) (rest := []) X w (q_ofCell l E A (ob_put S cl vl) cl 2 ) ck_L_34 ⟨Nat.le_of_ble_eq_true rfl, Nat.le_of_ble_eq_true rfl⟩ isA (hcR_2 (E := E)) nd_A (k0 := 0) CL6 rfl hl.1 (Nat.le_of_ble_eq_true rfl) rfl dL_isStep_161 ⟨Nat.le_of_ble_eq_true rfl, Nat.le_of_ble_eq_true rfl⟩) (wOb E A (ob_put S cl vl) ++ wOb E B (ob_put T (fL_there cl) vl)) isA (hcR_2 (E := E)) nd_A (haR_2 (E := E)) (hwR_2 (E := E)) (fun H locs w => ?_)
          refine lv_iload hx hb dL_isStep_164 (lv_at hl 0 rfl) ?_
          refine lv_icmp_ne (tgt := 195) hx hb dL_isStep_166 (by decide) (fun h => absurd (e3 (nlt_ge c131_19)).1 h) (fun _ => ?_)
          refine lv_aload_n hx hb dL_isStep_169 rfl (lv_at hl 6 rfl) ?_
          refine lv_iload hx hb dL_isStep_170 (lv_at hl 0 rfl) ?_
          refine lv_iconst (v := 1) hx hb dL_isStep_172 (by decide) ?_
          refine r_ci w (r_runV (As := [.int (an_put S cl vl), .int 1]) (rest := []) X w (q_ball l E A (ob_put S cl vl) (an_put S cl vl) 1 ) ck_L_25 ⟨Nat.le_of_ble_eq_true rfl, Nat.le_of_ble_eq_true rfl⟩ isA (hcR_2 (E := E)) nd_A (k0 := 0) CL6 rfl hl.1 (Nat.le_of_ble_eq_true rfl) rfl dL_isStep_173 ⟨Nat.le_of_ble_eq_true rfl, Nat.le_of_ble_eq_true rfl⟩) (wOb E A (ob_put S cl vl) ++ wOb E B (ob_put T (fL_there cl) vl)) isA (hcR_2 (E := E)) nd_A (haR_2 (E := E)) (hwR_2 (E := E)) (fun H locs w => ?_)
          refine lv_iload hx hb dL_isStep_176 (lv_at hl 1 rfl) ?_
          refine lv_icmp_ne (tgt := 195) hx hb dL_isStep_178 (by decide) (fun h => absurd (e3 (nlt_ge c131_19)).2.1 h) (fun _ => ?_)
          refine lv_aload_n hx hb dL_isStep_181 rfl (lv_at hl 6 rfl) ?_
          refine lv_iload hx hb dL_isStep_182 (lv_at hl 0 rfl) ?_
          refine lv_iconst (v := 2) hx hb dL_isStep_184 (by decide) ?_
          refine r_ci w (r_runV (As := [.int (an_put S cl vl), .int 2]) (rest := []) X w (q_ball l E A (ob_put S cl vl) (an_put S cl vl) 2 ) ck_L_25 ⟨Nat.le_of_ble_eq_true rfl, Nat.le_of_ble_eq_true rfl⟩ isA (hcR_2 (E := E)) nd_A (k0 := 0) CL6 rfl hl.1 (Nat.le_of_ble_eq_true rfl) rfl dL_isStep_185 ⟨Nat.le_of_ble_eq_true rfl, Nat.le_of_ble_eq_true rfl⟩) (wOb E A (ob_put S cl vl) ++ wOb E B (ob_put T (fL_there cl) vl)) isA (hcR_2 (E := E)) nd_A (haR_2 (E := E)) (hwR_2 (E := E)) (fun H locs w => ?_)
          refine lv_if_ne (tgt := 195) hx hb dL_isStep_188 (by decide) (fun h => absurd (e3 (nlt_ge c131_19)).2.2 h) (fun _ => ?_)
          refine lv_iconst (v := 1) hx hb dL_isStep_191 (by decide) ?_
          refine lv_goto (tgt := 196) hx hb dL_isStep_192 (by decide) ?_
          exact r_eret X w hr (Or.inr rfl) ⟨rfl, _, _, _, ⟨gG_up hg.1, hg.2⟩, rfl⟩ (haR_4 (E := E)) dL_isStep_196
        · refine lv_aload_n hx hb dL_isStep_134 rfl (lv_at hl 6 rfl) ?_
          refine lv_iload hx hb dL_isStep_135 (lv_at hl 2 rfl) ?_
          refine lv_iconst (v := 2) hx hb dL_isStep_137 (by decide) ?_
          refine r_ci w (r_runV (As := [.int cl, .int 2]) (rest := []) X w (q_ofCell l E A (ob_put S cl vl) cl 2 ) ck_L_34 ⟨Nat.le_of_ble_eq_true rfl, Nat.le_of_ble_eq_true rfl⟩ isA (hcR_2 (E := E)) nd_A (k0 := 0) CL6 rfl hl.1 (Nat.le_of_ble_eq_true rfl) rfl dL_isStep_138 ⟨Nat.le_of_ble_eq_true rfl, Nat.le_of_ble_eq_true rfl⟩) (wOb E A (ob_put S cl vl) ++ wOb E B (ob_put T (fL_there cl) vl)) isA (hcR_2 (E := E)) nd_A (haR_2 (E := E)) (hwR_2 (E := E)) (fun H locs w => ?_)
          refine lv_if_ge (tgt := 191) hx hb dL_isStep_141 (by decide) (fun c141_23 => ?_) (fun c141_23 => ?_)
          · refine lv_iconst (v := 1) hx hb dL_isStep_191 (by decide) ?_
            refine lv_goto (tgt := 196) hx hb dL_isStep_192 (by decide) ?_
            exact r_eret X w hr (Or.inr rfl) ⟨rfl, _, _, _, ⟨gG_up hg.1, hg.2⟩, rfl⟩ (haR_4 (E := E)) dL_isStep_196
          · refine lv_aload_n hx hb dL_isStep_144 rfl (lv_at hl 6 rfl) ?_
            refine lv_iconst (v := 1) hx hb dL_isStep_145 (by decide) ?_
            refine r_ci w (r_runV (As := [.int 1]) (rest := []) X w (q_count l E A (ob_put S cl vl) 1 ) ck_L_15 ⟨Nat.le_of_ble_eq_true rfl, Nat.le_of_ble_eq_true rfl⟩ isA (hcR_2 (E := E)) nd_A (k0 := 0) CL6 rfl hl.1 (Nat.le_of_ble_eq_true rfl) rfl dL_isStep_146 ⟨Nat.le_of_ble_eq_true rfl, Nat.le_of_ble_eq_true rfl⟩) (wOb E A (ob_put S cl vl) ++ wOb E B (ob_put T (fL_there cl) vl)) isA (hcR_2 (E := E)) nd_A (haR_2 (E := E)) (hwR_2 (E := E)) (fun H locs w => ?_)
            refine lv_bipush (v := 12) hx hb dL_isStep_149 (by decide) ?_
            refine lv_icmp_ne (tgt := 195) hx hb dL_isStep_151 (by decide) (fun h => absurd (e2 (lt_nge c131_19) (lt_nge c141_23)) h) (fun _ => ?_)
            refine lv_goto (tgt := 191) hx hb dL_isStep_154 (by decide) ?_
            refine lv_iconst (v := 1) hx hb dL_isStep_191 (by decide) ?_
            refine lv_goto (tgt := 196) hx hb dL_isStep_192 (by decide) ?_
            exact r_eret X w hr (Or.inr rfl) ⟨rfl, _, _, _, ⟨gG_up hg.1, hg.2⟩, rfl⟩ (haR_4 (E := E)) dL_isStep_196
      · by_cases c34_25 : (fL_up vx 13) = 3
        · refine lv_tableIn (off := 163) (tgt := 197) hx hb dL_isStep_34 (by rw [c34_25]; decide) (by rw [c34_25]; decide) (by rw [c34_25]; rfl) (by decide) ?_
          refine lv_iconst (v := 1) hx hb dL_isStep_197 (by decide) ?_
          refine lv_iload hx hb dL_isStep_198 (lv_at hl 2 rfl) ?_
          refine lv_iconst (v := 3) hx hb dL_isStep_200 (by decide) ?_
          refine r_ci w (r_runS (As := [.int vz, .int 3]) (rest := [.int 1]) X w (kL_up l E vz 3 (by decide)) ck_L_19 ⟨Nat.le_of_ble_eq_true rfl, Nat.le_of_ble_eq_true rfl⟩ [] rfl (by decide +kernel) hl.1 (Nat.le_of_ble_eq_true rfl) rfl dL_isStep_201 ⟨Nat.le_of_ble_eq_true rfl, Nat.le_of_ble_eq_true rfl⟩) (wOb E A S ++ wOb E B T) [] rfl (by decide +kernel) rfl rfl (fun H locs w => ?_)
          refine lv_iadd hx hb dL_isStep_204 ?_
          refine lv_istore (lv' := [(7, .int (1 + (fL_up vz 3))), (6, .int (an_ball S bl 0)), (5, .int bl), (4, .int vz), (0, .ref (adH A)), (1, .ref (adH B)), (2, .int vx), (3, .int vy)]) hx hb dL_isStep_205 hl (by decide) rfl (fun ls hl => ?_)
          obtain ⟨N, hN1, hN3, en⟩ : ∃ N : Nat, 1 ≤ N ∧ N ≤ 3 ∧ 1 + fL_up vz 3 = nI N := n3_ex vz
          rw [en] at hl
          refine lv_aload_n hx hb dL_isStep_207 rfl (lv_at hl 4 rfl) ?_
          refine r_ci w (r_runV (As := []) (rest := []) X w (q_clearText l E A S  ) ck_L_37 ⟨Nat.le_of_ble_eq_true rfl, Nat.le_of_ble_eq_true rfl⟩ isA (hcR_2 (E := E)) nd_A (k0 := 0) CL6 rfl hl.1 (Nat.le_of_ble_eq_true rfl) rfl dL_isStep_208 ⟨Nat.le_of_ble_eq_true rfl, Nat.le_of_ble_eq_true rfl⟩) (wOb E A (ob_clearText S) ++ wOb E B T) isA (hcR_2 (E := E)) nd_A (haR_2 (E := E)) (hwR_2 (E := E)) (fun H locs w => ?_)
          refine lv_if_lt (tgt := 225) hx hb dL_isStep_211 (by decide) (fun h => absurd h (cl_ge hI.2.1.2.2)) (fun _ => ?_)
          refine lv_aload_n hx hb dL_isStep_214 rfl (lv_at hl 5 rfl) ?_
          refine r_ci w (r_runV (As := []) (rest := []) X w (q_clearText l E B T  ) ck_L_37 ⟨Nat.le_of_ble_eq_true rfl, Nat.le_of_ble_eq_true rfl⟩ isB (hcR_3 (E := E)) nd_B (k0 := 0) CL6 rfl hl.1 (Nat.le_of_ble_eq_true rfl) rfl dL_isStep_215 ⟨Nat.le_of_ble_eq_true rfl, Nat.le_of_ble_eq_true rfl⟩) (wOb E A (ob_clearText S) ++ wOb E B (ob_clearText T)) isB (hcR_3 (E := E)) nd_B (haR_3 (E := E)) (hwR_3 (E := E)) (fun H locs w => ?_)
          refine lv_if_lt (tgt := 225) hx hb dL_isStep_218 (by decide) (fun h => absurd h (cl_ge hI.2.2.2.2)) (fun _ => ?_)
          refine lv_iconst (v := 1) hx hb dL_isStep_221 (by decide) ?_
          refine lv_goto (tgt := 226) hx hb dL_isStep_222 (by decide) ?_
          refine lv_istore (lv' := [(8, .int 1), (7, .int (nI N)), (6, .int (an_ball S bl 0)), (5, .int bl), (4, .int vz), (0, .ref (adH A)), (1, .ref (adH B)), (2, .int vx), (3, .int vy)]) hx hb dL_isStep_226 hl (by decide) rfl (fun ls hl => ?_)
          refine lv_iconst (v := 0) hx hb dL_isStep_228 (by decide) ?_
          refine lv_istore (lv' := [(9, .int 0), (8, .int 1), (7, .int (nI N)), (6, .int (an_ball S bl 0)), (5, .int bl), (4, .int vz), (0, .ref (adH A)), (1, .ref (adH B)), (2, .int vx), (3, .int vy)]) hx hb dL_isStep_229 hl (by decide) rfl (fun ls hl => ?_)
          obtain ⟨cs, cc, hcs, hcc⟩ := cs_ex vy
          obtain ⟨vs, vv, hvs, hvv⟩ := vs_ex vy
          have hty := tbs_BI (cs := cs) (vs := vs) (cs' := fun j => fL_there (cs j)) (cl_BI hI) cl_TX cl_TX hcc hvv (fun _ => rfl)
          have loop : ∀ (n k : Nat), k + n = N → ∀ (H : Heap) (locs : List Loc), Wd E (hB (wOb E A S ++ wOb E B T)) s (wOb E A (tbs (ob_clearText S) cs vs k) ++ wOb E B (tbs (ob_clearText T) (fun j => fL_there (cs j)) vs k)) H locs → ∀ (ls : Array Slot), lv_has ls 12 [(9, .int (nI k)), (8, .int 1), (7, .int (nI N)), (6, .int (an_ball S bl 0)), (5, .int bl), (4, .int vz), (0, .ref (adH A)), (1, .ref (adH B)), (2, .int vx), (3, .int vy)] → W p l e { frames := 8, cells := 0, slots := 0, locals := 204 } s m (([.ref (adH A), .ref (adH B), .int vx, .int vy] : List Value)).toArray below meth c H locs 0 0 (MQ below (QE E (wOb E A S ++ wOb E B T) (NS E A B (M + 1))) (([.ref (adH A), .ref (adH B), .int vx, .int vy] : List Value)).toArray s 0 0 (hB (wOb E A S ++ wOb E B T))) (F0 m 231 ls []) := by
            intro n
            induction n with
            | zero =>
              intro k hk_k H locs w ls hl
              obtain rfl : N = k := by omega
              refine lv_iload hx hb dL_isStep_231 (lv_at hl 0 rfl) ?_
              refine lv_iload hx hb dL_isStep_233 (lv_at hl 2 rfl) ?_
              refine lv_icmp_ge (tgt := 366) hx hb dL_isStep_235 (by decide) (fun _ => ?_) (fun h => absurd (Int32.le_refl _) h)
              obtain ⟨hBN, hT1, hT2⟩ := hty N (by omega)
              obtain ⟨g, hg, e1, e2, e3⟩ := s_putAll hBN hN1 hN3 (fun j _ => ⟨(hcc j).2, (hvv j).2⟩) hT1 hT2
              refine lv_aload_n hx hb dL_isStep_366 rfl (lv_at hl 6 rfl) ?_
              refine lv_iconst (v := 1) hx hb dL_isStep_367 (by decide) ?_
              refine r_ci w (r_runV (As := [.int 1]) (rest := []) X w (q_count l E A (tbs (ob_clearText S) cs vs N) 1 ) ck_L_15 ⟨Nat.le_of_ble_eq_true rfl, Nat.le_of_ble_eq_true rfl⟩ isA (hcR_2 (E := E)) nd_A (k0 := 0) CL6 rfl hl.1 (Nat.le_of_ble_eq_true rfl) rfl dL_isStep_368 ⟨Nat.le_of_ble_eq_true rfl, Nat.le_of_ble_eq_true rfl⟩) (wOb E A (tbs (ob_clearText S) cs vs N) ++ wOb E B (tbs (ob_clearText T) (fun j => fL_there (cs j)) vs N)) isA (hcR_2 (E := E)) nd_A (haR_2 (E := E)) (hwR_2 (E := E)) (fun H locs w => ?_)
              refine lv_istore (lv' := [(9, .int (an_count (tbs (ob_clearText S) cs vs N) 1)), (8, .int 1), (7, .int (nI N)), (6, .int (an_ball S bl 0)), (5, .int bl), (4, .int vz), (0, .ref (adH A)), (1, .ref (adH B)), (2, .int vx), (3, .int vy)]) hx hb dL_isStep_371 hl (by decide) rfl (fun ls hl => ?_)
              refine lv_aload_n hx hb dL_isStep_373 rfl (lv_at hl 6 rfl) ?_
              refine r_ci w (r_runV (As := []) (rest := []) X w (q_putAll l E A (tbs (ob_clearText S) cs vs N)  ) ck_L_45 ⟨Nat.le_of_ble_eq_true rfl, Nat.le_of_ble_eq_true rfl⟩ isA (hcR_2 (E := E)) nd_A (k0 := 0) CL6 rfl hl.1 (Nat.le_of_ble_eq_true rfl) rfl dL_isStep_374 ⟨Nat.le_of_ble_eq_true rfl, Nat.le_of_ble_eq_true rfl⟩) (wOb E A (ob_putAll (tbs (ob_clearText S) cs vs N)) ++ wOb E B (tbs (ob_clearText T) (fun j => fL_there (cs j)) vs N)) isA (hcR_2 (E := E)) nd_A (haR_2 (E := E)) (hwR_2 (E := E)) (fun H locs w => ?_)
              refine lv_istore (lv' := [(10, .int (an_putAll (tbs (ob_clearText S) cs vs N))), (9, .int (an_count (tbs (ob_clearText S) cs vs N) 1)), (8, .int 1), (7, .int (nI N)), (6, .int (an_ball S bl 0)), (5, .int bl), (4, .int vz), (0, .ref (adH A)), (1, .ref (adH B)), (2, .int vx), (3, .int vy)]) hx hb dL_isStep_377 hl (by decide) rfl (fun ls hl => ?_)
              refine lv_iload hx hb dL_isStep_379 (lv_at hl 2 rfl) ?_
              refine lv_if_eq (tgt := 419) hx hb dL_isStep_381 (by decide) (fun h => absurd h (by decide)) (fun _ => ?_)
              refine lv_iload hx hb dL_isStep_384 (lv_at hl 0 rfl) ?_
              refine lv_aload_n hx hb dL_isStep_386 rfl (lv_at hl 8 rfl) ?_
              refine r_ci w (r_runV (As := []) (rest := [.int (an_putAll (tbs (ob_clearText S) cs vs N))]) X w (q_putAll l E B (tbs (ob_clearText T) (fun j => fL_there (cs j)) vs N)  ) ck_L_45 ⟨Nat.le_of_ble_eq_true rfl, Nat.le_of_ble_eq_true rfl⟩ isB (hcR_3 (E := E)) nd_B (k0 := 0) CL6 rfl hl.1 (Nat.le_of_ble_eq_true rfl) rfl dL_isStep_387 ⟨Nat.le_of_ble_eq_true rfl, Nat.le_of_ble_eq_true rfl⟩) (wOb E A (ob_putAll (tbs (ob_clearText S) cs vs N)) ++ wOb E B (ob_putAll (tbs (ob_clearText T) (fun j => fL_there (cs j)) vs N))) isB (hcR_3 (E := E)) nd_B (haR_3 (E := E)) (hwR_3 (E := E)) (fun H locs w => ?_)
              refine lv_icmp_ne (tgt := 419) hx hb dL_isStep_390 (by decide) (fun h => absurd e1 h) (fun _ => ?_)
              refine lv_aload_n hx hb dL_isStep_393 rfl (lv_at hl 7 rfl) ?_
              refine lv_iconst (v := 1) hx hb dL_isStep_394 (by decide) ?_
              refine r_ci w (r_runV (As := [.int 1]) (rest := []) X w (q_count l E A (ob_putAll (tbs (ob_clearText S) cs vs N)) 1 ) ck_L_15 ⟨Nat.le_of_ble_eq_true rfl, Nat.le_of_ble_eq_true rfl⟩ isA (hcR_2 (E := E)) nd_A (k0 := 0) CL6 rfl hl.1 (Nat.le_of_ble_eq_true rfl) rfl dL_isStep_395 ⟨Nat.le_of_ble_eq_true rfl, Nat.le_of_ble_eq_true rfl⟩) (wOb E A (ob_putAll (tbs (ob_clearText S) cs vs N)) ++ wOb E B (ob_putAll (tbs (ob_clearText T) (fun j => fL_there (cs j)) vs N))) isA (hcR_2 (E := E)) nd_A (haR_2 (E := E)) (hwR_2 (E := E)) (fun H locs w => ?_)
              refine lv_iload hx hb dL_isStep_398 (lv_at hl 1 rfl) ?_
              refine lv_iload hx hb dL_isStep_400 (lv_at hl 0 rfl) ?_
              refine lv_if_ge (tgt := 409) hx hb dL_isStep_402 (by decide) (fun c402_30 => ?_) (fun c402_30 => ?_)
              · refine lv_iload hx hb dL_isStep_409 (lv_at hl 3 rfl) ?_
                refine lv_iadd hx hb dL_isStep_411 ?_
                refine lv_icmp_ne (tgt := 419) hx hb dL_isStep_412 (by decide) (fun h => absurd (e3 (nlt_ge c402_30)) h) (fun _ => ?_)
                refine lv_iconst (v := 1) hx hb dL_isStep_415 (by decide) ?_
                refine lv_goto (tgt := 420) hx hb dL_isStep_416 (by decide) ?_
                exact r_eret X w hr (Or.inr rfl) ⟨rfl, _, _, _, ⟨gG_up hg.1, hg.2⟩, rfl⟩ (haR_4 (E := E)) dL_isStep_420
              · refine lv_iconst (v := 0) hx hb dL_isStep_405 (by decide) ?_
                refine lv_goto (tgt := 411) hx hb dL_isStep_406 (by decide) ?_
                refine lv_iadd hx hb dL_isStep_411 ?_
                refine lv_icmp_ne (tgt := 419) hx hb dL_isStep_412 (by decide) (fun h => absurd ((e2 (lt_nge c402_30)).trans (Int32.add_zero _).symm) h) (fun _ => ?_)
                refine lv_iconst (v := 1) hx hb dL_isStep_415 (by decide) ?_
                refine lv_goto (tgt := 420) hx hb dL_isStep_416 (by decide) ?_
                exact r_eret X w hr (Or.inr rfl) ⟨rfl, _, _, _, ⟨gG_up hg.1, hg.2⟩, rfl⟩ (haR_4 (E := E)) dL_isStep_420
            | succ n ih =>
              intro k hk_k H locs w ls hl
              have hkN : k < N := by omega
              refine lv_iload hx hb dL_isStep_231 (lv_at hl 0 rfl) ?_
              refine lv_iload hx hb dL_isStep_233 (lv_at hl 2 rfl) ?_
              refine lv_icmp_ge (tgt := 366) hx hb dL_isStep_235 (by decide) (fun h => absurd h (nI_ge hkN (by omega))) (fun _ => ?_)
              refine lv_iload_n hx hb dL_isStep_238 rfl (lv_at hl 9 rfl) ?_
              refine lv_iconst (v := 3) hx hb dL_isStep_239 (by decide) ?_
              refine lv_iload hx hb dL_isStep_240 (lv_at hl 0 rfl) ?_
              refine lv_imul hx hb dL_isStep_242 ?_
              refine lv_ishr hx hb dL_isStep_243 ?_
              refine lv_bipush (v := 61) hx hb dL_isStep_244 (by decide) ?_
              refine r_ci w (r_runS (As := [.int (vy >>> ((3 * (nI k)) &&& 31)), .int 61]) (rest := []) X w (kL_up l E (vy >>> ((3 * (nI k)) &&& 31)) 61 (by decide)) ck_L_19 ⟨Nat.le_of_ble_eq_true rfl, Nat.le_of_ble_eq_true rfl⟩ [] rfl (by decide +kernel) hl.1 (Nat.le_of_ble_eq_true rfl) rfl dL_isStep_246 ⟨Nat.le_of_ble_eq_true rfl, Nat.le_of_ble_eq_true rfl⟩) (wOb E A (tbs (ob_clearText S) cs vs k) ++ wOb E B (tbs (ob_clearText T) (fun j => fL_there (cs j)) vs k)) [] rfl (by decide +kernel) rfl rfl (fun H locs w => ?_)
              refine lv_istore (lv' := [(10, .int (fL_up (vy >>> ((3 * (nI k)) &&& 31)) 61)), (9, .int (nI k)), (8, .int 1), (7, .int (nI N)), (6, .int (an_ball S bl 0)), (5, .int bl), (4, .int vz), (0, .ref (adH A)), (1, .ref (adH B)), (2, .int vx), (3, .int vy)]) hx hb dL_isStep_249 hl (by decide) rfl (fun ls hl => ?_)
              refine lv_iconst (v := 1) hx hb dL_isStep_251 (by decide) ?_
              refine lv_iload_n hx hb dL_isStep_252 rfl (lv_at hl 10 rfl) ?_
              refine lv_iconst (v := 2) hx hb dL_isStep_253 (by decide) ?_
              refine lv_iload hx hb dL_isStep_254 (lv_at hl 1 rfl) ?_
              refine lv_imul hx hb dL_isStep_256 ?_
              refine lv_iconst (v := 1) hx hb dL_isStep_257 (by decide) ?_
              refine lv_iadd hx hb dL_isStep_258 ?_
              refine lv_ishr hx hb dL_isStep_259 ?_
              refine lv_bipush (v := 20) hx hb dL_isStep_260 (by decide) ?_
              refine r_ci w (r_runS (As := [.int (vy >>> (((2 * (nI k)) + 1) &&& 31)), .int 20]) (rest := [.int 1]) X w (kL_up l E (vy >>> (((2 * (nI k)) + 1) &&& 31)) 20 (by decide)) ck_L_19 ⟨Nat.le_of_ble_eq_true rfl, Nat.le_of_ble_eq_true rfl⟩ [] rfl (by decide +kernel) hl.1 (Nat.le_of_ble_eq_true rfl) rfl dL_isStep_262 ⟨Nat.le_of_ble_eq_true rfl, Nat.le_of_ble_eq_true rfl⟩) (wOb E A (tbs (ob_clearText S) cs vs k) ++ wOb E B (tbs (ob_clearText T) (fun j => fL_there (cs j)) vs k)) [] rfl (by decide +kernel) rfl rfl (fun H locs w => ?_)
              refine lv_iadd hx hb dL_isStep_265 ?_
              refine lv_istore (lv' := [(11, .int (1 + (fL_up (vy >>> (((2 * (nI k)) + 1) &&& 31)) 20))), (10, .int (fL_up (vy >>> ((3 * (nI k)) &&& 31)) 61)), (9, .int (nI k)), (8, .int 1), (7, .int (nI N)), (6, .int (an_ball S bl 0)), (5, .int bl), (4, .int vz), (0, .ref (adH A)), (1, .ref (adH B)), (2, .int vx), (3, .int vy)]) hx hb dL_isStep_266 hl (by decide) rfl (fun ls hl => ?_)
              rw [hcs k, hvs k] at hl
              obtain ⟨hBk, hk1, hk2⟩ := hty k (by omega)
              have hl1 : (ltx cc vv k).length ≤ 18 := by have := ltx_len cc vv k; omega
              have hl2 : (ltx (fun j => 60 - cc j) vv k).length ≤ 18 := by have := ltx_len (fun j => 60 - cc j) vv k; omega
              have eT : fL_there (cs k) = nI (60 - cc k) := by rw [(hcc k).1, th_c (hcc k).2]
              refine lv_iload hx hb dL_isStep_268 (lv_at hl 3 rfl) ?_
              refine lv_if_eq (tgt := 357) hx hb dL_isStep_270 (by decide) (fun h => absurd h (by decide)) (fun _ => ?_)
              refine lv_iload hx hb dL_isStep_273 (lv_at hl 2 rfl) ?_
              refine lv_if_eq (tgt := 296) hx hb dL_isStep_275 (by decide) (fun c275_34 => ?_) (fun c275_34 => ?_)
              · have tS := ty_ball (S := (tbs (ob_clearText S) cs vs k)) (c := cc k) (v := vv k) hk1 (by omega) (hcc k).2 (by have := (hvv k).2; omega)
                have tT := ty_ball (S := (tbs (ob_clearText T) (fun j => fL_there (cs j)) vs k)) (c := 60 - cc k) (v := vv k) hk2 (by omega) (by omega) (by have := (hvv k).2; omega)
                rw [← (hcc k).1, ← (hvv k).1] at tS
                rw [← eT, ← (hvv k).1] at tT
                refine lv_aload_n hx hb dL_isStep_296 rfl (lv_at hl 8 rfl) ?_
                refine lv_iload hx hb dL_isStep_297 (lv_at hl 1 rfl) ?_
                refine r_ci w (r_runS (As := [.ref (adH A), .int (cs k)]) (rest := []) X w (kL_number l E A (tbs (ob_clearText S) cs vs k) (cs k) ) ck_L_41 ⟨Nat.le_of_ble_eq_true rfl, Nat.le_of_ble_eq_true rfl⟩ isA (hcR_2 (E := E)) nd_A hl.1 (Nat.le_of_ble_eq_true rfl) rfl dL_isStep_299 ⟨Nat.le_of_ble_eq_true rfl, Nat.le_of_ble_eq_true rfl⟩) (wOb E A ((fL_number (tbs (ob_clearText S) cs vs k) (cs k)).2) ++ wOb E B (tbs (ob_clearText T) (fun j => fL_there (cs j)) vs k)) isA (hcR_2 (E := E)) nd_A (haR_2 (E := E)) (hwR_2 (E := E)) (fun H locs w => ?_)
                refine lv_if_eq (tgt := 357) hx hb dL_isStep_302 (by decide) (fun h => absurd h (by rw [tS.1]; decide)) (fun _ => ?_)
                refine lv_aload_n hx hb dL_isStep_305 rfl (lv_at hl 9 rfl) ?_
                refine lv_iload hx hb dL_isStep_306 (lv_at hl 1 rfl) ?_
                refine r_ci w (r_runS (As := [.int (cs k)]) (rest := [.ref (adH B)]) X w (kL_there l E (cs k) ) ck_L_31 ⟨Nat.le_of_ble_eq_true rfl, Nat.le_of_ble_eq_true rfl⟩ [] rfl (by decide +kernel) hl.1 (Nat.le_of_ble_eq_true rfl) rfl dL_isStep_308 ⟨Nat.le_of_ble_eq_true rfl, Nat.le_of_ble_eq_true rfl⟩) (wOb E A ((fL_number (tbs (ob_clearText S) cs vs k) (cs k)).2) ++ wOb E B (tbs (ob_clearText T) (fun j => fL_there (cs j)) vs k)) [] rfl (by decide +kernel) rfl rfl (fun H locs w => ?_)
                refine r_ci w (r_runS (As := [.ref (adH B), .int (fL_there (cs k))]) (rest := []) X w (kL_number l E B (tbs (ob_clearText T) (fun j => fL_there (cs j)) vs k) (fL_there (cs k)) ) ck_L_41 ⟨Nat.le_of_ble_eq_true rfl, Nat.le_of_ble_eq_true rfl⟩ isB (hcR_3 (E := E)) nd_B hl.1 (Nat.le_of_ble_eq_true rfl) rfl dL_isStep_311 ⟨Nat.le_of_ble_eq_true rfl, Nat.le_of_ble_eq_true rfl⟩) (wOb E A ((fL_number (tbs (ob_clearText S) cs vs k) (cs k)).2) ++ wOb E B ((fL_number (tbs (ob_clearText T) (fun j => fL_there (cs j)) vs k) (fL_there (cs k))).2)) isB (hcR_3 (E := E)) nd_B (haR_3 (E := E)) (hwR_3 (E := E)) (fun H locs w => ?_)
                refine lv_if_eq (tgt := 357) hx hb dL_isStep_314 (by decide) (fun h => absurd h (by rw [tT.1]; decide)) (fun _ => ?_)
                refine lv_aload_n hx hb dL_isStep_317 rfl (lv_at hl 8 rfl) ?_
                refine lv_bipush (v := 58) hx hb dL_isStep_318 (by decide) ?_
                refine r_ci w (r_runV (As := [.int 58]) (rest := []) X w (q_type l E A ((fL_number (tbs (ob_clearText S) cs vs k) (cs k)).2) 58 (by decide)) ck_L_9 ⟨Nat.le_of_ble_eq_true rfl, Nat.le_of_ble_eq_true rfl⟩ isA (hcR_2 (E := E)) nd_A (k0 := 0) CL6 rfl hl.1 (Nat.le_of_ble_eq_true rfl) rfl dL_isStep_320 ⟨Nat.le_of_ble_eq_true rfl, Nat.le_of_ble_eq_true rfl⟩) (wOb E A (ob_type ((fL_number (tbs (ob_clearText S) cs vs k) (cs k)).2) 58) ++ wOb E B ((fL_number (tbs (ob_clearText T) (fun j => fL_there (cs j)) vs k) (fL_there (cs k))).2)) isA (hcR_2 (E := E)) nd_A (haR_2 (E := E)) (hwR_2 (E := E)) (fun H locs w => ?_)
                refine lv_if_le (tgt := 357) hx hb dL_isStep_323 (by decide) (fun h => absurd h tS.2.1) (fun _ => ?_)
                refine lv_aload_n hx hb dL_isStep_326 rfl (lv_at hl 9 rfl) ?_
                refine lv_bipush (v := 58) hx hb dL_isStep_327 (by decide) ?_
                refine r_ci w (r_runV (As := [.int 58]) (rest := []) X w (q_type l E B ((fL_number (tbs (ob_clearText T) (fun j => fL_there (cs j)) vs k) (fL_there (cs k))).2) 58 (by decide)) ck_L_9 ⟨Nat.le_of_ble_eq_true rfl, Nat.le_of_ble_eq_true rfl⟩ isB (hcR_3 (E := E)) nd_B (k0 := 0) CL6 rfl hl.1 (Nat.le_of_ble_eq_true rfl) rfl dL_isStep_329 ⟨Nat.le_of_ble_eq_true rfl, Nat.le_of_ble_eq_true rfl⟩) (wOb E A (ob_type ((fL_number (tbs (ob_clearText S) cs vs k) (cs k)).2) 58) ++ wOb E B (ob_type ((fL_number (tbs (ob_clearText T) (fun j => fL_there (cs j)) vs k) (fL_there (cs k))).2) 58)) isB (hcR_3 (E := E)) nd_B (haR_3 (E := E)) (hwR_3 (E := E)) (fun H locs w => ?_)
                refine lv_if_le (tgt := 357) hx hb dL_isStep_332 (by decide) (fun h => absurd h tT.2.1) (fun _ => ?_)
                refine lv_aload_n hx hb dL_isStep_335 rfl (lv_at hl 8 rfl) ?_
                refine lv_iload hx hb dL_isStep_336 (lv_at hl 0 rfl) ?_
                refine r_ci w (r_runS (As := [.ref (adH A), .int (vs k)]) (rest := []) X w (kL_number l E A (ob_type ((fL_number (tbs (ob_clearText S) cs vs k) (cs k)).2) 58) (vs k) ) ck_L_41 ⟨Nat.le_of_ble_eq_true rfl, Nat.le_of_ble_eq_true rfl⟩ isA (hcR_2 (E := E)) nd_A hl.1 (Nat.le_of_ble_eq_true rfl) rfl dL_isStep_338 ⟨Nat.le_of_ble_eq_true rfl, Nat.le_of_ble_eq_true rfl⟩) (wOb E A ((fL_number (ob_type ((fL_number (tbs (ob_clearText S) cs vs k) (cs k)).2) 58) (vs k)).2) ++ wOb E B (ob_type ((fL_number (tbs (ob_clearText T) (fun j => fL_there (cs j)) vs k) (fL_there (cs k))).2) 58)) isA (hcR_2 (E := E)) nd_A (haR_2 (E := E)) (hwR_2 (E := E)) (fun H locs w => ?_)
                refine lv_if_eq (tgt := 357) hx hb dL_isStep_341 (by decide) (fun h => absurd h (by rw [tS.2.2.1]; decide)) (fun _ => ?_)
                refine lv_aload_n hx hb dL_isStep_344 rfl (lv_at hl 9 rfl) ?_
                refine lv_iload hx hb dL_isStep_345 (lv_at hl 0 rfl) ?_
                refine r_ci w (r_runS (As := [.ref (adH B), .int (vs k)]) (rest := []) X w (kL_number l E B (ob_type ((fL_number (tbs (ob_clearText T) (fun j => fL_there (cs j)) vs k) (fL_there (cs k))).2) 58) (vs k) ) ck_L_41 ⟨Nat.le_of_ble_eq_true rfl, Nat.le_of_ble_eq_true rfl⟩ isB (hcR_3 (E := E)) nd_B hl.1 (Nat.le_of_ble_eq_true rfl) rfl dL_isStep_347 ⟨Nat.le_of_ble_eq_true rfl, Nat.le_of_ble_eq_true rfl⟩) (wOb E A ((fL_number (ob_type ((fL_number (tbs (ob_clearText S) cs vs k) (cs k)).2) 58) (vs k)).2) ++ wOb E B ((fL_number (ob_type ((fL_number (tbs (ob_clearText T) (fun j => fL_there (cs j)) vs k) (fL_there (cs k))).2) 58) (vs k)).2)) isB (hcR_3 (E := E)) nd_B (haR_3 (E := E)) (hwR_3 (E := E)) (fun H locs w => ?_)
                refine lv_if_eq (tgt := 357) hx hb dL_isStep_350 (by decide) (fun h => absurd h (by rw [tT.2.2.1]; decide)) (fun _ => ?_)
                refine lv_iconst (v := 1) hx hb dL_isStep_353 (by decide) ?_
                refine lv_goto (tgt := 358) hx hb dL_isStep_354 (by decide) ?_
                refine lv_istore (lv' := [(8, .int 1), (11, .int (vs k)), (10, .int (cs k)), (9, .int (nI k)), (7, .int (nI N)), (6, .int (an_ball S bl 0)), (5, .int bl), (4, .int vz), (0, .ref (adH A)), (1, .ref (adH B)), (2, .int vx), (3, .int vy)]) hx hb dL_isStep_358 hl (by decide) rfl (fun ls hl => ?_)
                refine lv_iinc (v := (nI k) + 1) (lv' := [(9, .int ((nI k) + 1)), (8, .int 1), (11, .int (vs k)), (10, .int (cs k)), (7, .int (nI N)), (6, .int (an_ball S bl 0)), (5, .int bl), (4, .int vz), (0, .ref (adH A)), (1, .ref (adH B)), (2, .int vx), (3, .int vy)]) hx hb dL_isStep_360 hl (k := 3) rfl (by first | rfl | decide) (by decide) rfl (fun ls hl => ?_)
                refine lv_goto (tgt := 231) hx hb dL_isStep_363 (by decide) ?_
                have e0 : nI k + 1 = nI (k + 1) := nI_1 k
                rw [e0] at hl
                rw [tb_0 (S := tbs (ob_clearText S) cs vs k) (c := cs k) (v := vs k) c275_34, tb_0 (S := tbs (ob_clearText T) (fun j => fL_there (cs j)) vs k) (c := fL_there (cs k)) (v := vs k) c275_34] at w
                exact ih (k + 1) (by omega) _ _ w ls (lv_sub hl [0, 1, 4, 5, 6, 7, 8, 9, 10, 11] rfl)
              · refine lv_aload_n hx hb dL_isStep_278 rfl (lv_at hl 8 rfl) ?_
                refine lv_bipush (v := 59) hx hb dL_isStep_279 (by decide) ?_
                refine r_ci w (r_runV (As := [.int 59]) (rest := []) X w (q_type l E A (tbs (ob_clearText S) cs vs k) 59 (by decide)) ck_L_9 ⟨Nat.le_of_ble_eq_true rfl, Nat.le_of_ble_eq_true rfl⟩ isA (hcR_2 (E := E)) nd_A (k0 := 0) CL6 rfl hl.1 (Nat.le_of_ble_eq_true rfl) rfl dL_isStep_281 ⟨Nat.le_of_ble_eq_true rfl, Nat.le_of_ble_eq_true rfl⟩) (wOb E A (ob_type (tbs (ob_clearText S) cs vs k) 59) ++ wOb E B (tbs (ob_clearText T) (fun j => fL_there (cs j)) vs k)) isA (hcR_2 (E := E)) nd_A (haR_2 (E := E)) (hwR_2 (E := E)) (fun H locs w => ?_)
                refine lv_if_le (tgt := 357) hx hb dL_isStep_284 (by decide) (fun h => absurd h (ty_1 (ch := 59) hk1 (by omega)).1) (fun _ => ?_)
                refine lv_aload_n hx hb dL_isStep_287 rfl (lv_at hl 9 rfl) ?_
                refine lv_bipush (v := 59) hx hb dL_isStep_288 (by decide) ?_
                refine r_ci w (r_runV (As := [.int 59]) (rest := []) X w (q_type l E B (tbs (ob_clearText T) (fun j => fL_there (cs j)) vs k) 59 (by decide)) ck_L_9 ⟨Nat.le_of_ble_eq_true rfl, Nat.le_of_ble_eq_true rfl⟩ isB (hcR_3 (E := E)) nd_B (k0 := 0) CL6 rfl hl.1 (Nat.le_of_ble_eq_true rfl) rfl dL_isStep_290 ⟨Nat.le_of_ble_eq_true rfl, Nat.le_of_ble_eq_true rfl⟩) (wOb E A (ob_type (tbs (ob_clearText S) cs vs k) 59) ++ wOb E B (ob_type (tbs (ob_clearText T) (fun j => fL_there (cs j)) vs k) 59)) isB (hcR_3 (E := E)) nd_B (haR_3 (E := E)) (hwR_3 (E := E)) (fun H locs w => ?_)
                refine lv_if_le (tgt := 357) hx hb dL_isStep_293 (by decide) (fun h => absurd h (ty_1 (ch := 59) hk2 (by omega)).1) (fun _ => ?_)
                have tS := ty_ball (S := (ob_type (tbs (ob_clearText S) cs vs k) 59)) (c := cc k) (v := vv k) (ty_1 (ch := 59) hk1 (by omega)).2 (by rw [List.length_append]; show (ltx cc vv k).length + 1 + 6 ≤ 60; omega) (hcc k).2 (by have := (hvv k).2; omega)
                have tT := ty_ball (S := (ob_type (tbs (ob_clearText T) (fun j => fL_there (cs j)) vs k) 59)) (c := 60 - cc k) (v := vv k) (ty_1 (ch := 59) hk2 (by omega)).2 (by rw [List.length_append]; show (ltx (fun j => 60 - cc j) vv k).length + 1 + 6 ≤ 60; omega) (by omega) (by have := (hvv k).2; omega)
                rw [← (hcc k).1, ← (hvv k).1] at tS
                rw [← eT, ← (hvv k).1] at tT
                refine lv_aload_n hx hb dL_isStep_296 rfl (lv_at hl 8 rfl) ?_
                refine lv_iload hx hb dL_isStep_297 (lv_at hl 1 rfl) ?_
                refine r_ci w (r_runS (As := [.ref (adH A), .int (cs k)]) (rest := []) X w (kL_number l E A (ob_type (tbs (ob_clearText S) cs vs k) 59) (cs k) ) ck_L_41 ⟨Nat.le_of_ble_eq_true rfl, Nat.le_of_ble_eq_true rfl⟩ isA (hcR_2 (E := E)) nd_A hl.1 (Nat.le_of_ble_eq_true rfl) rfl dL_isStep_299 ⟨Nat.le_of_ble_eq_true rfl, Nat.le_of_ble_eq_true rfl⟩) (wOb E A ((fL_number (ob_type (tbs (ob_clearText S) cs vs k) 59) (cs k)).2) ++ wOb E B (ob_type (tbs (ob_clearText T) (fun j => fL_there (cs j)) vs k) 59)) isA (hcR_2 (E := E)) nd_A (haR_2 (E := E)) (hwR_2 (E := E)) (fun H locs w => ?_)
                refine lv_if_eq (tgt := 357) hx hb dL_isStep_302 (by decide) (fun h => absurd h (by rw [tS.1]; decide)) (fun _ => ?_)
                refine lv_aload_n hx hb dL_isStep_305 rfl (lv_at hl 9 rfl) ?_
                refine lv_iload hx hb dL_isStep_306 (lv_at hl 1 rfl) ?_
                refine r_ci w (r_runS (As := [.int (cs k)]) (rest := [.ref (adH B)]) X w (kL_there l E (cs k) ) ck_L_31 ⟨Nat.le_of_ble_eq_true rfl, Nat.le_of_ble_eq_true rfl⟩ [] rfl (by decide +kernel) hl.1 (Nat.le_of_ble_eq_true rfl) rfl dL_isStep_308 ⟨Nat.le_of_ble_eq_true rfl, Nat.le_of_ble_eq_true rfl⟩) (wOb E A ((fL_number (ob_type (tbs (ob_clearText S) cs vs k) 59) (cs k)).2) ++ wOb E B (ob_type (tbs (ob_clearText T) (fun j => fL_there (cs j)) vs k) 59)) [] rfl (by decide +kernel) rfl rfl (fun H locs w => ?_)
                refine r_ci w (r_runS (As := [.ref (adH B), .int (fL_there (cs k))]) (rest := []) X w (kL_number l E B (ob_type (tbs (ob_clearText T) (fun j => fL_there (cs j)) vs k) 59) (fL_there (cs k)) ) ck_L_41 ⟨Nat.le_of_ble_eq_true rfl, Nat.le_of_ble_eq_true rfl⟩ isB (hcR_3 (E := E)) nd_B hl.1 (Nat.le_of_ble_eq_true rfl) rfl dL_isStep_311 ⟨Nat.le_of_ble_eq_true rfl, Nat.le_of_ble_eq_true rfl⟩) (wOb E A ((fL_number (ob_type (tbs (ob_clearText S) cs vs k) 59) (cs k)).2) ++ wOb E B ((fL_number (ob_type (tbs (ob_clearText T) (fun j => fL_there (cs j)) vs k) 59) (fL_there (cs k))).2)) isB (hcR_3 (E := E)) nd_B (haR_3 (E := E)) (hwR_3 (E := E)) (fun H locs w => ?_)
                refine lv_if_eq (tgt := 357) hx hb dL_isStep_314 (by decide) (fun h => absurd h (by rw [tT.1]; decide)) (fun _ => ?_)
                refine lv_aload_n hx hb dL_isStep_317 rfl (lv_at hl 8 rfl) ?_
                refine lv_bipush (v := 58) hx hb dL_isStep_318 (by decide) ?_
                refine r_ci w (r_runV (As := [.int 58]) (rest := []) X w (q_type l E A ((fL_number (ob_type (tbs (ob_clearText S) cs vs k) 59) (cs k)).2) 58 (by decide)) ck_L_9 ⟨Nat.le_of_ble_eq_true rfl, Nat.le_of_ble_eq_true rfl⟩ isA (hcR_2 (E := E)) nd_A (k0 := 0) CL6 rfl hl.1 (Nat.le_of_ble_eq_true rfl) rfl dL_isStep_320 ⟨Nat.le_of_ble_eq_true rfl, Nat.le_of_ble_eq_true rfl⟩) (wOb E A (ob_type ((fL_number (ob_type (tbs (ob_clearText S) cs vs k) 59) (cs k)).2) 58) ++ wOb E B ((fL_number (ob_type (tbs (ob_clearText T) (fun j => fL_there (cs j)) vs k) 59) (fL_there (cs k))).2)) isA (hcR_2 (E := E)) nd_A (haR_2 (E := E)) (hwR_2 (E := E)) (fun H locs w => ?_)
                refine lv_if_le (tgt := 357) hx hb dL_isStep_323 (by decide) (fun h => absurd h tS.2.1) (fun _ => ?_)
                refine lv_aload_n hx hb dL_isStep_326 rfl (lv_at hl 9 rfl) ?_
                refine lv_bipush (v := 58) hx hb dL_isStep_327 (by decide) ?_
                refine r_ci w (r_runV (As := [.int 58]) (rest := []) X w (q_type l E B ((fL_number (ob_type (tbs (ob_clearText T) (fun j => fL_there (cs j)) vs k) 59) (fL_there (cs k))).2) 58 (by decide)) ck_L_9 ⟨Nat.le_of_ble_eq_true rfl, Nat.le_of_ble_eq_true rfl⟩ isB (hcR_3 (E := E)) nd_B (k0 := 0) CL6 rfl hl.1 (Nat.le_of_ble_eq_true rfl) rfl dL_isStep_329 ⟨Nat.le_of_ble_eq_true rfl, Nat.le_of_ble_eq_true rfl⟩) (wOb E A (ob_type ((fL_number (ob_type (tbs (ob_clearText S) cs vs k) 59) (cs k)).2) 58) ++ wOb E B (ob_type ((fL_number (ob_type (tbs (ob_clearText T) (fun j => fL_there (cs j)) vs k) 59) (fL_there (cs k))).2) 58)) isB (hcR_3 (E := E)) nd_B (haR_3 (E := E)) (hwR_3 (E := E)) (fun H locs w => ?_)
                refine lv_if_le (tgt := 357) hx hb dL_isStep_332 (by decide) (fun h => absurd h tT.2.1) (fun _ => ?_)
                refine lv_aload_n hx hb dL_isStep_335 rfl (lv_at hl 8 rfl) ?_
                refine lv_iload hx hb dL_isStep_336 (lv_at hl 0 rfl) ?_
                refine r_ci w (r_runS (As := [.ref (adH A), .int (vs k)]) (rest := []) X w (kL_number l E A (ob_type ((fL_number (ob_type (tbs (ob_clearText S) cs vs k) 59) (cs k)).2) 58) (vs k) ) ck_L_41 ⟨Nat.le_of_ble_eq_true rfl, Nat.le_of_ble_eq_true rfl⟩ isA (hcR_2 (E := E)) nd_A hl.1 (Nat.le_of_ble_eq_true rfl) rfl dL_isStep_338 ⟨Nat.le_of_ble_eq_true rfl, Nat.le_of_ble_eq_true rfl⟩) (wOb E A ((fL_number (ob_type ((fL_number (ob_type (tbs (ob_clearText S) cs vs k) 59) (cs k)).2) 58) (vs k)).2) ++ wOb E B (ob_type ((fL_number (ob_type (tbs (ob_clearText T) (fun j => fL_there (cs j)) vs k) 59) (fL_there (cs k))).2) 58)) isA (hcR_2 (E := E)) nd_A (haR_2 (E := E)) (hwR_2 (E := E)) (fun H locs w => ?_)
                refine lv_if_eq (tgt := 357) hx hb dL_isStep_341 (by decide) (fun h => absurd h (by rw [tS.2.2.1]; decide)) (fun _ => ?_)
                refine lv_aload_n hx hb dL_isStep_344 rfl (lv_at hl 9 rfl) ?_
                refine lv_iload hx hb dL_isStep_345 (lv_at hl 0 rfl) ?_
                refine r_ci w (r_runS (As := [.ref (adH B), .int (vs k)]) (rest := []) X w (kL_number l E B (ob_type ((fL_number (ob_type (tbs (ob_clearText T) (fun j => fL_there (cs j)) vs k) 59) (fL_there (cs k))).2) 58) (vs k) ) ck_L_41 ⟨Nat.le_of_ble_eq_true rfl, Nat.le_of_ble_eq_true rfl⟩ isB (hcR_3 (E := E)) nd_B hl.1 (Nat.le_of_ble_eq_true rfl) rfl dL_isStep_347 ⟨Nat.le_of_ble_eq_true rfl, Nat.le_of_ble_eq_true rfl⟩) (wOb E A ((fL_number (ob_type ((fL_number (ob_type (tbs (ob_clearText S) cs vs k) 59) (cs k)).2) 58) (vs k)).2) ++ wOb E B ((fL_number (ob_type ((fL_number (ob_type (tbs (ob_clearText T) (fun j => fL_there (cs j)) vs k) 59) (fL_there (cs k))).2) 58) (vs k)).2)) isB (hcR_3 (E := E)) nd_B (haR_3 (E := E)) (hwR_3 (E := E)) (fun H locs w => ?_)
                refine lv_if_eq (tgt := 357) hx hb dL_isStep_350 (by decide) (fun h => absurd h (by rw [tT.2.2.1]; decide)) (fun _ => ?_)
                refine lv_iconst (v := 1) hx hb dL_isStep_353 (by decide) ?_
                refine lv_goto (tgt := 358) hx hb dL_isStep_354 (by decide) ?_
                refine lv_istore (lv' := [(8, .int 1), (11, .int (vs k)), (10, .int (cs k)), (9, .int (nI k)), (7, .int (nI N)), (6, .int (an_ball S bl 0)), (5, .int bl), (4, .int vz), (0, .ref (adH A)), (1, .ref (adH B)), (2, .int vx), (3, .int vy)]) hx hb dL_isStep_358 hl (by decide) rfl (fun ls hl => ?_)
                refine lv_iinc (v := (nI k) + 1) (lv' := [(9, .int ((nI k) + 1)), (8, .int 1), (11, .int (vs k)), (10, .int (cs k)), (7, .int (nI N)), (6, .int (an_ball S bl 0)), (5, .int bl), (4, .int vz), (0, .ref (adH A)), (1, .ref (adH B)), (2, .int vx), (3, .int vy)]) hx hb dL_isStep_360 hl (k := 3) rfl (by first | rfl | decide) (by decide) rfl (fun ls hl => ?_)
                refine lv_goto (tgt := 231) hx hb dL_isStep_363 (by decide) ?_
                have e0 : nI k + 1 = nI (k + 1) := nI_1 k
                rw [e0] at hl
                rw [tb_n (S := tbs (ob_clearText S) cs vs k) (c := cs k) (v := vs k) c275_34, tb_n (S := tbs (ob_clearText T) (fun j => fL_there (cs j)) vs k) (c := fL_there (cs k)) (v := vs k) c275_34] at w
                exact ih (k + 1) (by omega) _ _ w ls (lv_sub hl [0, 1, 4, 5, 6, 7, 8, 9, 10, 11] rfl)
          exact loop N 0 (by omega) _ _ w ls (lv_sub hl [0, 1, 2, 3, 4, 5, 6, 7, 8, 9] rfl)
        · by_cases c34_49 : (fL_up vx 13) = 4
          · refine lv_tableIn (off := 387) (tgt := 421) hx hb dL_isStep_34 (by rw [c34_49]; decide) (by rw [c34_49]; decide) (by rw [c34_49]; rfl) (by decide) ?_
            refine lv_iload_n hx hb dL_isStep_421 rfl (lv_at hl 6 rfl) ?_
            refine lv_bipush (v := 61) hx hb dL_isStep_422 (by decide) ?_
            refine r_ci w (r_runS (As := [.int vy, .int 61]) (rest := []) X w (kL_up l E vy 61 (by decide)) ck_L_19 ⟨Nat.le_of_ble_eq_true rfl, Nat.le_of_ble_eq_true rfl⟩ [] rfl (by decide +kernel) hl.1 (Nat.le_of_ble_eq_true rfl) rfl dL_isStep_424 ⟨Nat.le_of_ble_eq_true rfl, Nat.le_of_ble_eq_true rfl⟩) (wOb E A S ++ wOb E B T) [] rfl (by decide +kernel) rfl rfl (fun H locs w => ?_)
            refine lv_istore (lv' := [(7, .int (fL_up vy 61)), (6, .int (an_ball S bl 0)), (5, .int bl), (4, .int vz), (0, .ref (adH A)), (1, .ref (adH B)), (2, .int vx), (3, .int vy)]) hx hb dL_isStep_427 hl (by decide) rfl (fun ls hl => ?_)
            obtain ⟨cl, hcl, ec⟩ : ∃ q, vp_in q 61 ∧ fL_up vy 61 = q := ⟨_, up_in rfl (by decide), rfl⟩
            rw [ec] at hl
            obtain ⟨g, hg, e2, e3⟩ := s_move (b := bl) hI hcl
            refine lv_aload_n hx hb dL_isStep_429 rfl (lv_at hl 4 rfl) ?_
            refine lv_iload hx hb dL_isStep_430 (lv_at hl 2 rfl) ?_
            refine lv_iload hx hb dL_isStep_432 (lv_at hl 0 rfl) ?_
            refine r_ci w (r_runV (As := [.int bl, .int cl]) (rest := []) X w (q_move l E A S bl cl ) ck_L_48 ⟨Nat.le_of_ble_eq_true rfl, Nat.le_of_ble_eq_true rfl⟩ isA (hcR_2 (E := E)) nd_A (k0 := 0) CL6 rfl hl.1 (Nat.le_of_ble_eq_true rfl) rfl dL_isStep_434 ⟨Nat.le_of_ble_eq_true rfl, Nat.le_of_ble_eq_true rfl⟩) (wOb E A (ob_move S bl cl) ++ wOb E B T) isA (hcR_2 (E := E)) nd_A (haR_2 (E := E)) (hwR_2 (E := E)) (fun H locs w => ?_)
            refine lv_istore (lv' := [(8, .int (an_move S bl cl)), (7, .int cl), (6, .int (an_ball S bl 0)), (5, .int bl), (4, .int vz), (0, .ref (adH A)), (1, .ref (adH B)), (2, .int vx), (3, .int vy)]) hx hb dL_isStep_437 hl (by decide) rfl (fun ls hl => ?_)
            refine lv_aload_n hx hb dL_isStep_439 rfl (lv_at hl 6 rfl) ?_
            refine lv_iload hx hb dL_isStep_440 (lv_at hl 3 rfl) ?_
            refine lv_iload hx hb dL_isStep_442 (lv_at hl 1 rfl) ?_
            refine r_ci w (r_runS (As := [.int cl]) (rest := [.int bl, .ref (adH B)]) X w (kL_there l E cl ) ck_L_31 ⟨Nat.le_of_ble_eq_true rfl, Nat.le_of_ble_eq_true rfl⟩ [] rfl (by decide +kernel) hl.1 (Nat.le_of_ble_eq_true rfl) rfl dL_isStep_444 ⟨Nat.le_of_ble_eq_true rfl, Nat.le_of_ble_eq_true rfl⟩) (wOb E A (ob_move S bl cl) ++ wOb E B T) [] rfl (by decide +kernel) rfl rfl (fun H locs w => ?_)
            refine r_ci w (r_runV (As := [.int bl, .int (fL_there cl)]) (rest := []) X w (q_move l E B T bl (fL_there cl) ) ck_L_48 ⟨Nat.le_of_ble_eq_true rfl, Nat.le_of_ble_eq_true rfl⟩ isB (hcR_3 (E := E)) nd_B (k0 := 0) CL6 rfl hl.1 (Nat.le_of_ble_eq_true rfl) rfl dL_isStep_447 ⟨Nat.le_of_ble_eq_true rfl, Nat.le_of_ble_eq_true rfl⟩) (wOb E A (ob_move S bl cl) ++ wOb E B (ob_move T bl (fL_there cl))) isB (hcR_3 (E := E)) nd_B (haR_3 (E := E)) (hwR_3 (E := E)) (fun H locs w => ?_)
            refine lv_istore (lv' := [(9, .int (an_move T bl (fL_there cl))), (8, .int (an_move S bl cl)), (7, .int cl), (6, .int (an_ball S bl 0)), (5, .int bl), (4, .int vz), (0, .ref (adH A)), (1, .ref (adH B)), (2, .int vx), (3, .int vy)]) hx hb dL_isStep_450 hl (by decide) rfl (fun ls hl => ?_)
            refine lv_iload hx hb dL_isStep_452 (lv_at hl 3 rfl) ?_
            refine lv_if_ge (tgt := 478) hx hb dL_isStep_454 (by decide) (fun c454_50 => ?_) (fun c454_50 => ?_)
            · refine lv_iload hx hb dL_isStep_478 (lv_at hl 0 rfl) ?_
              refine lv_iload hx hb dL_isStep_480 (lv_at hl 1 rfl) ?_
              refine r_ci w (r_runS (As := [.int (an_move S bl cl)]) (rest := [.int (an_move T bl (fL_there cl))]) X w (kL_there l E (an_move S bl cl) ) ck_L_31 ⟨Nat.le_of_ble_eq_true rfl, Nat.le_of_ble_eq_true rfl⟩ [] rfl (by decide +kernel) hl.1 (Nat.le_of_ble_eq_true rfl) rfl dL_isStep_482 ⟨Nat.le_of_ble_eq_true rfl, Nat.le_of_ble_eq_true rfl⟩) (wOb E A (ob_move S bl cl) ++ wOb E B (ob_move T bl (fL_there cl))) [] rfl (by decide +kernel) rfl rfl (fun H locs w => ?_)
              refine lv_icmp_ne (tgt := 511) hx hb dL_isStep_485 (by decide) (fun h => absurd (e3 (nlt_ge c454_50)).1 h) (fun _ => ?_)
              refine lv_iload hx hb dL_isStep_488 (lv_at hl 1 rfl) ?_
              refine lv_bipush (v := (-4)) hx hb dL_isStep_490 (by decide) ?_
              refine lv_icmp_eq (tgt := 507) hx hb dL_isStep_492 (by decide) (fun c492_52 => ?_) (fun c492_52 => ?_)
              · refine lv_iconst (v := 1) hx hb dL_isStep_507 (by decide) ?_
                refine lv_goto (tgt := 512) hx hb dL_isStep_508 (by decide) ?_
                exact r_eret X w hr (Or.inr rfl) ⟨rfl, _, _, _, ⟨gG_up hg.1, hg.2⟩, rfl⟩ (haR_4 (E := E)) dL_isStep_512
              · refine lv_aload_n hx hb dL_isStep_495 rfl (lv_at hl 6 rfl) ?_
                refine lv_iload hx hb dL_isStep_496 (lv_at hl 4 rfl) ?_
                refine lv_iconst (v := 0) hx hb dL_isStep_498 (by decide) ?_
                refine r_ci w (r_runV (As := [.int bl, .int 0]) (rest := []) X w (q_ball l E A (ob_move S bl cl) bl 0 ) ck_L_25 ⟨Nat.le_of_ble_eq_true rfl, Nat.le_of_ble_eq_true rfl⟩ isA (hcR_2 (E := E)) nd_A (k0 := 0) CL6 rfl hl.1 (Nat.le_of_ble_eq_true rfl) rfl dL_isStep_499 ⟨Nat.le_of_ble_eq_true rfl, Nat.le_of_ble_eq_true rfl⟩) (wOb E A (ob_move S bl cl) ++ wOb E B (ob_move T bl (fL_there cl))) isA (hcR_2 (E := E)) nd_A (haR_2 (E := E)) (hwR_2 (E := E)) (fun H locs w => ?_)
                refine lv_iload hx hb dL_isStep_502 (lv_at hl 2 rfl) ?_
                refine lv_icmp_ne (tgt := 511) hx hb dL_isStep_504 (by decide) (fun h => absurd ((e3 (nlt_ge c454_50)).2.resolve_left c492_52) h) (fun _ => ?_)
                refine lv_iconst (v := 1) hx hb dL_isStep_507 (by decide) ?_
                refine lv_goto (tgt := 512) hx hb dL_isStep_508 (by decide) ?_
                exact r_eret X w hr (Or.inr rfl) ⟨rfl, _, _, _, ⟨gG_up hg.1, hg.2⟩, rfl⟩ (haR_4 (E := E)) dL_isStep_512
            · refine lv_iload hx hb dL_isStep_457 (lv_at hl 1 rfl) ?_
              refine lv_iconst (v := (-1)) hx hb dL_isStep_459 (by decide) ?_
              refine lv_icmp_ne (tgt := 474) hx hb dL_isStep_460 (by decide) (fun h => absurd (e2 (lt_nge c454_50)).1 h) (fun _ => ?_)
              refine lv_iload hx hb dL_isStep_463 (lv_at hl 0 rfl) ?_
              refine lv_iload hx hb dL_isStep_465 (lv_at hl 1 rfl) ?_
              refine lv_icmp_ne (tgt := 474) hx hb dL_isStep_467 (by decide) (fun h => absurd (e2 (lt_nge c454_50)).2 h) (fun _ => ?_)
              refine lv_iconst (v := 1) hx hb dL_isStep_470 (by decide) ?_
              refine lv_goto (tgt := 512) hx hb dL_isStep_471 (by decide) ?_
              exact r_eret X w hr (Or.inr rfl) ⟨rfl, _, _, _, ⟨gG_up hg.1, hg.2⟩, rfl⟩ (haR_4 (E := E)) dL_isStep_512
          · by_cases c34_56 : (fL_up vx 13) = 5
            · refine lv_tableIn (off := 479) (tgt := 513) hx hb dL_isStep_34 (by rw [c34_56]; decide) (by rw [c34_56]; decide) (by rw [c34_56]; rfl) (by decide) ?_
              refine lv_iload_n hx hb dL_isStep_513 rfl (lv_at hl 6 rfl) ?_
              refine lv_iconst (v := 4) hx hb dL_isStep_514 (by decide) ?_
              refine r_ci w (r_runS (As := [.int vy, .int 4]) (rest := []) X w (kL_up l E vy 4 (by decide)) ck_L_19 ⟨Nat.le_of_ble_eq_true rfl, Nat.le_of_ble_eq_true rfl⟩ [] rfl (by decide +kernel) hl.1 (Nat.le_of_ble_eq_true rfl) rfl dL_isStep_515 ⟨Nat.le_of_ble_eq_true rfl, Nat.le_of_ble_eq_true rfl⟩) (wOb E A S ++ wOb E B T) [] rfl (by decide +kernel) rfl rfl (fun H locs w => ?_)
              refine lv_if_le (tgt := 523) hx hb dL_isStep_518 (by decide) (fun c518_57 => ?_) (fun c518_57 => ?_)
              · obtain ⟨g, hg, e1, e2, e3⟩ := s_take (b := bl) hI
                refine lv_aload_n hx hb dL_isStep_523 rfl (lv_at hl 3 rfl) ?_
                refine lv_iload hx hb dL_isStep_524 (lv_at hl 1 rfl) ?_
                refine r_ci w (r_runV (As := [.int bl]) (rest := []) X w (q_takeOff l E A S bl ) ck_L_51 ⟨Nat.le_of_ble_eq_true rfl, Nat.le_of_ble_eq_true rfl⟩ isA (hcR_2 (E := E)) nd_A (k0 := 0) CL6 rfl hl.1 (Nat.le_of_ble_eq_true rfl) rfl dL_isStep_526 ⟨Nat.le_of_ble_eq_true rfl, Nat.le_of_ble_eq_true rfl⟩) (wOb E A (ob_takeOff S bl) ++ wOb E B T) isA (hcR_2 (E := E)) nd_A (haR_2 (E := E)) (hwR_2 (E := E)) (fun H locs w => ?_)
                refine lv_iload hx hb dL_isStep_529 (lv_at hl 0 rfl) ?_
                refine lv_icmp_ne (tgt := 563) hx hb dL_isStep_531 (by decide) (fun h => absurd e1 h) (fun _ => ?_)
                refine lv_aload_n hx hb dL_isStep_534 rfl (lv_at hl 4 rfl) ?_
                refine lv_iload hx hb dL_isStep_535 (lv_at hl 1 rfl) ?_
                refine r_ci w (r_runV (As := [.int bl]) (rest := []) X w (q_takeOff l E B T bl ) ck_L_51 ⟨Nat.le_of_ble_eq_true rfl, Nat.le_of_ble_eq_true rfl⟩ isB (hcR_3 (E := E)) nd_B (k0 := 0) CL6 rfl hl.1 (Nat.le_of_ble_eq_true rfl) rfl dL_isStep_537 ⟨Nat.le_of_ble_eq_true rfl, Nat.le_of_ble_eq_true rfl⟩) (wOb E A (ob_takeOff S bl) ++ wOb E B (ob_takeOff T bl)) isB (hcR_3 (E := E)) nd_B (haR_3 (E := E)) (hwR_3 (E := E)) (fun H locs w => ?_)
                refine lv_iload hx hb dL_isStep_540 (lv_at hl 0 rfl) ?_
                refine r_ci w (r_runS (As := [.int (an_ball S bl 0)]) (rest := [.int (an_takeOff T bl)]) X w (kL_there l E (an_ball S bl 0) ) ck_L_31 ⟨Nat.le_of_ble_eq_true rfl, Nat.le_of_ble_eq_true rfl⟩ [] rfl (by decide +kernel) hl.1 (Nat.le_of_ble_eq_true rfl) rfl dL_isStep_542 ⟨Nat.le_of_ble_eq_true rfl, Nat.le_of_ble_eq_true rfl⟩) (wOb E A (ob_takeOff S bl) ++ wOb E B (ob_takeOff T bl)) [] rfl (by decide +kernel) rfl rfl (fun H locs w => ?_)
                refine lv_icmp_ne (tgt := 563) hx hb dL_isStep_545 (by decide) (fun h => absurd e2 h) (fun _ => ?_)
                refine lv_aload_n hx hb dL_isStep_548 rfl (lv_at hl 3 rfl) ?_
                refine lv_iload hx hb dL_isStep_549 (lv_at hl 1 rfl) ?_
                refine lv_iconst (v := 0) hx hb dL_isStep_551 (by decide) ?_
                refine r_ci w (r_runV (As := [.int bl, .int 0]) (rest := []) X w (q_ball l E A (ob_takeOff S bl) bl 0 ) ck_L_25 ⟨Nat.le_of_ble_eq_true rfl, Nat.le_of_ble_eq_true rfl⟩ isA (hcR_2 (E := E)) nd_A (k0 := 0) CL6 rfl hl.1 (Nat.le_of_ble_eq_true rfl) rfl dL_isStep_552 ⟨Nat.le_of_ble_eq_true rfl, Nat.le_of_ble_eq_true rfl⟩) (wOb E A (ob_takeOff S bl) ++ wOb E B (ob_takeOff T bl)) isA (hcR_2 (E := E)) nd_A (haR_2 (E := E)) (hwR_2 (E := E)) (fun H locs w => ?_)
                refine lv_iconst (v := (-1)) hx hb dL_isStep_555 (by decide) ?_
                refine lv_icmp_ne (tgt := 563) hx hb dL_isStep_556 (by decide) (fun h => absurd e3 h) (fun _ => ?_)
                refine lv_iconst (v := 1) hx hb dL_isStep_559 (by decide) ?_
                refine lv_goto (tgt := 564) hx hb dL_isStep_560 (by decide) ?_
                exact r_eret X w hr (Or.inr rfl) ⟨rfl, _, _, _, ⟨gG_up hg.1, hg.2⟩, rfl⟩ (haR_4 (E := E)) dL_isStep_564
              · refine lv_iconst (v := 1) hx hb dL_isStep_521 (by decide) ?_
                exact r_eret X w hr (Or.inr rfl) ⟨rfl, _, _, _, ⟨gG_up hI.1, hI.2⟩, rfl⟩ (haR_4 (E := E)) dL_isStep_522
            · by_cases c34_61 : (fL_up vx 13) = 6
              · refine lv_tableIn (off := 531) (tgt := 565) hx hb dL_isStep_34 (by rw [c34_61]; decide) (by rw [c34_61]; decide) (by rw [c34_61]; rfl) (by decide) ?_
                refine lv_iload_n hx hb dL_isStep_565 rfl (lv_at hl 6 rfl) ?_
                refine lv_bipush (v := 64) hx hb dL_isStep_566 (by decide) ?_
                refine r_ci w (r_runS (As := [.int vy, .int 64]) (rest := []) X w (kL_up l E vy 64 (by decide)) ck_L_19 ⟨Nat.le_of_ble_eq_true rfl, Nat.le_of_ble_eq_true rfl⟩ [] rfl (by decide +kernel) hl.1 (Nat.le_of_ble_eq_true rfl) rfl dL_isStep_568 ⟨Nat.le_of_ble_eq_true rfl, Nat.le_of_ble_eq_true rfl⟩) (wOb E A S ++ wOb E B T) [] rfl (by decide +kernel) rfl rfl (fun H locs w => ?_)
                refine lv_istore (lv' := [(7, .int (fL_up vy 64)), (6, .int (an_ball S bl 0)), (5, .int bl), (4, .int vz), (0, .ref (adH A)), (1, .ref (adH B)), (2, .int vx), (3, .int vy)]) hx hb dL_isStep_571 hl (by decide) rfl (fun ls hl => ?_)
                obtain ⟨op, hop, eo⟩ : ∃ q, vp_in q 64 ∧ fL_up vy 64 = q := ⟨_, up_in rfl (by decide), rfl⟩
                rw [eo] at hl
                obtain ⟨g, hg, e1, e2, e3⟩ := s_pots hI hop
                refine lv_aload_n hx hb dL_isStep_573 rfl (lv_at hl 4 rfl) ?_
                refine lv_iload hx hb dL_isStep_574 (lv_at hl 0 rfl) ?_
                refine r_ci w (r_runV (As := [.int op]) (rest := []) X w (q_setPots l E A S op ) ck_L_54 ⟨Nat.le_of_ble_eq_true rfl, Nat.le_of_ble_eq_true rfl⟩ isA (hcR_2 (E := E)) nd_A (k0 := 0) CL6 rfl hl.1 (Nat.le_of_ble_eq_true rfl) rfl dL_isStep_576 ⟨Nat.le_of_ble_eq_true rfl, Nat.le_of_ble_eq_true rfl⟩) (wOb E A (ob_setPots S op) ++ wOb E B T) isA (hcR_2 (E := E)) nd_A (haR_2 (E := E)) (hwR_2 (E := E)) (fun H locs w => ?_)
                refine lv_istore (lv' := [(8, .int (an_setPots S op)), (7, .int op), (6, .int (an_ball S bl 0)), (5, .int bl), (4, .int vz), (0, .ref (adH A)), (1, .ref (adH B)), (2, .int vx), (3, .int vy)]) hx hb dL_isStep_579 hl (by decide) rfl (fun ls hl => ?_)
                refine lv_aload_n hx hb dL_isStep_581 rfl (lv_at hl 6 rfl) ?_
                refine lv_iload hx hb dL_isStep_582 (lv_at hl 1 rfl) ?_
                refine r_ci w (r_runS (As := [.int op]) (rest := [.ref (adH B)]) X w (kL_pots l E op ) ck_L_57 ⟨Nat.le_of_ble_eq_true rfl, Nat.le_of_ble_eq_true rfl⟩ [] rfl (by decide +kernel) hl.1 (Nat.le_of_ble_eq_true rfl) rfl dL_isStep_584 ⟨Nat.le_of_ble_eq_true rfl, Nat.le_of_ble_eq_true rfl⟩) (wOb E A (ob_setPots S op) ++ wOb E B T) [] rfl (by decide +kernel) rfl rfl (fun H locs w => ?_)
                refine r_ci w (r_runV (As := [.int (fL_pots op)]) (rest := []) X w (q_setPots l E B T (fL_pots op) ) ck_L_54 ⟨Nat.le_of_ble_eq_true rfl, Nat.le_of_ble_eq_true rfl⟩ isB (hcR_3 (E := E)) nd_B (k0 := 0) CL6 rfl hl.1 (Nat.le_of_ble_eq_true rfl) rfl dL_isStep_587 ⟨Nat.le_of_ble_eq_true rfl, Nat.le_of_ble_eq_true rfl⟩) (wOb E A (ob_setPots S op) ++ wOb E B (ob_setPots T (fL_pots op))) isB (hcR_3 (E := E)) nd_B (haR_3 (E := E)) (hwR_3 (E := E)) (fun H locs w => ?_)
                refine lv_istore (lv' := [(9, .int (an_setPots T (fL_pots op))), (8, .int (an_setPots S op)), (7, .int op), (6, .int (an_ball S bl 0)), (5, .int bl), (4, .int vz), (0, .ref (adH A)), (1, .ref (adH B)), (2, .int vx), (3, .int vy)]) hx hb dL_isStep_590 hl (by decide) rfl (fun ls hl => ?_)
                refine lv_iload hx hb dL_isStep_592 (lv_at hl 1 rfl) ?_
                refine lv_if_ge (tgt := 607) hx hb dL_isStep_594 (by decide) (fun c594_62 => ?_) (fun c594_62 => ?_)
                · refine lv_iload hx hb dL_isStep_607 (lv_at hl 0 rfl) ?_
                  refine lv_iload hx hb dL_isStep_609 (lv_at hl 1 rfl) ?_
                  refine r_ci w (r_runS (As := [.int (an_setPots S op)]) (rest := [.int (an_setPots T (fL_pots op))]) X w (kL_pots l E (an_setPots S op) ) ck_L_57 ⟨Nat.le_of_ble_eq_true rfl, Nat.le_of_ble_eq_true rfl⟩ [] rfl (by decide +kernel) hl.1 (Nat.le_of_ble_eq_true rfl) rfl dL_isStep_611 ⟨Nat.le_of_ble_eq_true rfl, Nat.le_of_ble_eq_true rfl⟩) (wOb E A (ob_setPots S op) ++ wOb E B (ob_setPots T (fL_pots op))) [] rfl (by decide +kernel) rfl rfl (fun H locs w => ?_)
                  refine lv_icmp_ne (tgt := 632) hx hb dL_isStep_614 (by decide) (fun h => absurd (e2 (nlt_ge c594_62)) h) (fun _ => ?_)
                  refine lv_aload_n hx hb dL_isStep_617 rfl (lv_at hl 6 rfl) ?_
                  refine lv_bipush (v := 10) hx hb dL_isStep_618 (by decide) ?_
                  refine r_ci w (r_runV (As := [.int 10]) (rest := []) X w (q_count l E A (ob_setPots S op) 10 ) ck_L_15 ⟨Nat.le_of_ble_eq_true rfl, Nat.le_of_ble_eq_true rfl⟩ isA (hcR_2 (E := E)) nd_A (k0 := 0) CL6 rfl hl.1 (Nat.le_of_ble_eq_true rfl) rfl dL_isStep_620 ⟨Nat.le_of_ble_eq_true rfl, Nat.le_of_ble_eq_true rfl⟩) (wOb E A (ob_setPots S op) ++ wOb E B (ob_setPots T (fL_pots op))) isA (hcR_2 (E := E)) nd_A (haR_2 (E := E)) (hwR_2 (E := E)) (fun H locs w => ?_)
                  refine lv_iload hx hb dL_isStep_623 (lv_at hl 2 rfl) ?_
                  refine lv_icmp_ne (tgt := 632) hx hb dL_isStep_625 (by decide) (fun h => absurd e3 h) (fun _ => ?_)
                  refine lv_iconst (v := 1) hx hb dL_isStep_628 (by decide) ?_
                  refine lv_goto (tgt := 633) hx hb dL_isStep_629 (by decide) ?_
                  exact r_eret X w hr (Or.inr rfl) ⟨rfl, _, _, _, ⟨gG_up hg.1, hg.2⟩, rfl⟩ (haR_4 (E := E)) dL_isStep_633
                · refine lv_iload hx hb dL_isStep_597 (lv_at hl 0 rfl) ?_
                  refine lv_iload hx hb dL_isStep_599 (lv_at hl 1 rfl) ?_
                  refine lv_icmp_ne (tgt := 632) hx hb dL_isStep_601 (by decide) (fun h => absurd (e1 (lt_nge c594_62)) h) (fun _ => ?_)
                  refine lv_goto (tgt := 617) hx hb dL_isStep_604 (by decide) ?_
                  refine lv_aload_n hx hb dL_isStep_617 rfl (lv_at hl 6 rfl) ?_
                  refine lv_bipush (v := 10) hx hb dL_isStep_618 (by decide) ?_
                  refine r_ci w (r_runV (As := [.int 10]) (rest := []) X w (q_count l E A (ob_setPots S op) 10 ) ck_L_15 ⟨Nat.le_of_ble_eq_true rfl, Nat.le_of_ble_eq_true rfl⟩ isA (hcR_2 (E := E)) nd_A (k0 := 0) CL6 rfl hl.1 (Nat.le_of_ble_eq_true rfl) rfl dL_isStep_620 ⟨Nat.le_of_ble_eq_true rfl, Nat.le_of_ble_eq_true rfl⟩) (wOb E A (ob_setPots S op) ++ wOb E B (ob_setPots T (fL_pots op))) isA (hcR_2 (E := E)) nd_A (haR_2 (E := E)) (hwR_2 (E := E)) (fun H locs w => ?_)
                  refine lv_iload hx hb dL_isStep_623 (lv_at hl 2 rfl) ?_
                  refine lv_icmp_ne (tgt := 632) hx hb dL_isStep_625 (by decide) (fun h => absurd e3 h) (fun _ => ?_)
                  refine lv_iconst (v := 1) hx hb dL_isStep_628 (by decide) ?_
                  refine lv_goto (tgt := 633) hx hb dL_isStep_629 (by decide) ?_
                  exact r_eret X w hr (Or.inr rfl) ⟨rfl, _, _, _, ⟨gG_up hg.1, hg.2⟩, rfl⟩ (haR_4 (E := E)) dL_isStep_633
              · by_cases c34_67 : (fL_up vx 13) = 7
                · refine lv_tableIn (off := 600) (tgt := 634) hx hb dL_isStep_34 (by rw [c34_67]; decide) (by rw [c34_67]; decide) (by rw [c34_67]; rfl) (by decide) ?_
                  refine lv_iload hx hb dL_isStep_634 (lv_at hl 2 rfl) ?_
                  refine lv_iconst (v := 3) hx hb dL_isStep_636 (by decide) ?_
                  refine r_ci w (r_runS (As := [.int vz, .int 3]) (rest := []) X w (kL_up l E vz 3 (by decide)) ck_L_19 ⟨Nat.le_of_ble_eq_true rfl, Nat.le_of_ble_eq_true rfl⟩ [] rfl (by decide +kernel) hl.1 (Nat.le_of_ble_eq_true rfl) rfl dL_isStep_637 ⟨Nat.le_of_ble_eq_true rfl, Nat.le_of_ble_eq_true rfl⟩) (wOb E A S ++ wOb E B T) [] rfl (by decide +kernel) rfl rfl (fun H locs w => ?_)
                  refine lv_istore (lv' := [(7, .int (fL_up vz 3)), (6, .int (an_ball S bl 0)), (5, .int bl), (4, .int vz), (0, .ref (adH A)), (1, .ref (adH B)), (2, .int vx), (3, .int vy)]) hx hb dL_isStep_640 hl (by decide) rfl (fun ls hl => ?_)
                  obtain ⟨wh, hwh, ew⟩ : ∃ q, vp_in q 3 ∧ fL_up vz 3 = q := ⟨_, up_in rfl (by decide), rfl⟩
                  rw [ew] at hl
                  refine lv_bipush (v := 50) hx hb dL_isStep_642 (by decide) ?_
                  refine lv_iload_n hx hb dL_isStep_644 rfl (lv_at hl 7 rfl) ?_
                  refine lv_iload hx hb dL_isStep_645 (lv_at hl 0 rfl) ?_
                  refine lv_iconst (v := 1) hx hb dL_isStep_647 (by decide) ?_
                  refine lv_icmp_ne (tgt := 656) hx hb dL_isStep_648 (by decide) (fun c648_68 => ?_) (fun c648_68 => ?_)
                  · refine lv_bipush (v := 50) hx hb dL_isStep_656 (by decide) ?_
                    refine r_ci w (r_runS (As := [.int vy, .int 50]) (rest := [.int 50]) X w (kL_up l E vy 50 (by decide)) ck_L_19 ⟨Nat.le_of_ble_eq_true rfl, Nat.le_of_ble_eq_true rfl⟩ [] rfl (by decide +kernel) hl.1 (Nat.le_of_ble_eq_true rfl) rfl dL_isStep_658 ⟨Nat.le_of_ble_eq_true rfl, Nat.le_of_ble_eq_true rfl⟩) (wOb E A S ++ wOb E B T) [] rfl (by decide +kernel) rfl rfl (fun H locs w => ?_)
                    refine lv_iadd hx hb dL_isStep_661 ?_
                    refine lv_istore (lv' := [(8, .int (50 + (fL_up vy 50))), (7, .int wh), (6, .int (an_ball S bl 0)), (5, .int bl), (4, .int vz), (0, .ref (adH A)), (1, .ref (adH B)), (2, .int vx), (3, .int vy)]) hx hb dL_isStep_662 hl (by decide) rfl (fun ls hl => ?_)
                    obtain ⟨vl, hvl, evl⟩ : ∃ q : Int32, (50 ≤ q.toInt ∧ q.toInt ≤ 100 ∧ (¬ wh = 1 → q.toInt ≤ 99)) ∧ 50 + fL_up vy 50 = q := ⟨_, by have h9 := add_in (u := fL_up vy 50) (a := 50) (k := 50) rfl (up_in (N := 50) rfl (by decide)) (by decide); exact ⟨by omega, by omega, fun _ => by omega⟩, rfl⟩
                    rw [evl] at hl
                    obtain ⟨g, hg, e1, e2⟩ := s_set hI hwh hvl
                    refine lv_aload_n hx hb dL_isStep_664 rfl (lv_at hl 5 rfl) ?_
                    refine lv_iload hx hb dL_isStep_665 (lv_at hl 1 rfl) ?_
                    refine lv_iload hx hb dL_isStep_667 (lv_at hl 0 rfl) ?_
                    refine r_ci w (r_runV (As := [.int wh, .int vl]) (rest := []) X w (q_set l E A S wh vl ) ck_L_60 ⟨Nat.le_of_ble_eq_true rfl, Nat.le_of_ble_eq_true rfl⟩ isA (hcR_2 (E := E)) nd_A (k0 := 0) CL6 rfl hl.1 (Nat.le_of_ble_eq_true rfl) rfl dL_isStep_669 ⟨Nat.le_of_ble_eq_true rfl, Nat.le_of_ble_eq_true rfl⟩) (wOb E A (ob_set S wh vl) ++ wOb E B T) isA (hcR_2 (E := E)) nd_A (haR_2 (E := E)) (hwR_2 (E := E)) (fun H locs w => ?_)
                    refine lv_aload_n hx hb dL_isStep_672 rfl (lv_at hl 6 rfl) ?_
                    refine lv_iload hx hb dL_isStep_673 (lv_at hl 1 rfl) ?_
                    refine lv_iload hx hb dL_isStep_675 (lv_at hl 0 rfl) ?_
                    refine r_ci w (r_runV (As := [.int wh, .int vl]) (rest := [.int (an_set S wh vl)]) X w (q_set l E B T wh vl ) ck_L_60 ⟨Nat.le_of_ble_eq_true rfl, Nat.le_of_ble_eq_true rfl⟩ isB (hcR_3 (E := E)) nd_B (k0 := 0) CL6 rfl hl.1 (Nat.le_of_ble_eq_true rfl) rfl dL_isStep_677 ⟨Nat.le_of_ble_eq_true rfl, Nat.le_of_ble_eq_true rfl⟩) (wOb E A (ob_set S wh vl) ++ wOb E B (ob_set T wh vl)) isB (hcR_3 (E := E)) nd_B (haR_3 (E := E)) (hwR_3 (E := E)) (fun H locs w => ?_)
                    refine lv_icmp_ne (tgt := 701) hx hb dL_isStep_680 (by decide) (fun h => absurd e1 h) (fun _ => ?_)
                    refine lv_aload_n hx hb dL_isStep_683 rfl (lv_at hl 5 rfl) ?_
                    refine lv_bipush (v := 11) hx hb dL_isStep_684 (by decide) ?_
                    refine lv_iload hx hb dL_isStep_686 (lv_at hl 1 rfl) ?_
                    refine lv_iadd hx hb dL_isStep_688 ?_
                    refine r_ci w (r_runV (As := [.int (11 + wh)]) (rest := []) X w (q_count l E A (ob_set S wh vl) (11 + wh) ) ck_L_15 ⟨Nat.le_of_ble_eq_true rfl, Nat.le_of_ble_eq_true rfl⟩ isA (hcR_2 (E := E)) nd_A (k0 := 0) CL6 rfl hl.1 (Nat.le_of_ble_eq_true rfl) rfl dL_isStep_689 ⟨Nat.le_of_ble_eq_true rfl, Nat.le_of_ble_eq_true rfl⟩) (wOb E A (ob_set S wh vl) ++ wOb E B (ob_set T wh vl)) isA (hcR_2 (E := E)) nd_A (haR_2 (E := E)) (hwR_2 (E := E)) (fun H locs w => ?_)
                    refine lv_iload hx hb dL_isStep_692 (lv_at hl 0 rfl) ?_
                    refine lv_icmp_ne (tgt := 701) hx hb dL_isStep_694 (by decide) (fun h => absurd e2 h) (fun _ => ?_)
                    refine lv_iconst (v := 1) hx hb dL_isStep_697 (by decide) ?_
                    refine lv_goto (tgt := 702) hx hb dL_isStep_698 (by decide) ?_
                    exact r_eret X w hr (Or.inr rfl) ⟨rfl, _, _, _, ⟨gG_up hg.1, hg.2⟩, rfl⟩ (haR_4 (E := E)) dL_isStep_702
                  · refine lv_bipush (v := 51) hx hb dL_isStep_651 (by decide) ?_
                    refine lv_goto (tgt := 658) hx hb dL_isStep_653 (by decide) ?_
                    refine r_ci w (r_runS (As := [.int vy, .int 51]) (rest := [.int 50]) X w (kL_up l E vy 51 (by decide)) ck_L_19 ⟨Nat.le_of_ble_eq_true rfl, Nat.le_of_ble_eq_true rfl⟩ [] rfl (by decide +kernel) hl.1 (Nat.le_of_ble_eq_true rfl) rfl dL_isStep_658 ⟨Nat.le_of_ble_eq_true rfl, Nat.le_of_ble_eq_true rfl⟩) (wOb E A S ++ wOb E B T) [] rfl (by decide +kernel) rfl rfl (fun H locs w => ?_)
                    refine lv_iadd hx hb dL_isStep_661 ?_
                    refine lv_istore (lv' := [(8, .int (50 + (fL_up vy 51))), (7, .int wh), (6, .int (an_ball S bl 0)), (5, .int bl), (4, .int vz), (0, .ref (adH A)), (1, .ref (adH B)), (2, .int vx), (3, .int vy)]) hx hb dL_isStep_662 hl (by decide) rfl (fun ls hl => ?_)
                    obtain ⟨vl, hvl, evl⟩ : ∃ q : Int32, (50 ≤ q.toInt ∧ q.toInt ≤ 100 ∧ (¬ wh = 1 → q.toInt ≤ 99)) ∧ 50 + fL_up vy 51 = q := ⟨_, by have h9 := add_in (u := fL_up vy 51) (a := 50) (k := 50) rfl (up_in (N := 51) rfl (by decide)) (by decide); exact ⟨by omega, by omega, fun q => absurd c648_68 q⟩, rfl⟩
                    rw [evl] at hl
                    obtain ⟨g, hg, e1, e2⟩ := s_set hI hwh hvl
                    refine lv_aload_n hx hb dL_isStep_664 rfl (lv_at hl 5 rfl) ?_
                    refine lv_iload hx hb dL_isStep_665 (lv_at hl 1 rfl) ?_
                    refine lv_iload hx hb dL_isStep_667 (lv_at hl 0 rfl) ?_
                    refine r_ci w (r_runV (As := [.int wh, .int vl]) (rest := []) X w (q_set l E A S wh vl ) ck_L_60 ⟨Nat.le_of_ble_eq_true rfl, Nat.le_of_ble_eq_true rfl⟩ isA (hcR_2 (E := E)) nd_A (k0 := 0) CL6 rfl hl.1 (Nat.le_of_ble_eq_true rfl) rfl dL_isStep_669 ⟨Nat.le_of_ble_eq_true rfl, Nat.le_of_ble_eq_true rfl⟩) (wOb E A (ob_set S wh vl) ++ wOb E B T) isA (hcR_2 (E := E)) nd_A (haR_2 (E := E)) (hwR_2 (E := E)) (fun H locs w => ?_)
                    refine lv_aload_n hx hb dL_isStep_672 rfl (lv_at hl 6 rfl) ?_
                    refine lv_iload hx hb dL_isStep_673 (lv_at hl 1 rfl) ?_
                    refine lv_iload hx hb dL_isStep_675 (lv_at hl 0 rfl) ?_
                    refine r_ci w (r_runV (As := [.int wh, .int vl]) (rest := [.int (an_set S wh vl)]) X w (q_set l E B T wh vl ) ck_L_60 ⟨Nat.le_of_ble_eq_true rfl, Nat.le_of_ble_eq_true rfl⟩ isB (hcR_3 (E := E)) nd_B (k0 := 0) CL6 rfl hl.1 (Nat.le_of_ble_eq_true rfl) rfl dL_isStep_677 ⟨Nat.le_of_ble_eq_true rfl, Nat.le_of_ble_eq_true rfl⟩) (wOb E A (ob_set S wh vl) ++ wOb E B (ob_set T wh vl)) isB (hcR_3 (E := E)) nd_B (haR_3 (E := E)) (hwR_3 (E := E)) (fun H locs w => ?_)
                    refine lv_icmp_ne (tgt := 701) hx hb dL_isStep_680 (by decide) (fun h => absurd e1 h) (fun _ => ?_)
                    refine lv_aload_n hx hb dL_isStep_683 rfl (lv_at hl 5 rfl) ?_
                    refine lv_bipush (v := 11) hx hb dL_isStep_684 (by decide) ?_
                    refine lv_iload hx hb dL_isStep_686 (lv_at hl 1 rfl) ?_
                    refine lv_iadd hx hb dL_isStep_688 ?_
                    refine r_ci w (r_runV (As := [.int (11 + wh)]) (rest := []) X w (q_count l E A (ob_set S wh vl) (11 + wh) ) ck_L_15 ⟨Nat.le_of_ble_eq_true rfl, Nat.le_of_ble_eq_true rfl⟩ isA (hcR_2 (E := E)) nd_A (k0 := 0) CL6 rfl hl.1 (Nat.le_of_ble_eq_true rfl) rfl dL_isStep_689 ⟨Nat.le_of_ble_eq_true rfl, Nat.le_of_ble_eq_true rfl⟩) (wOb E A (ob_set S wh vl) ++ wOb E B (ob_set T wh vl)) isA (hcR_2 (E := E)) nd_A (haR_2 (E := E)) (hwR_2 (E := E)) (fun H locs w => ?_)
                    refine lv_iload hx hb dL_isStep_692 (lv_at hl 0 rfl) ?_
                    refine lv_icmp_ne (tgt := 701) hx hb dL_isStep_694 (by decide) (fun h => absurd e2 h) (fun _ => ?_)
                    refine lv_iconst (v := 1) hx hb dL_isStep_697 (by decide) ?_
                    refine lv_goto (tgt := 702) hx hb dL_isStep_698 (by decide) ?_
                    exact r_eret X w hr (Or.inr rfl) ⟨rfl, _, _, _, ⟨gG_up hg.1, hg.2⟩, rfl⟩ (haR_4 (E := E)) dL_isStep_702
                · by_cases c34_73 : (fL_up vx 13) = 8
                  · refine lv_tableIn (off := 669) (tgt := 703) hx hb dL_isStep_34 (by rw [c34_73]; decide) (by rw [c34_73]; decide) (by rw [c34_73]; rfl) (by decide) ?_
                    refine lv_iload_n hx hb dL_isStep_703 rfl (lv_at hl 6 rfl) ?_
                    refine lv_iconst (v := 2) hx hb dL_isStep_704 (by decide) ?_
                    refine r_ci w (r_runS (As := [.int vy, .int 2]) (rest := []) X w (kL_up l E vy 2 (by decide)) ck_L_19 ⟨Nat.le_of_ble_eq_true rfl, Nat.le_of_ble_eq_true rfl⟩ [] rfl (by decide +kernel) hl.1 (Nat.le_of_ble_eq_true rfl) rfl dL_isStep_705 ⟨Nat.le_of_ble_eq_true rfl, Nat.le_of_ble_eq_true rfl⟩) (wOb E A S ++ wOb E B T) [] rfl (by decide +kernel) rfl rfl (fun H locs w => ?_)
                    refine lv_istore (lv' := [(7, .int (fL_up vy 2)), (6, .int (an_ball S bl 0)), (5, .int bl), (4, .int vz), (0, .ref (adH A)), (1, .ref (adH B)), (2, .int vx), (3, .int vy)]) hx hb dL_isStep_708 hl (by decide) rfl (fun ls hl => ?_)
                    obtain ⟨g, hg, e1⟩ := s_pass (b := fL_up vy 2) hI
                    refine lv_aload_n hx hb dL_isStep_710 rfl (lv_at hl 4 rfl) ?_
                    refine lv_iload hx hb dL_isStep_711 (lv_at hl 0 rfl) ?_
                    refine r_ci w (r_runV (As := [.int (fL_up vy 2)]) (rest := []) X w (q_pass l E A S (fL_up vy 2) ) ck_L_63 ⟨Nat.le_of_ble_eq_true rfl, Nat.le_of_ble_eq_true rfl⟩ isA (hcR_2 (E := E)) nd_A (k0 := 0) CL6 rfl hl.1 (Nat.le_of_ble_eq_true rfl) rfl dL_isStep_713 ⟨Nat.le_of_ble_eq_true rfl, Nat.le_of_ble_eq_true rfl⟩) (wOb E A (ob_pass S (fL_up vy 2)) ++ wOb E B T) isA (hcR_2 (E := E)) nd_A (haR_2 (E := E)) (hwR_2 (E := E)) (fun H locs w => ?_)
                    refine lv_aload_n hx hb dL_isStep_716 rfl (lv_at hl 5 rfl) ?_
                    refine lv_iload hx hb dL_isStep_717 (lv_at hl 0 rfl) ?_
                    refine r_ci w (r_runV (As := [.int (fL_up vy 2)]) (rest := [.int (an_pass S (fL_up vy 2))]) X w (q_pass l E B T (fL_up vy 2) ) ck_L_63 ⟨Nat.le_of_ble_eq_true rfl, Nat.le_of_ble_eq_true rfl⟩ isB (hcR_3 (E := E)) nd_B (k0 := 0) CL6 rfl hl.1 (Nat.le_of_ble_eq_true rfl) rfl dL_isStep_719 ⟨Nat.le_of_ble_eq_true rfl, Nat.le_of_ble_eq_true rfl⟩) (wOb E A (ob_pass S (fL_up vy 2)) ++ wOb E B (ob_pass T (fL_up vy 2))) isB (hcR_3 (E := E)) nd_B (haR_3 (E := E)) (hwR_3 (E := E)) (fun H locs w => ?_)
                    refine lv_icmp_ne (tgt := 729) hx hb dL_isStep_722 (by decide) (fun h => absurd e1 h) (fun _ => ?_)
                    refine lv_iconst (v := 1) hx hb dL_isStep_725 (by decide) ?_
                    refine lv_goto (tgt := 730) hx hb dL_isStep_726 (by decide) ?_
                    exact r_eret X w hr (Or.inr rfl) ⟨rfl, _, _, _, ⟨gG_up hg.1, hg.2⟩, rfl⟩ (haR_4 (E := E)) dL_isStep_730
                  · refine lv_tableOut (tgt := 731) hx hb dL_isStep_34 (tab_out_8 c34_1 c34_9 c34_17 c34_25 c34_49 c34_56 c34_61 c34_67 c34_73) (by decide) ?_
                    refine lv_aload_n hx hb dL_isStep_731 rfl (lv_at hl 3 rfl) ?_
                    refine lv_aload_n hx hb dL_isStep_732 rfl (lv_at hl 4 rfl) ?_
                    refine lv_iload hx hb dL_isStep_733 (lv_at hl 1 rfl) ?_
                    refine lv_iload hx hb dL_isStep_735 (lv_at hl 2 rfl) ?_
                    refine lv_iconst (v := 5) hx hb dL_isStep_737 (by decide) ?_
                    refine lv_ishr hx hb dL_isStep_738 ?_
                    refine lv_iload_n hx hb dL_isStep_739 rfl (lv_at hl 6 rfl) ?_
                    refine r_ce w (r_runS (As := [.ref (adH A), .ref (adH B), .int bl, .int (vz >>> (5 &&& 31)), .int vy]) (rest := []) X w (kL_isShot l E A B S T bl (vz >>> (5 &&& 31)) vy M f hI hM) ck_L_66 ⟨Nat.le_of_ble_eq_true rfl, Nat.le_of_ble_eq_true rfl⟩ isAB (hcR_4 (E := E)) nd_AB hl.1 (Nat.le_of_ble_eq_true rfl) rfl dL_isStep_740 ⟨Nat.le_of_ble_eq_true rfl, Nat.le_of_ble_eq_true rfl⟩) isAB (hcR_4 (E := E)) nd_AB (fun x2 w2 hK H locs w => ?_)
                    obtain ⟨rfl, f2, S2, T2, hB2, rfl⟩ := hK
                    rw [hwR_4] at w
                    exact r_eret X w hr (Or.inr rfl) ⟨rfl, _, _, _, hB2, rfl⟩ (haR_4 (E := E)) dL_isStep_743
