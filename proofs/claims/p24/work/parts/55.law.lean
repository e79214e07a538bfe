/-! p24: the law's isWell (printed by wip/p24/p55.py) -/
section
variable {S : So} {f : N1} {M : Nat} {sg sn : Int32}
theorem best_0 (hG : gG M f) (hM : M ≤ 100) (hS : SB f S) (hf : ¬ fX6_isForce sg sn = 0) : SB f (ob_best S sg sn 0) ∧ an_best S sg sn 0 = (bst f sg sn).2.1 := by
  obtain ⟨h1, h2⟩ := s_best hG hM hS hf (wt := 0) (vin_c rfl)
  rw [if_pos rfl] at h2
  exact ⟨h1, h2⟩
theorem best_1 (hG : gG M f) (hM : M ≤ 100) (hS : SB f S) (hf : ¬ fX6_isForce sg sn = 0) : SB f (ob_best S sg sn 1) ∧ an_best S sg sn 1 = (bst f sg sn).2.2 := by
  obtain ⟨h1, h2⟩ := s_best hG hM hS hf (wt := 1) (vin_c rfl)
  rw [if_neg (by decide), if_pos rfl] at h2
  exact ⟨h1, h2⟩
theorem best_2 (hG : gG M f) (hM : M ≤ 100) (hS : SB f S) (hf : ¬ fX6_isForce sg sn = 0) : SB f (ob_best S sg sn 2) ∧ an_best S sg sn 2 = (if (bst f sg sn).1 ≤ 0 then (-5) else (bst f sg sn).1) := by
  obtain ⟨h1, h2⟩ := s_best hG hM hS hf (wt := 2) (vin_c rfl)
  rw [if_neg (by decide), if_neg (by decide)] at h2
  exact ⟨h1, h2⟩
theorem ever_c (hG : gG M f) : (f 12).toNatClampNeg ≤ 12 ∧ f 12 = nI (f 12).toNatClampNeg := by
  obtain ⟨e, he, h⟩ := ever_n hG.1
  rw [h, nI_c (by omega)]
  exact ⟨he, rfl⟩
end
/-- one object behind a law's method -/
def NW (E : Ev) (A : Ad) (f : N1) : Int32 → va_W → Prop := fun r w' => r = 1 ∧ ∃ S, SB f S ∧ w' = wOb E A S
theorem dL_isWell_0 : decode cL_isWell 0 = .ok (.iconst 0, 1) := by decide +kernel
theorem dL_isWell_1 : decode cL_isWell 1 = .ok (.istore_n 2, 1) := by decide +kernel
theorem dL_isWell_2 : decode cL_isWell 2 = .ok (.iconst 0, 1) := by decide +kernel
theorem dL_isWell_3 : decode cL_isWell 3 = .ok (.istore_n 3, 1) := by decide +kernel
theorem dL_isWell_4 : decode cL_isWell 4 = .ok (.iconst 0, 1) := by decide +kernel
theorem dL_isWell_5 : decode cL_isWell 5 = .ok (.istore 4, 2) := by decide +kernel
theorem dL_isWell_7 : decode cL_isWell 7 = .ok (.iconst 1, 1) := by decide +kernel
theorem dL_isWell_8 : decode cL_isWell 8 = .ok (.istore 5, 2) := by decide +kernel
theorem dL_isWell_10 : decode cL_isWell 10 = .ok (.iconst 0, 1) := by decide +kernel
theorem dL_isWell_11 : decode cL_isWell 11 = .ok (.istore 6, 2) := by decide +kernel
theorem dL_isWell_13 : decode cL_isWell 13 = .ok (.iload 6, 2) := by decide +kernel
theorem dL_isWell_15 : decode cL_isWell 15 = .ok (.aload_n 0, 1) := by decide +kernel
theorem dL_isWell_16 : decode cL_isWell 16 = .ok (.iconst 1, 1) := by decide +kernel
theorem dL_isWell_17 : decode cL_isWell 17 = .ok (.invokevirtual 15, 3) := by decide +kernel
theorem dL_isWell_20 : decode cL_isWell 20 = .ok (.if_icmp .ge 144, 3) := by decide +kernel
theorem dL_isWell_23 : decode cL_isWell 23 = .ok (.aload_n 0, 1) := by decide +kernel
theorem dL_isWell_24 : decode cL_isWell 24 = .ok (.iload 6, 2) := by decide +kernel
theorem dL_isWell_26 : decode cL_isWell 26 = .ok (.iconst 0, 1) := by decide +kernel
theorem dL_isWell_27 : decode cL_isWell 27 = .ok (.invokevirtual 25, 3) := by decide +kernel
theorem dL_isWell_30 : decode cL_isWell 30 = .ok (.istore 7, 2) := by decide +kernel
theorem dL_isWell_32 : decode cL_isWell 32 = .ok (.iload_n 2, 1) := by decide +kernel
theorem dL_isWell_33 : decode cL_isWell 33 = .ok (.iload 7, 2) := by decide +kernel
theorem dL_isWell_35 : decode cL_isWell 35 = .ok (.ifCond .ge 7, 3) := by decide +kernel
theorem dL_isWell_38 : decode cL_isWell 38 = .ok (.iconst 0, 1) := by decide +kernel
theorem dL_isWell_39 : decode cL_isWell 39 = .ok (.goto 4, 3) := by decide +kernel
theorem dL_isWell_42 : decode cL_isWell 42 = .ok (.iconst 1, 1) := by decide +kernel
theorem dL_isWell_43 : decode cL_isWell 43 = .ok (.iadd, 1) := by decide +kernel
theorem dL_isWell_44 : decode cL_isWell 44 = .ok (.istore_n 2, 1) := by decide +kernel
theorem dL_isWell_45 : decode cL_isWell 45 = .ok (.iload_n 3, 1) := by decide +kernel
theorem dL_isWell_46 : decode cL_isWell 46 = .ok (.iload 7, 2) := by decide +kernel
theorem dL_isWell_48 : decode cL_isWell 48 = .ok (.ifCond .ge 7, 3) := by decide +kernel
theorem dL_isWell_51 : decode cL_isWell 51 = .ok (.iconst 0, 1) := by decide +kernel
theorem dL_isWell_52 : decode cL_isWell 52 = .ok (.goto 10, 3) := by decide +kernel
theorem dL_isWell_55 : decode cL_isWell 55 = .ok (.aload_n 0, 1) := by decide +kernel
theorem dL_isWell_56 : decode cL_isWell 56 = .ok (.iload 6, 2) := by decide +kernel
theorem dL_isWell_58 : decode cL_isWell 58 = .ok (.iconst 3, 1) := by decide +kernel
theorem dL_isWell_59 : decode cL_isWell 59 = .ok (.invokevirtual 25, 3) := by decide +kernel
theorem dL_isWell_62 : decode cL_isWell 62 = .ok (.iadd, 1) := by decide +kernel
theorem dL_isWell_63 : decode cL_isWell 63 = .ok (.istore_n 3, 1) := by decide +kernel
theorem dL_isWell_64 : decode cL_isWell 64 = .ok (.iload 4, 2) := by decide +kernel
theorem dL_isWell_66 : decode cL_isWell 66 = .ok (.iload 7, 2) := by decide +kernel
theorem dL_isWell_68 : decode cL_isWell 68 = .ok (.ifCond .ge 7, 3) := by decide +kernel
theorem dL_isWell_71 : decode cL_isWell 71 = .ok (.iconst 0, 1) := by decide +kernel
theorem dL_isWell_72 : decode cL_isWell 72 = .ok (.goto 10, 3) := by decide +kernel
theorem dL_isWell_75 : decode cL_isWell 75 = .ok (.aload_n 0, 1) := by decide +kernel
theorem dL_isWell_76 : decode cL_isWell 76 = .ok (.iload 6, 2) := by decide +kernel
theorem dL_isWell_78 : decode cL_isWell 78 = .ok (.iconst 4, 1) := by decide +kernel
theorem dL_isWell_79 : decode cL_isWell 79 = .ok (.invokevirtual 25, 3) := by decide +kernel
theorem dL_isWell_82 : decode cL_isWell 82 = .ok (.iadd, 1) := by decide +kernel
theorem dL_isWell_83 : decode cL_isWell 83 = .ok (.istore 4, 2) := by decide +kernel
theorem dL_isWell_85 : decode cL_isWell 85 = .ok (.iload 5, 2) := by decide +kernel
theorem dL_isWell_87 : decode cL_isWell 87 = .ok (.ifCond .eq 68, 3) := by decide +kernel
theorem dL_isWell_90 : decode cL_isWell 90 = .ok (.iload 7, 2) := by decide +kernel
theorem dL_isWell_92 : decode cL_isWell 92 = .ok (.ifCond .ge 24, 3) := by decide +kernel
theorem dL_isWell_95 : decode cL_isWell 95 = .ok (.iload 7, 2) := by decide +kernel
theorem dL_isWell_97 : decode cL_isWell 97 = .ok (.iconst (-1), 1) := by decide +kernel
theorem dL_isWell_98 : decode cL_isWell 98 = .ok (.if_icmp .ne 57, 3) := by decide +kernel
theorem dL_isWell_101 : decode cL_isWell 101 = .ok (.aload_n 0, 1) := by decide +kernel
theorem dL_isWell_102 : decode cL_isWell 102 = .ok (.iload 6, 2) := by decide +kernel
theorem dL_isWell_104 : decode cL_isWell 104 = .ok (.bipush 9, 2) := by decide +kernel
theorem dL_isWell_106 : decode cL_isWell 106 = .ok (.invokevirtual 25, 3) := by decide +kernel
theorem dL_isWell_109 : decode cL_isWell 109 = .ok (.iconst (-1), 1) := by decide +kernel
theorem dL_isWell_110 : decode cL_isWell 110 = .ok (.if_icmp .ne 45, 3) := by decide +kernel
theorem dL_isWell_113 : decode cL_isWell 113 = .ok (.goto 38, 3) := by decide +kernel
theorem dL_isWell_116 : decode cL_isWell 116 = .ok (.aload_n 0, 1) := by decide +kernel
theorem dL_isWell_117 : decode cL_isWell 117 = .ok (.iload 7, 2) := by decide +kernel
theorem dL_isWell_119 : decode cL_isWell 119 = .ok (.iconst 2, 1) := by decide +kernel
theorem dL_isWell_120 : decode cL_isWell 120 = .ok (.invokevirtual 34, 3) := by decide +kernel
theorem dL_isWell_123 : decode cL_isWell 123 = .ok (.iload 6, 2) := by decide +kernel
theorem dL_isWell_125 : decode cL_isWell 125 = .ok (.if_icmp .ne 30, 3) := by decide +kernel
theorem dL_isWell_128 : decode cL_isWell 128 = .ok (.aload_n 0, 1) := by decide +kernel
theorem dL_isWell_129 : decode cL_isWell 129 = .ok (.iload 6, 2) := by decide +kernel
theorem dL_isWell_131 : decode cL_isWell 131 = .ok (.iconst 1, 1) := by decide +kernel
theorem dL_isWell_132 : decode cL_isWell 132 = .ok (.invokevirtual 25, 3) := by decide +kernel
theorem dL_isWell_135 : decode cL_isWell 135 = .ok (.iconst 1, 1) := by decide +kernel
theorem dL_isWell_136 : decode cL_isWell 136 = .ok (.if_icmp .lt 19, 3) := by decide +kernel
theorem dL_isWell_139 : decode cL_isWell 139 = .ok (.aload_n 0, 1) := by decide +kernel
theorem dL_isWell_140 : decode cL_isWell 140 = .ok (.iload 6, 2) := by decide +kernel
theorem dL_isWell_142 : decode cL_isWell 142 = .ok (.iconst 1, 1) := by decide +kernel
theorem dL_isWell_143 : decode cL_isWell 143 = .ok (.invokevirtual 25, 3) := by decide +kernel
theorem dL_isWell_146 : decode cL_isWell 146 = .ok (.bipush 20, 2) := by decide +kernel
theorem dL_isWell_148 : decode cL_isWell 148 = .ok (.if_icmp .gt 7, 3) := by decide +kernel
theorem dL_isWell_151 : decode cL_isWell 151 = .ok (.iconst 1, 1) := by decide +kernel
theorem dL_isWell_152 : decode cL_isWell 152 = .ok (.goto 4, 3) := by decide +kernel
theorem dL_isWell_156 : decode cL_isWell 156 = .ok (.istore 5, 2) := by decide +kernel
theorem dL_isWell_158 : decode cL_isWell 158 = .ok (.iinc 6 1, 3) := by decide +kernel
theorem dL_isWell_161 : decode cL_isWell 161 = .ok (.goto (-148), 3) := by decide +kernel
theorem dL_isWell_164 : decode cL_isWell 164 = .ok (.iconst 0, 1) := by decide +kernel
theorem dL_isWell_165 : decode cL_isWell 165 = .ok (.istore 6, 2) := by decide +kernel
theorem dL_isWell_167 : decode cL_isWell 167 = .ok (.iconst 0, 1) := by decide +kernel
theorem dL_isWell_168 : decode cL_isWell 168 = .ok (.istore 7, 2) := by decide +kernel
theorem dL_isWell_170 : decode cL_isWell 170 = .ok (.iload 7, 2) := by decide +kernel
theorem dL_isWell_172 : decode cL_isWell 172 = .ok (.bipush 61, 2) := by decide +kernel
theorem dL_isWell_174 : decode cL_isWell 174 = .ok (.if_icmp .ge 152, 3) := by decide +kernel
theorem dL_isWell_177 : decode cL_isWell 177 = .ok (.aload_n 0, 1) := by decide +kernel
theorem dL_isWell_178 : decode cL_isWell 178 = .ok (.iload 7, 2) := by decide +kernel
theorem dL_isWell_180 : decode cL_isWell 180 = .ok (.iconst 0, 1) := by decide +kernel
theorem dL_isWell_181 : decode cL_isWell 181 = .ok (.invokevirtual 34, 3) := by decide +kernel
theorem dL_isWell_184 : decode cL_isWell 184 = .ok (.iconst 4, 1) := by decide +kernel
theorem dL_isWell_185 : decode cL_isWell 185 = .ok (.isub, 1) := by decide +kernel
theorem dL_isWell_186 : decode cL_isWell 186 = .ok (.istore 8, 2) := by decide +kernel
theorem dL_isWell_188 : decode cL_isWell 188 = .ok (.aload_n 0, 1) := by decide +kernel
theorem dL_isWell_189 : decode cL_isWell 189 = .ok (.iload 7, 2) := by decide +kernel
theorem dL_isWell_191 : decode cL_isWell 191 = .ok (.iconst 1, 1) := by decide +kernel
theorem dL_isWell_192 : decode cL_isWell 192 = .ok (.invokevirtual 34, 3) := by decide +kernel
theorem dL_isWell_195 : decode cL_isWell 195 = .ok (.iconst 4, 1) := by decide +kernel
theorem dL_isWell_196 : decode cL_isWell 196 = .ok (.isub, 1) := by decide +kernel
theorem dL_isWell_197 : decode cL_isWell 197 = .ok (.istore 9, 2) := by decide +kernel
theorem dL_isWell_199 : decode cL_isWell 199 = .ok (.aload_n 0, 1) := by decide +kernel
theorem dL_isWell_200 : decode cL_isWell 200 = .ok (.iload 7, 2) := by decide +kernel
theorem dL_isWell_202 : decode cL_isWell 202 = .ok (.iconst 3, 1) := by decide +kernel
theorem dL_isWell_203 : decode cL_isWell 203 = .ok (.invokevirtual 34, 3) := by decide +kernel
theorem dL_isWell_206 : decode cL_isWell 206 = .ok (.istore 10, 2) := by decide +kernel
theorem dL_isWell_208 : decode cL_isWell 208 = .ok (.iload 6, 2) := by decide +kernel
theorem dL_isWell_210 : decode cL_isWell 210 = .ok (.aload_n 0, 1) := by decide +kernel
theorem dL_isWell_211 : decode cL_isWell 211 = .ok (.iload 7, 2) := by decide +kernel
theorem dL_isWell_213 : decode cL_isWell 213 = .ok (.iconst 4, 1) := by decide +kernel
theorem dL_isWell_214 : decode cL_isWell 214 = .ok (.invokevirtual 34, 3) := by decide +kernel
theorem dL_isWell_217 : decode cL_isWell 217 = .ok (.iadd, 1) := by decide +kernel
theorem dL_isWell_218 : decode cL_isWell 218 = .ok (.istore 6, 2) := by decide +kernel
theorem dL_isWell_220 : decode cL_isWell 220 = .ok (.iload 5, 2) := by decide +kernel
theorem dL_isWell_222 : decode cL_isWell 222 = .ok (.ifCond .eq 95, 3) := by decide +kernel
theorem dL_isWell_225 : decode cL_isWell 225 = .ok (.aload_n 0, 1) := by decide +kernel
theorem dL_isWell_226 : decode cL_isWell 226 = .ok (.iload 8, 2) := by decide +kernel
theorem dL_isWell_228 : decode cL_isWell 228 = .ok (.iload 9, 2) := by decide +kernel
theorem dL_isWell_230 : decode cL_isWell 230 = .ok (.invokevirtual 88, 3) := by decide +kernel
theorem dL_isWell_233 : decode cL_isWell 233 = .ok (.iload 7, 2) := by decide +kernel
theorem dL_isWell_235 : decode cL_isWell 235 = .ok (.if_icmp .ne 82, 3) := by decide +kernel
theorem dL_isWell_238 : decode cL_isWell 238 = .ok (.iload 8, 2) := by decide +kernel
theorem dL_isWell_240 : decode cL_isWell 240 = .ok (.iload 9, 2) := by decide +kernel
theorem dL_isWell_242 : decode cL_isWell 242 = .ok (.iadd, 1) := by decide +kernel
theorem dL_isWell_243 : decode cL_isWell 243 = .ok (.iconst 5, 1) := by decide +kernel
theorem dL_isWell_244 : decode cL_isWell 244 = .ok (.if_icmp .ge 73, 3) := by decide +kernel
theorem dL_isWell_247 : decode cL_isWell 247 = .ok (.iload 8, 2) := by decide +kernel
theorem dL_isWell_249 : decode cL_isWell 249 = .ok (.iload 9, 2) := by decide +kernel
theorem dL_isWell_251 : decode cL_isWell 251 = .ok (.iadd, 1) := by decide +kernel
theorem dL_isWell_252 : decode cL_isWell 252 = .ok (.bipush (-5), 2) := by decide +kernel
theorem dL_isWell_254 : decode cL_isWell 254 = .ok (.if_icmp .le 63, 3) := by decide +kernel
theorem dL_isWell_257 : decode cL_isWell 257 = .ok (.iload 10, 2) := by decide +kernel
theorem dL_isWell_259 : decode cL_isWell 259 = .ok (.ifCond .lt 7, 3) := by decide +kernel
theorem dL_isWell_262 : decode cL_isWell 262 = .ok (.iconst 1, 1) := by decide +kernel
theorem dL_isWell_263 : decode cL_isWell 263 = .ok (.goto 4, 3) := by decide +kernel
theorem dL_isWell_266 : decode cL_isWell 266 = .ok (.iconst 0, 1) := by decide +kernel
theorem dL_isWell_267 : decode cL_isWell 267 = .ok (.aload_n 0, 1) := by decide +kernel
theorem dL_isWell_268 : decode cL_isWell 268 = .ok (.iload 7, 2) := by decide +kernel
theorem dL_isWell_270 : decode cL_isWell 270 = .ok (.iconst 4, 1) := by decide +kernel
theorem dL_isWell_271 : decode cL_isWell 271 = .ok (.invokevirtual 34, 3) := by decide +kernel
theorem dL_isWell_274 : decode cL_isWell 274 = .ok (.iconst 3, 1) := by decide +kernel
theorem dL_isWell_275 : decode cL_isWell 275 = .ok (.if_icmp .ne 7, 3) := by decide +kernel
theorem dL_isWell_278 : decode cL_isWell 278 = .ok (.iconst 1, 1) := by decide +kernel
theorem dL_isWell_279 : decode cL_isWell 279 = .ok (.goto 4, 3) := by decide +kernel
theorem dL_isWell_282 : decode cL_isWell 282 = .ok (.iconst 0, 1) := by decide +kernel
theorem dL_isWell_283 : decode cL_isWell 283 = .ok (.if_icmp .ne 34, 3) := by decide +kernel
theorem dL_isWell_286 : decode cL_isWell 286 = .ok (.aload_n 0, 1) := by decide +kernel
theorem dL_isWell_287 : decode cL_isWell 287 = .ok (.iload 7, 2) := by decide +kernel
theorem dL_isWell_289 : decode cL_isWell 289 = .ok (.iconst 2, 1) := by decide +kernel
theorem dL_isWell_290 : decode cL_isWell 290 = .ok (.invokevirtual 34, 3) := by decide +kernel
theorem dL_isWell_293 : decode cL_isWell 293 = .ok (.ifCond .lt 20, 3) := by decide +kernel
theorem dL_isWell_296 : decode cL_isWell 296 = .ok (.aload_n 0, 1) := by decide +kernel
theorem dL_isWell_297 : decode cL_isWell 297 = .ok (.aload_n 0, 1) := by decide +kernel
theorem dL_isWell_298 : decode cL_isWell 298 = .ok (.iload 7, 2) := by decide +kernel
theorem dL_isWell_300 : decode cL_isWell 300 = .ok (.iconst 2, 1) := by decide +kernel
theorem dL_isWell_301 : decode cL_isWell 301 = .ok (.invokevirtual 34, 3) := by decide +kernel
theorem dL_isWell_304 : decode cL_isWell 304 = .ok (.iconst 0, 1) := by decide +kernel
theorem dL_isWell_305 : decode cL_isWell 305 = .ok (.invokevirtual 25, 3) := by decide +kernel
theorem dL_isWell_308 : decode cL_isWell 308 = .ok (.iload 7, 2) := by decide +kernel
theorem dL_isWell_310 : decode cL_isWell 310 = .ok (.if_icmp .ne 7, 3) := by decide +kernel
theorem dL_isWell_313 : decode cL_isWell 313 = .ok (.iconst 1, 1) := by decide +kernel
theorem dL_isWell_314 : decode cL_isWell 314 = .ok (.goto 4, 3) := by decide +kernel
theorem dL_isWell_318 : decode cL_isWell 318 = .ok (.istore 5, 2) := by decide +kernel
theorem dL_isWell_320 : decode cL_isWell 320 = .ok (.iinc 7 1, 3) := by decide +kernel
theorem dL_isWell_323 : decode cL_isWell 323 = .ok (.goto (-153), 3) := by decide +kernel
theorem dL_isWell_326 : decode cL_isWell 326 = .ok (.bipush 10, 2) := by decide +kernel
theorem dL_isWell_328 : decode cL_isWell 328 = .ok (.iload_n 1, 1) := by decide +kernel
theorem dL_isWell_329 : decode cL_isWell 329 = .ok (.sipush 990, 3) := by decide +kernel
theorem dL_isWell_332 : decode cL_isWell 332 = .ok (.invokestatic 19, 3) := by decide +kernel
theorem dL_isWell_335 : decode cL_isWell 335 = .ok (.iadd, 1) := by decide +kernel
theorem dL_isWell_336 : decode cL_isWell 336 = .ok (.istore 7, 2) := by decide +kernel
theorem dL_isWell_338 : decode cL_isWell 338 = .ok (.iload_n 1, 1) := by decide +kernel
theorem dL_isWell_339 : decode cL_isWell 339 = .ok (.bipush 10, 2) := by decide +kernel
theorem dL_isWell_341 : decode cL_isWell 341 = .ok (.ishr, 1) := by decide +kernel
theorem dL_isWell_342 : decode cL_isWell 342 = .ok (.iconst 3, 1) := by decide +kernel
theorem dL_isWell_343 : decode cL_isWell 343 = .ok (.invokestatic 19, 3) := by decide +kernel
theorem dL_isWell_346 : decode cL_isWell 346 = .ok (.istore 8, 2) := by decide +kernel
theorem dL_isWell_348 : decode cL_isWell 348 = .ok (.aload_n 0, 1) := by decide +kernel
theorem dL_isWell_349 : decode cL_isWell 349 = .ok (.iload 7, 2) := by decide +kernel
theorem dL_isWell_351 : decode cL_isWell 351 = .ok (.iload 8, 2) := by decide +kernel
theorem dL_isWell_353 : decode cL_isWell 353 = .ok (.iconst 0, 1) := by decide +kernel
theorem dL_isWell_354 : decode cL_isWell 354 = .ok (.invokevirtual 91, 3) := by decide +kernel
theorem dL_isWell_357 : decode cL_isWell 357 = .ok (.istore 9, 2) := by decide +kernel
theorem dL_isWell_359 : decode cL_isWell 359 = .ok (.iload 5, 2) := by decide +kernel
theorem dL_isWell_361 : decode cL_isWell 361 = .ok (.ifCond .eq 91, 3) := by decide +kernel
theorem dL_isWell_364 : decode cL_isWell 364 = .ok (.iload 9, 2) := by decide +kernel
theorem dL_isWell_366 : decode cL_isWell 366 = .ok (.bipush (-5), 2) := by decide +kernel
theorem dL_isWell_368 : decode cL_isWell 368 = .ok (.if_icmp .ne 20, 3) := by decide +kernel
theorem dL_isWell_371 : decode cL_isWell 371 = .ok (.aload_n 0, 1) := by decide +kernel
theorem dL_isWell_372 : decode cL_isWell 372 = .ok (.iload 7, 2) := by decide +kernel
theorem dL_isWell_374 : decode cL_isWell 374 = .ok (.iload 8, 2) := by decide +kernel
theorem dL_isWell_376 : decode cL_isWell 376 = .ok (.iconst 2, 1) := by decide +kernel
theorem dL_isWell_377 : decode cL_isWell 377 = .ok (.invokevirtual 91, 3) := by decide +kernel
theorem dL_isWell_380 : decode cL_isWell 380 = .ok (.iload 9, 2) := by decide +kernel
theorem dL_isWell_382 : decode cL_isWell 382 = .ok (.if_icmp .ne 70, 3) := by decide +kernel
theorem dL_isWell_385 : decode cL_isWell 385 = .ok (.goto 63, 3) := by decide +kernel
theorem dL_isWell_388 : decode cL_isWell 388 = .ok (.aload_n 0, 1) := by decide +kernel
theorem dL_isWell_389 : decode cL_isWell 389 = .ok (.iload 9, 2) := by decide +kernel
theorem dL_isWell_391 : decode cL_isWell 391 = .ok (.aload_n 0, 1) := by decide +kernel
theorem dL_isWell_392 : decode cL_isWell 392 = .ok (.iload 7, 2) := by decide +kernel
theorem dL_isWell_394 : decode cL_isWell 394 = .ok (.iload 8, 2) := by decide +kernel
theorem dL_isWell_396 : decode cL_isWell 396 = .ok (.iconst 1, 1) := by decide +kernel
theorem dL_isWell_397 : decode cL_isWell 397 = .ok (.invokevirtual 91, 3) := by decide +kernel
theorem dL_isWell_400 : decode cL_isWell 400 = .ok (.iload 7, 2) := by decide +kernel
theorem dL_isWell_402 : decode cL_isWell 402 = .ok (.iload 8, 2) := by decide +kernel
theorem dL_isWell_404 : decode cL_isWell 404 = .ok (.iconst 3, 1) := by decide +kernel
theorem dL_isWell_405 : decode cL_isWell 405 = .ok (.invokevirtual 70, 3) := by decide +kernel
theorem dL_isWell_408 : decode cL_isWell 408 = .ok (.ifCond .lt 44, 3) := by decide +kernel
theorem dL_isWell_411 : decode cL_isWell 411 = .ok (.aload_n 0, 1) := by decide +kernel
theorem dL_isWell_412 : decode cL_isWell 412 = .ok (.aload_n 0, 1) := by decide +kernel
theorem dL_isWell_413 : decode cL_isWell 413 = .ok (.iload 9, 2) := by decide +kernel
theorem dL_isWell_415 : decode cL_isWell 415 = .ok (.aload_n 0, 1) := by decide +kernel
theorem dL_isWell_416 : decode cL_isWell 416 = .ok (.iload 7, 2) := by decide +kernel
theorem dL_isWell_418 : decode cL_isWell 418 = .ok (.iload 8, 2) := by decide +kernel
theorem dL_isWell_420 : decode cL_isWell 420 = .ok (.iconst 1, 1) := by decide +kernel
theorem dL_isWell_421 : decode cL_isWell 421 = .ok (.invokevirtual 91, 3) := by decide +kernel
theorem dL_isWell_424 : decode cL_isWell 424 = .ok (.iload 7, 2) := by decide +kernel
theorem dL_isWell_426 : decode cL_isWell 426 = .ok (.iload 8, 2) := by decide +kernel
theorem dL_isWell_428 : decode cL_isWell 428 = .ok (.iconst 3, 1) := by decide +kernel
theorem dL_isWell_429 : decode cL_isWell 429 = .ok (.invokevirtual 70, 3) := by decide +kernel
theorem dL_isWell_432 : decode cL_isWell 432 = .ok (.iconst 1, 1) := by decide +kernel
theorem dL_isWell_433 : decode cL_isWell 433 = .ok (.invokevirtual 25, 3) := by decide +kernel
theorem dL_isWell_436 : decode cL_isWell 436 = .ok (.aload_n 0, 1) := by decide +kernel
theorem dL_isWell_437 : decode cL_isWell 437 = .ok (.iload 7, 2) := by decide +kernel
theorem dL_isWell_439 : decode cL_isWell 439 = .ok (.iload 8, 2) := by decide +kernel
theorem dL_isWell_441 : decode cL_isWell 441 = .ok (.iconst 2, 1) := by decide +kernel
theorem dL_isWell_442 : decode cL_isWell 442 = .ok (.invokevirtual 91, 3) := by decide +kernel
theorem dL_isWell_445 : decode cL_isWell 445 = .ok (.if_icmp .ne 7, 3) := by decide +kernel
theorem dL_isWell_448 : decode cL_isWell 448 = .ok (.iconst 1, 1) := by decide +kernel
theorem dL_isWell_449 : decode cL_isWell 449 = .ok (.goto 4, 3) := by decide +kernel
theorem dL_isWell_453 : decode cL_isWell 453 = .ok (.istore 5, 2) := by decide +kernel
theorem dL_isWell_455 : decode cL_isWell 455 = .ok (.iload 5, 2) := by decide +kernel
theorem dL_isWell_457 : decode cL_isWell 457 = .ok (.ifCond .eq 90, 3) := by decide +kernel
theorem dL_isWell_460 : decode cL_isWell 460 = .ok (.iload_n 2, 1) := by decide +kernel
theorem dL_isWell_461 : decode cL_isWell 461 = .ok (.aload_n 0, 1) := by decide +kernel
theorem dL_isWell_462 : decode cL_isWell 462 = .ok (.iconst 0, 1) := by decide +kernel
theorem dL_isWell_463 : decode cL_isWell 463 = .ok (.invokevirtual 15, 3) := by decide +kernel
theorem dL_isWell_466 : decode cL_isWell 466 = .ok (.if_icmp .ne 81, 3) := by decide +kernel
theorem dL_isWell_469 : decode cL_isWell 469 = .ok (.iload_n 3, 1) := by decide +kernel
theorem dL_isWell_470 : decode cL_isWell 470 = .ok (.aload_n 0, 1) := by decide +kernel
theorem dL_isWell_471 : decode cL_isWell 471 = .ok (.bipush 8, 2) := by decide +kernel
theorem dL_isWell_473 : decode cL_isWell 473 = .ok (.invokevirtual 15, 3) := by decide +kernel
theorem dL_isWell_476 : decode cL_isWell 476 = .ok (.if_icmp .gt 71, 3) := by decide +kernel
theorem dL_isWell_479 : decode cL_isWell 479 = .ok (.iload 4, 2) := by decide +kernel
theorem dL_isWell_481 : decode cL_isWell 481 = .ok (.aload_n 0, 1) := by decide +kernel
theorem dL_isWell_482 : decode cL_isWell 482 = .ok (.bipush 9, 2) := by decide +kernel
theorem dL_isWell_484 : decode cL_isWell 484 = .ok (.invokevirtual 15, 3) := by decide +kernel
theorem dL_isWell_487 : decode cL_isWell 487 = .ok (.if_icmp .gt 60, 3) := by decide +kernel
theorem dL_isWell_490 : decode cL_isWell 490 = .ok (.iload 6, 2) := by decide +kernel
theorem dL_isWell_492 : decode cL_isWell 492 = .ok (.sipush 312, 3) := by decide +kernel
theorem dL_isWell_495 : decode cL_isWell 495 = .ok (.if_icmp .ne 52, 3) := by decide +kernel
theorem dL_isWell_498 : decode cL_isWell 498 = .ok (.aload_n 0, 1) := by decide +kernel
theorem dL_isWell_499 : decode cL_isWell 499 = .ok (.bipush 7, 2) := by decide +kernel
theorem dL_isWell_501 : decode cL_isWell 501 = .ok (.invokevirtual 15, 3) := by decide +kernel
theorem dL_isWell_504 : decode cL_isWell 504 = .ok (.aload_n 0, 1) := by decide +kernel
theorem dL_isWell_505 : decode cL_isWell 505 = .ok (.bipush 6, 2) := by decide +kernel
theorem dL_isWell_507 : decode cL_isWell 507 = .ok (.invokevirtual 15, 3) := by decide +kernel
theorem dL_isWell_510 : decode cL_isWell 510 = .ok (.if_icmp .gt 37, 3) := by decide +kernel
theorem dL_isWell_513 : decode cL_isWell 513 = .ok (.aload_n 0, 1) := by decide +kernel
theorem dL_isWell_514 : decode cL_isWell 514 = .ok (.bipush 7, 2) := by decide +kernel
theorem dL_isWell_516 : decode cL_isWell 516 = .ok (.invokevirtual 15, 3) := by decide +kernel
theorem dL_isWell_519 : decode cL_isWell 519 = .ok (.aload_n 0, 1) := by decide +kernel
theorem dL_isWell_520 : decode cL_isWell 520 = .ok (.iconst 1, 1) := by decide +kernel
theorem dL_isWell_521 : decode cL_isWell 521 = .ok (.invokevirtual 15, 3) := by decide +kernel
theorem dL_isWell_524 : decode cL_isWell 524 = .ok (.iload_n 2, 1) := by decide +kernel
theorem dL_isWell_525 : decode cL_isWell 525 = .ok (.isub, 1) := by decide +kernel
theorem dL_isWell_526 : decode cL_isWell 526 = .ok (.if_icmp .gt 21, 3) := by decide +kernel
theorem dL_isWell_529 : decode cL_isWell 529 = .ok (.aload_n 0, 1) := by decide +kernel
theorem dL_isWell_530 : decode cL_isWell 530 = .ok (.iconst 5, 1) := by decide +kernel
theorem dL_isWell_531 : decode cL_isWell 531 = .ok (.invokevirtual 15, 3) := by decide +kernel
theorem dL_isWell_534 : decode cL_isWell 534 = .ok (.aload_n 0, 1) := by decide +kernel
theorem dL_isWell_535 : decode cL_isWell 535 = .ok (.bipush 7, 2) := by decide +kernel
theorem dL_isWell_537 : decode cL_isWell 537 = .ok (.invokevirtual 15, 3) := by decide +kernel
theorem dL_isWell_540 : decode cL_isWell 540 = .ok (.if_icmp .gt 7, 3) := by decide +kernel
theorem dL_isWell_543 : decode cL_isWell 543 = .ok (.iconst 1, 1) := by decide +kernel
theorem dL_isWell_544 : decode cL_isWell 544 = .ok (.goto 4, 3) := by decide +kernel
theorem dL_isWell_548 : decode cL_isWell 548 = .ok (.ireturn, 1) := by decide +kernel
theorem ck_L_88 : CkV RL 88 RX6 yX6_cell cX6_cell 3 (some .int) 2 := ⟨wm_L_88, wim_yX6_cell, wse_yX6_cell, wi_X6, wc_yX6_cell, by decide +kernel⟩
theorem ck_L_91 : CkV RL 91 RX6 yX6_best cX6_best 10 (some .int) 3 := ⟨wm_L_91, wim_yX6_best, wse_yX6_best, wi_X6, wc_yX6_best, by decide +kernel⟩
set_option maxHeartbeats 4000000 in
set_option maxRecDepth 100000 in
theorem kL_isWell (l : Launch) (E : Ev) (A : Ad) (S : So) (vx : Int32) (M : Nat) (f : N1) (hG : gG M f) (hM : M ≤ 100) (hS : SB f S) : KQ l yL_isWell cL_isWell 11 (some .boolean) 7 172 E [.ref (adH A), .int vx] (wOb E A S) (QE E (wOb E A S) (NW E A f)) := by
  refine KQ.mk RL rfl (by decide +kernel) (Nat.le_of_ble_eq_true rfl) ?_
  intro p e s m below meth c ls X hr w hl
  have hx := X.1
  have hb := X.2.1
  have hl : lv_has ls 11 [(0, .ref (adH A)), (1, .int vx)] := hl
  have hev := ever_c hG
  refine lv_iconst (v := 0) hx hb dL_isWell_0 (by decide) ?_
  refine lv_istore_n (lv' := [(2, .int 0), (0, .ref (adH A)), (1, .int vx)]) hx hb dL_isWell_1 rfl hl (by decide) rfl (fun ls hl => ?_)
  refine lv_iconst (v := 0) hx hb dL_isWell_2 (by decide) ?_
  refine lv_istore_n (lv' := [(3, .int 0), (2, .int 0), (0, .ref (adH A)), (1, .int vx)]) hx hb dL_isWell_3 rfl hl (by decide) rfl (fun ls hl => ?_)
  refine lv_iconst (v := 0) hx hb dL_isWell_4 (by decide) ?_
  refine lv_istore (lv' := [(4, .int 0), (3, .int 0), (2, .int 0), (0, .ref (adH A)), (1, .int vx)]) hx hb dL_isWell_5 hl (by decide) rfl (fun ls hl => ?_)
  refine lv_iconst (v := 1) hx hb dL_isWell_7 (by decide) ?_
  refine lv_istore (lv' := [(5, .int 1), (4, .int 0), (3, .int 0), (2, .int 0), (0, .ref (adH A)), (1, .int vx)]) hx hb dL_isWell_8 hl (by decide) rfl (fun ls hl => ?_)
  refine lv_iconst (v := 0) hx hb dL_isWell_10 (by decide) ?_
  refine lv_istore (lv' := [(6, .int 0), (5, .int 1), (4, .int 0), (3, .int 0), (2, .int 0), (0, .ref (adH A)), (1, .int vx)]) hx hb dL_isWell_11 hl (by decide) rfl (fun ls hl => ?_)
  have loop : ∀ (n k : Nat), k + n = (f 12).toNatClampNeg → ∀ (H : Heap) (locs : List Loc), Wd E (hB (wOb E A S)) s (wOb E A S) H locs → ∀ (ls : Array Slot), lv_has ls 11 [(6, .int (nI k)), (5, .int 1), (4, .int (bkN f 61 k)), (3, .int (bkN f 49 k)), (2, .int (nI (onN f k))), (0, .ref (adH A)), (1, .int vx)] → W p l e { frames := 7, cells := 0, slots := 0, locals := 172 } s m (([.ref (adH A), .int vx] : List Value)).toArray below meth c H locs 0 0 (MQ below (QE E (wOb E A S) (NW E A f)) (([.ref (adH A), .int vx] : List Value)).toArray s 0 0 (hB (wOb E A S))) (F0 m 13 ls []) := by
    intro n
    induction n with
    | zero =>
      intro k hk_k H locs w ls hl
      obtain rfl : (f 12).toNatClampNeg = k := by omega
      refine lv_iload hx hb dL_isWell_13 (lv_at hl 0 rfl) ?_
      refine lv_aload_n hx hb dL_isWell_15 rfl (lv_at hl 5 rfl) ?_
      refine lv_iconst (v := 1) hx hb dL_isWell_16 (by decide) ?_
      refine r_ci w (r_runV (As := [.int 1]) (rest := [.int (nI ((f 12).toNatClampNeg))]) X w (q_count l E A S 1 ) ck_L_15 ⟨Nat.le_of_ble_eq_true rfl, Nat.le_of_ble_eq_true rfl⟩ isA (hcR_1 (E := E)) nd_A (k0 := 0) CL6 rfl hl.1 (Nat.le_of_ble_eq_true rfl) rfl dL_isWell_17 ⟨Nat.le_of_ble_eq_true rfl, Nat.le_of_ble_eq_true rfl⟩) (wOb E A S) isA (hcR_1 (E := E)) nd_A (haR_1 (E := E)) (hwR_1 (E := E)) (fun H locs w => ?_)
      refine lv_icmp_ge (tgt := 164) hx hb dL_isWell_20 (by decide) (fun _ => ?_) (fun h => absurd (by rw [ct_1 hS.1, ← hev.2]; exact Int32.le_refl _) h)
      refine lv_iconst (v := 0) hx hb dL_isWell_164 (by decide) ?_
      refine lv_istore (lv' := [(6, .int 0), (5, .int 1), (4, .int (bkN f 61 ((f 12).toNatClampNeg))), (3, .int (bkN f 49 ((f 12).toNatClampNeg))), (2, .int (nI (onN f ((f 12).toNatClampNeg)))), (0, .ref (adH A)), (1, .int vx)]) hx hb dL_isWell_165 hl (by decide) rfl (fun ls hl => ?_)
      refine lv_iconst (v := 0) hx hb dL_isWell_167 (by decide) ?_
      refine lv_istore (lv' := [(7, .int 0), (6, .int 0), (5, .int 1), (4, .int (bkN f 61 ((f 12).toNatClampNeg))), (3, .int (bkN f 49 ((f 12).toNatClampNeg))), (2, .int (nI (onN f ((f 12).toNatClampNeg)))), (0, .ref (adH A)), (1, .int vx)]) hx hb dL_isWell_168 hl (by decide) rfl (fun ls hl => ?_)
      have loop2 : ∀ (n2 k : Nat), k + n2 = 61 → ∀ (H : Heap) (locs : List Loc), Wd E (hB (wOb E A S)) s (wOb E A S) H locs → ∀ (ls : Array Slot), lv_has ls 11 [(7, .int (nI k)), (6, .int (bsN k)), (5, .int 1), (4, .int (bkN f 61 ((f 12).toNatClampNeg))), (3, .int (bkN f 49 ((f 12).toNatClampNeg))), (2, .int (nI (onN f ((f 12).toNatClampNeg)))), (0, .ref (adH A)), (1, .int vx)] → W p l e { frames := 7, cells := 0, slots := 0, locals := 172 } s m (([.ref (adH A), .int vx] : List Value)).toArray below meth c H locs 0 0 (MQ below (QE E (wOb E A S) (NW E A f)) (([.ref (adH A), .int vx] : List Value)).toArray s 0 0 (hB (wOb E A S))) (F0 m 170 ls []) := by
        intro n2
        induction n2 with
        | zero =>
          intro k hk_k H locs w ls hl
          obtain rfl : k = 61 := by omega
          refine lv_iload hx hb dL_isWell_170 (lv_at hl 0 rfl) ?_
          refine lv_bipush (v := 61) hx hb dL_isWell_172 (by decide) ?_
          refine lv_icmp_ge (tgt := 326) hx hb dL_isWell_174 (by decide) (fun _ => ?_) (fun h => absurd (by decide : (61 : Int32) ≤ nI 61) h)
          refine lv_bipush (v := 10) hx hb dL_isWell_326 (by decide) ?_
          refine lv_iload_n hx hb dL_isWell_328 rfl (lv_at hl 7 rfl) ?_
          refine lv_sipush (v := 990) hx hb dL_isWell_329 (by decide) ?_
          refine r_ci w (r_runS (As := [.int vx, .int 990]) (rest := [.int 10]) X w (kL_up l E vx 990 (by decide)) ck_L_19 ⟨Nat.le_of_ble_eq_true rfl, Nat.le_of_ble_eq_true rfl⟩ [] rfl (by decide +kernel) hl.1 (Nat.le_of_ble_eq_true rfl) rfl dL_isWell_332 ⟨Nat.le_of_ble_eq_true rfl, Nat.le_of_ble_eq_true rfl⟩) (wOb E A S) [] rfl (by decide +kernel) rfl rfl (fun H locs w => ?_)
          refine lv_iadd hx hb dL_isWell_335 ?_
          refine lv_istore (lv' := [(7, .int (10 + (fL_up vx 990))), (6, .int (bsN 61)), (5, .int 1), (4, .int (bkN f 61 ((f 12).toNatClampNeg))), (3, .int (bkN f 49 ((f 12).toNatClampNeg))), (2, .int (nI (onN f ((f 12).toNatClampNeg)))), (0, .ref (adH A)), (1, .int vx)]) hx hb dL_isWell_336 hl (by decide) rfl (fun ls hl => ?_)
          refine lv_iload_n hx hb dL_isWell_338 rfl (lv_at hl 7 rfl) ?_
          refine lv_bipush (v := 10) hx hb dL_isWell_339 (by decide) ?_
          refine lv_ishr hx hb dL_isWell_341 ?_
          refine lv_iconst (v := 3) hx hb dL_isWell_342 (by decide) ?_
          refine r_ci w (r_runS (As := [.int (vx >>> (10 &&& 31)), .int 3]) (rest := []) X w (kL_up l E (vx >>> (10 &&& 31)) 3 (by decide)) ck_L_19 ⟨Nat.le_of_ble_eq_true rfl, Nat.le_of_ble_eq_true rfl⟩ [] rfl (by decide +kernel) hl.1 (Nat.le_of_ble_eq_true rfl) rfl dL_isWell_343 ⟨Nat.le_of_ble_eq_true rfl, Nat.le_of_ble_eq_true rfl⟩) (wOb E A S) [] rfl (by decide +kernel) rfl rfl (fun H locs w => ?_)
          refine lv_istore (lv' := [(8, .int (fL_up (vx >>> (10 &&& 31)) 3)), (7, .int (10 + (fL_up vx 990))), (6, .int (bsN 61)), (5, .int 1), (4, .int (bkN f 61 ((f 12).toNatClampNeg))), (3, .int (bkN f 49 ((f 12).toNatClampNeg))), (2, .int (nI (onN f ((f 12).toNatClampNeg)))), (0, .ref (adH A)), (1, .int vx)]) hx hb dL_isWell_346 hl (by decide) rfl (fun ls hl => ?_)
          obtain ⟨sg, hsg, es⟩ : ∃ sg : Int32, (10 ≤ sg.toInt ∧ sg.toInt ≤ 999) ∧ 10 + fL_up vx 990 = sg := ⟨_, by have h9 := add_in (u := fL_up vx 990) (a := 10) (k := 10) rfl (up_in (N := 990) rfl (by decide)) (by decide); omega, rfl⟩
          obtain ⟨sn, hsn, en⟩ : ∃ sn, vp_in sn 3 ∧ fL_up (vx >>> (10 &&& 31)) 3 = sn := ⟨_, up_in rfl (by decide), rfl⟩
          have hf := fo_in hsg hsn
          rw [es, en] at hl
          obtain ⟨b1, x0⟩ := best_0 hG hM hS hf
          refine lv_aload_n hx hb dL_isWell_348 rfl (lv_at hl 7 rfl) ?_
          refine lv_iload hx hb dL_isWell_349 (lv_at hl 1 rfl) ?_
          refine lv_iload hx hb dL_isWell_351 (lv_at hl 0 rfl) ?_
          refine lv_iconst (v := 0) hx hb dL_isWell_353 (by decide) ?_
          refine r_ci w (r_runV (As := [.int sg, .int sn, .int 0]) (rest := []) X w (q_best l E A S sg sn 0 (SB_gs hG hS)) ck_L_91 ⟨Nat.le_of_ble_eq_true rfl, Nat.le_of_ble_eq_true rfl⟩ isA (hcR_1 (E := E)) nd_A (k0 := 0) CL6 rfl hl.1 (Nat.le_of_ble_eq_true rfl) rfl dL_isWell_354 ⟨Nat.le_of_ble_eq_true rfl, Nat.le_of_ble_eq_true rfl⟩) (wOb E A (ob_best S sg sn 0)) isA (hcR_1 (E := E)) nd_A (haR_1 (E := E)) (hwR_1 (E := E)) (fun H locs w => ?_)
          refine lv_istore (lv' := [(9, .int (an_best S sg sn 0)), (8, .int sn), (7, .int sg), (6, .int (bsN 61)), (5, .int 1), (4, .int (bkN f 61 ((f 12).toNatClampNeg))), (3, .int (bkN f 49 ((f 12).toNatClampNeg))), (2, .int (nI (onN f ((f 12).toNatClampNeg)))), (0, .ref (adH A)), (1, .int vx)]) hx hb dL_isWell_357 hl (by decide) rfl (fun ls hl => ?_)
          refine lv_iload hx hb dL_isWell_359 (lv_at hl 4 rfl) ?_
          refine lv_if_eq (tgt := 452) hx hb dL_isWell_361 (by decide) (fun h => absurd h (by decide)) (fun _ => ?_)
          refine lv_iload hx hb dL_isWell_364 (lv_at hl 0 rfl) ?_
          refine lv_bipush (v := (-5)) hx hb dL_isWell_366 (by decide) ?_
          refine lv_icmp_ne (tgt := 388) hx hb dL_isWell_368 (by decide) (fun c368_3 => ?_) (fun c368_3 => ?_)
          · have hne : ¬ (bst f sg sn).2.1 = (-5) := fun q => c368_3 (x0.trans q)
            obtain ⟨b2, y1⟩ := best_1 hG hM b1 hf
            have hd1 : vp_in (an_best (ob_best S sg sn 0) sg sn 1) 6 := by rw [y1]; exact (best_some hG hM hne).1
            obtain ⟨b3, w3⟩ := one_would (b := (an_best S sg sn 0)) hG hM b2 hd1 hf (wt := 3) (vin_c rfl)
            obtain ⟨b4, y3⟩ := best_1 hG hM b3 hf
            have hd3 : vp_in (an_best (ob_would (ob_best (ob_best S sg sn 0) sg sn 1) (an_best S sg sn 0) (an_best (ob_best S sg sn 0) sg sn 1) sg sn 3) sg sn 1) 6 := by rw [y3]; exact (best_some hG hM hne).1
            obtain ⟨b5, w5⟩ := one_would (b := (an_best S sg sn 0)) hG hM b4 hd3 hf (wt := 3) (vin_c rfl)
            have w6 : an_would (ob_best (ob_would (ob_best (ob_best S sg sn 0) sg sn 1) (an_best S sg sn 0) (an_best (ob_best S sg sn 0) sg sn 1) sg sn 3) sg sn 1) (an_best S sg sn 0) (an_best (ob_would (ob_best (ob_best S sg sn 0) sg sn 1) (an_best S sg sn 0) (an_best (ob_best S sg sn 0) sg sn 1) sg sn 3) sg sn 1) sg sn 3 = wd f (bst f sg sn).2.1 (bst f sg sn).2.2 sg sn 3 := by rw [w5, y3, x0]
            obtain ⟨bz, x2⟩ := best_2 hG hM b5 hf
            rw [if_neg (best_some hG hM hne).2.1] at x2
            refine lv_aload_n hx hb dL_isWell_388 rfl (lv_at hl 8 rfl) ?_
            refine lv_iload hx hb dL_isWell_389 (lv_at hl 0 rfl) ?_
            refine lv_aload_n hx hb dL_isWell_391 rfl (lv_at hl 8 rfl) ?_
            refine lv_iload hx hb dL_isWell_392 (lv_at hl 2 rfl) ?_
            refine lv_iload hx hb dL_isWell_394 (lv_at hl 1 rfl) ?_
            refine lv_iconst (v := 1) hx hb dL_isWell_396 (by decide) ?_
            refine r_ci w (r_runV (As := [.int sg, .int sn, .int 1]) (rest := [.int (an_best S sg sn 0), .ref (adH A)]) X w (q_best l E A (ob_best S sg sn 0) sg sn 1 (SB_gs hG b1)) ck_L_91 ⟨Nat.le_of_ble_eq_true rfl, Nat.le_of_ble_eq_true rfl⟩ isA (hcR_1 (E := E)) nd_A (k0 := 0) CL6 rfl hl.1 (Nat.le_of_ble_eq_true rfl) rfl dL_isWell_397 ⟨Nat.le_of_ble_eq_true rfl, Nat.le_of_ble_eq_true rfl⟩) (wOb E A (ob_best (ob_best S sg sn 0) sg sn 1)) isA (hcR_1 (E := E)) nd_A (haR_1 (E := E)) (hwR_1 (E := E)) (fun H locs w => ?_)
            refine lv_iload hx hb dL_isWell_400 (lv_at hl 2 rfl) ?_
            refine lv_iload hx hb dL_isWell_402 (lv_at hl 1 rfl) ?_
            refine lv_iconst (v := 3) hx hb dL_isWell_404 (by decide) ?_
            refine r_ci w (r_runV (As := [.int (an_best S sg sn 0), .int (an_best (ob_best S sg sn 0) sg sn 1), .int sg, .int sn, .int 3]) (rest := []) X w (q_would l E A (ob_best (ob_best S sg sn 0) sg sn 1) (an_best S sg sn 0) (an_best (ob_best S sg sn 0) sg sn 1) sg sn 3 (SB_gs hG b2)) ck_L_70 ⟨Nat.le_of_ble_eq_true rfl, Nat.le_of_ble_eq_true rfl⟩ isA (hcR_1 (E := E)) nd_A (k0 := 0) CL6 rfl hl.1 (Nat.le_of_ble_eq_true rfl) rfl dL_isWell_405 ⟨Nat.le_of_ble_eq_true rfl, Nat.le_of_ble_eq_true rfl⟩) (wOb E A (ob_would (ob_best (ob_best S sg sn 0) sg sn 1) (an_best S sg sn 0) (an_best (ob_best S sg sn 0) sg sn 1) sg sn 3)) isA (hcR_1 (E := E)) nd_A (haR_1 (E := E)) (hwR_1 (E := E)) (fun H locs w => ?_)
            refine lv_if_lt (tgt := 452) hx hb dL_isWell_408 (by decide) (fun h => absurd h (by rw [w3, x0, y1]; exact (best_won hG hM hne).1)) (fun _ => ?_)
            refine lv_aload_n hx hb dL_isWell_411 rfl (lv_at hl 8 rfl) ?_
            refine lv_aload_n hx hb dL_isWell_412 rfl (lv_at hl 8 rfl) ?_
            refine lv_iload hx hb dL_isWell_413 (lv_at hl 0 rfl) ?_
            refine lv_aload_n hx hb dL_isWell_415 rfl (lv_at hl 8 rfl) ?_
            refine lv_iload hx hb dL_isWell_416 (lv_at hl 2 rfl) ?_
            refine lv_iload hx hb dL_isWell_418 (lv_at hl 1 rfl) ?_
            refine lv_iconst (v := 1) hx hb dL_isWell_420 (by decide) ?_
            refine r_ci w (r_runV (As := [.int sg, .int sn, .int 1]) (rest := [.int (an_best S sg sn 0), .ref (adH A), .ref (adH A)]) X w (q_best l E A (ob_would (ob_best (ob_best S sg sn 0) sg sn 1) (an_best S sg sn 0) (an_best (ob_best S sg sn 0) sg sn 1) sg sn 3) sg sn 1 (SB_gs hG b3)) ck_L_91 ⟨Nat.le_of_ble_eq_true rfl, Nat.le_of_ble_eq_true rfl⟩ isA (hcR_1 (E := E)) nd_A (k0 := 0) CL6 rfl hl.1 (Nat.le_of_ble_eq_true rfl) rfl dL_isWell_421 ⟨Nat.le_of_ble_eq_true rfl, Nat.le_of_ble_eq_true rfl⟩) (wOb E A (ob_best (ob_would (ob_best (ob_best S sg sn 0) sg sn 1) (an_best S sg sn 0) (an_best (ob_best S sg sn 0) sg sn 1) sg sn 3) sg sn 1)) isA (hcR_1 (E := E)) nd_A (haR_1 (E := E)) (hwR_1 (E := E)) (fun H locs w => ?_)
            refine lv_iload hx hb dL_isWell_424 (lv_at hl 2 rfl) ?_
            refine lv_iload hx hb dL_isWell_426 (lv_at hl 1 rfl) ?_
            refine lv_iconst (v := 3) hx hb dL_isWell_428 (by decide) ?_
            refine r_ci w (r_runV (As := [.int (an_best S sg sn 0), .int (an_best (ob_would (ob_best (ob_best S sg sn 0) sg sn 1) (an_best S sg sn 0) (an_best (ob_best S sg sn 0) sg sn 1) sg sn 3) sg sn 1), .int sg, .int sn, .int 3]) (rest := [.ref (adH A)]) X w (q_would l E A (ob_best (ob_would (ob_best (ob_best S sg sn 0) sg sn 1) (an_best S sg sn 0) (an_best (ob_best S sg sn 0) sg sn 1) sg sn 3) sg sn 1) (an_best S sg sn 0) (an_best (ob_would (ob_best (ob_best S sg sn 0) sg sn 1) (an_best S sg sn 0) (an_best (ob_best S sg sn 0) sg sn 1) sg sn 3) sg sn 1) sg sn 3 (SB_gs hG b4)) ck_L_70 ⟨Nat.le_of_ble_eq_true rfl, Nat.le_of_ble_eq_true rfl⟩ isA (hcR_1 (E := E)) nd_A (k0 := 0) CL6 rfl hl.1 (Nat.le_of_ble_eq_true rfl) rfl dL_isWell_429 ⟨Nat.le_of_ble_eq_true rfl, Nat.le_of_ble_eq_true rfl⟩) (wOb E A (ob_would (ob_best (ob_would (ob_best (ob_best S sg sn 0) sg sn 1) (an_best S sg sn 0) (an_best (ob_best S sg sn 0) sg sn 1) sg sn 3) sg sn 1) (an_best S sg sn 0) (an_best (ob_would (ob_best (ob_best S sg sn 0) sg sn 1) (an_best S sg sn 0) (an_best (ob_best S sg sn 0) sg sn 1) sg sn 3) sg sn 1) sg sn 3)) isA (hcR_1 (E := E)) nd_A (haR_1 (E := E)) (hwR_1 (E := E)) (fun H locs w => ?_)
            refine lv_iconst (v := 1) hx hb dL_isWell_432 (by decide) ?_
            refine r_ci w (r_runV (As := [.int (an_would (ob_best (ob_would (ob_best (ob_best S sg sn 0) sg sn 1) (an_best S sg sn 0) (an_best (ob_best S sg sn 0) sg sn 1) sg sn 3) sg sn 1) (an_best S sg sn 0) (an_best (ob_would (ob_best (ob_best S sg sn 0) sg sn 1) (an_best S sg sn 0) (an_best (ob_best S sg sn 0) sg sn 1) sg sn 3) sg sn 1) sg sn 3), .int 1]) (rest := []) X w (q_ball l E A (ob_would (ob_best (ob_would (ob_best (ob_best S sg sn 0) sg sn 1) (an_best S sg sn 0) (an_best (ob_best S sg sn 0) sg sn 1) sg sn 3) sg sn 1) (an_best S sg sn 0) (an_best (ob_would (ob_best (ob_best S sg sn 0) sg sn 1) (an_best S sg sn 0) (an_best (ob_best S sg sn 0) sg sn 1) sg sn 3) sg sn 1) sg sn 3) (an_would (ob_best (ob_would (ob_best (ob_best S sg sn 0) sg sn 1) (an_best S sg sn 0) (an_best (ob_best S sg sn 0) sg sn 1) sg sn 3) sg sn 1) (an_best S sg sn 0) (an_best (ob_would (ob_best (ob_best S sg sn 0) sg sn 1) (an_best S sg sn 0) (an_best (ob_best S sg sn 0) sg sn 1) sg sn 3) sg sn 1) sg sn 3) 1 ) ck_L_25 ⟨Nat.le_of_ble_eq_true rfl, Nat.le_of_ble_eq_true rfl⟩ isA (hcR_1 (E := E)) nd_A (k0 := 0) CL6 rfl hl.1 (Nat.le_of_ble_eq_true rfl) rfl dL_isWell_433 ⟨Nat.le_of_ble_eq_true rfl, Nat.le_of_ble_eq_true rfl⟩) (wOb E A (ob_would (ob_best (ob_would (ob_best (ob_best S sg sn 0) sg sn 1) (an_best S sg sn 0) (an_best (ob_best S sg sn 0) sg sn 1) sg sn 3) sg sn 1) (an_best S sg sn 0) (an_best (ob_would (ob_best (ob_best S sg sn 0) sg sn 1) (an_best S sg sn 0) (an_best (ob_best S sg sn 0) sg sn 1) sg sn 3) sg sn 1) sg sn 3)) isA (hcR_1 (E := E)) nd_A (haR_1 (E := E)) (hwR_1 (E := E)) (fun H locs w => ?_)
            refine lv_aload_n hx hb dL_isWell_436 rfl (lv_at hl 8 rfl) ?_
            refine lv_iload hx hb dL_isWell_437 (lv_at hl 2 rfl) ?_
            refine lv_iload hx hb dL_isWell_439 (lv_at hl 1 rfl) ?_
            refine lv_iconst (v := 2) hx hb dL_isWell_441 (by decide) ?_
            refine r_ci w (r_runV (As := [.int sg, .int sn, .int 2]) (rest := [.int (an_ball (ob_would (ob_best (ob_would (ob_best (ob_best S sg sn 0) sg sn 1) (an_best S sg sn 0) (an_best (ob_best S sg sn 0) sg sn 1) sg sn 3) sg sn 1) (an_best S sg sn 0) (an_best (ob_would (ob_best (ob_best S sg sn 0) sg sn 1) (an_best S sg sn 0) (an_best (ob_best S sg sn 0) sg sn 1) sg sn 3) sg sn 1) sg sn 3) (an_would (ob_best (ob_would (ob_best (ob_best S sg sn 0) sg sn 1) (an_best S sg sn 0) (an_best (ob_best S sg sn 0) sg sn 1) sg sn 3) sg sn 1) (an_best S sg sn 0) (an_best (ob_would (ob_best (ob_best S sg sn 0) sg sn 1) (an_best S sg sn 0) (an_best (ob_best S sg sn 0) sg sn 1) sg sn 3) sg sn 1) sg sn 3) 1)]) X w (q_best l E A (ob_would (ob_best (ob_would (ob_best (ob_best S sg sn 0) sg sn 1) (an_best S sg sn 0) (an_best (ob_best S sg sn 0) sg sn 1) sg sn 3) sg sn 1) (an_best S sg sn 0) (an_best (ob_would (ob_best (ob_best S sg sn 0) sg sn 1) (an_best S sg sn 0) (an_best (ob_best S sg sn 0) sg sn 1) sg sn 3) sg sn 1) sg sn 3) sg sn 2 (SB_gs hG b5)) ck_L_91 ⟨Nat.le_of_ble_eq_true rfl, Nat.le_of_ble_eq_true rfl⟩ isA (hcR_1 (E := E)) nd_A (k0 := 0) CL6 rfl hl.1 (Nat.le_of_ble_eq_true rfl) rfl dL_isWell_442 ⟨Nat.le_of_ble_eq_true rfl, Nat.le_of_ble_eq_true rfl⟩) (wOb E A (ob_best (ob_would (ob_best (ob_would (ob_best (ob_best S sg sn 0) sg sn 1) (an_best S sg sn 0) (an_best (ob_best S sg sn 0) sg sn 1) sg sn 3) sg sn 1) (an_best S sg sn 0) (an_best (ob_would (ob_best (ob_best S sg sn 0) sg sn 1) (an_best S sg sn 0) (an_best (ob_best S sg sn 0) sg sn 1) sg sn 3) sg sn 1) sg sn 3) sg sn 2)) isA (hcR_1 (E := E)) nd_A (haR_1 (E := E)) (hwR_1 (E := E)) (fun H locs w => ?_)
            refine lv_icmp_ne (tgt := 452) hx hb dL_isWell_445 (by decide) (fun h => absurd (by rw [w6, (best_won hG hM hne).2 _ b5.1, x2]) h) (fun _ => ?_)
            refine lv_iconst (v := 1) hx hb dL_isWell_448 (by decide) ?_
            refine lv_goto (tgt := 453) hx hb dL_isWell_449 (by decide) ?_
            refine lv_istore (lv' := [(5, .int 1), (9, .int (an_best S sg sn 0)), (8, .int sn), (7, .int sg), (6, .int (bsN 61)), (4, .int (bkN f 61 ((f 12).toNatClampNeg))), (3, .int (bkN f 49 ((f 12).toNatClampNeg))), (2, .int (nI (onN f ((f 12).toNatClampNeg)))), (0, .ref (adH A)), (1, .int vx)]) hx hb dL_isWell_453 hl (by decide) rfl (fun ls hl => ?_)
            refine lv_iload hx hb dL_isWell_455 (lv_at hl 0 rfl) ?_
            refine lv_if_eq (tgt := 547) hx hb dL_isWell_457 (by decide) (fun h => absurd h (by decide)) (fun _ => ?_)
            refine lv_iload_n hx hb dL_isWell_460 rfl (lv_at hl 7 rfl) ?_
            refine lv_aload_n hx hb dL_isWell_461 rfl (lv_at hl 8 rfl) ?_
            refine lv_iconst (v := 0) hx hb dL_isWell_462 (by decide) ?_
            refine r_ci w (r_runV (As := [.int 0]) (rest := [.int (nI (onN f ((f 12).toNatClampNeg)))]) X w (q_count l E A (ob_best (ob_would (ob_best (ob_would (ob_best (ob_best S sg sn 0) sg sn 1) (an_best S sg sn 0) (an_best (ob_best S sg sn 0) sg sn 1) sg sn 3) sg sn 1) (an_best S sg sn 0) (an_best (ob_would (ob_best (ob_best S sg sn 0) sg sn 1) (an_best S sg sn 0) (an_best (ob_best S sg sn 0) sg sn 1) sg sn 3) sg sn 1) sg sn 3) sg sn 2) 0 ) ck_L_15 ⟨Nat.le_of_ble_eq_true rfl, Nat.le_of_ble_eq_true rfl⟩ isA (hcR_1 (E := E)) nd_A (k0 := 0) CL6 rfl hl.1 (Nat.le_of_ble_eq_true rfl) rfl dL_isWell_463 ⟨Nat.le_of_ble_eq_true rfl, Nat.le_of_ble_eq_true rfl⟩) (wOb E A (ob_best (ob_would (ob_best (ob_would (ob_best (ob_best S sg sn 0) sg sn 1) (an_best S sg sn 0) (an_best (ob_best S sg sn 0) sg sn 1) sg sn 3) sg sn 1) (an_best S sg sn 0) (an_best (ob_would (ob_best (ob_best S sg sn 0) sg sn 1) (an_best S sg sn 0) (an_best (ob_best S sg sn 0) sg sn 1) sg sn 3) sg sn 1) sg sn 3) sg sn 2)) isA (hcR_1 (E := E)) nd_A (haR_1 (E := E)) (hwR_1 (E := E)) (fun H locs w => ?_)
            refine lv_icmp_ne (tgt := 547) hx hb dL_isWell_466 (by decide) (fun h => absurd (wl_on hG bz.1 hev.1 hev.2) h) (fun _ => ?_)
            refine lv_iload_n hx hb dL_isWell_469 rfl (lv_at hl 6 rfl) ?_
            refine lv_aload_n hx hb dL_isWell_470 rfl (lv_at hl 8 rfl) ?_
            refine lv_bipush (v := 8) hx hb dL_isWell_471 (by decide) ?_
            refine r_ci w (r_runV (As := [.int 8]) (rest := [.int (bkN f 49 ((f 12).toNatClampNeg))]) X w (q_count l E A (ob_best (ob_would (ob_best (ob_would (ob_best (ob_best S sg sn 0) sg sn 1) (an_best S sg sn 0) (an_best (ob_best S sg sn 0) sg sn 1) sg sn 3) sg sn 1) (an_best S sg sn 0) (an_best (ob_would (ob_best (ob_best S sg sn 0) sg sn 1) (an_best S sg sn 0) (an_best (ob_best S sg sn 0) sg sn 1) sg sn 3) sg sn 1) sg sn 3) sg sn 2) 8 ) ck_L_15 ⟨Nat.le_of_ble_eq_true rfl, Nat.le_of_ble_eq_true rfl⟩ isA (hcR_1 (E := E)) nd_A (k0 := 0) CL6 rfl hl.1 (Nat.le_of_ble_eq_true rfl) rfl dL_isWell_473 ⟨Nat.le_of_ble_eq_true rfl, Nat.le_of_ble_eq_true rfl⟩) (wOb E A (ob_best (ob_would (ob_best (ob_would (ob_best (ob_best S sg sn 0) sg sn 1) (an_best S sg sn 0) (an_best (ob_best S sg sn 0) sg sn 1) sg sn 3) sg sn 1) (an_best S sg sn 0) (an_best (ob_would (ob_best (ob_best S sg sn 0) sg sn 1) (an_best S sg sn 0) (an_best (ob_best S sg sn 0) sg sn 1) sg sn 3) sg sn 1) sg sn 3) sg sn 2)) isA (hcR_1 (E := E)) nd_A (haR_1 (E := E)) (hwR_1 (E := E)) (fun H locs w => ?_)
            refine lv_icmp_gt (tgt := 547) hx hb dL_isWell_476 (by decide) (fun h => absurd h (wl_8 hG hM bz.1 hev.1)) (fun _ => ?_)
            refine lv_iload hx hb dL_isWell_479 (lv_at hl 5 rfl) ?_
            refine lv_aload_n hx hb dL_isWell_481 rfl (lv_at hl 8 rfl) ?_
            refine lv_bipush (v := 9) hx hb dL_isWell_482 (by decide) ?_
            refine r_ci w (r_runV (As := [.int 9]) (rest := [.int (bkN f 61 ((f 12).toNatClampNeg))]) X w (q_count l E A (ob_best (ob_would (ob_best (ob_would (ob_best (ob_best S sg sn 0) sg sn 1) (an_best S sg sn 0) (an_best (ob_best S sg sn 0) sg sn 1) sg sn 3) sg sn 1) (an_best S sg sn 0) (an_best (ob_would (ob_best (ob_best S sg sn 0) sg sn 1) (an_best S sg sn 0) (an_best (ob_best S sg sn 0) sg sn 1) sg sn 3) sg sn 1) sg sn 3) sg sn 2) 9 ) ck_L_15 ⟨Nat.le_of_ble_eq_true rfl, Nat.le_of_ble_eq_true rfl⟩ isA (hcR_1 (E := E)) nd_A (k0 := 0) CL6 rfl hl.1 (Nat.le_of_ble_eq_true rfl) rfl dL_isWell_484 ⟨Nat.le_of_ble_eq_true rfl, Nat.le_of_ble_eq_true rfl⟩) (wOb E A (ob_best (ob_would (ob_best (ob_would (ob_best (ob_best S sg sn 0) sg sn 1) (an_best S sg sn 0) (an_best (ob_best S sg sn 0) sg sn 1) sg sn 3) sg sn 1) (an_best S sg sn 0) (an_best (ob_would (ob_best (ob_best S sg sn 0) sg sn 1) (an_best S sg sn 0) (an_best (ob_best S sg sn 0) sg sn 1) sg sn 3) sg sn 1) sg sn 3) sg sn 2)) isA (hcR_1 (E := E)) nd_A (haR_1 (E := E)) (hwR_1 (E := E)) (fun H locs w => ?_)
            refine lv_icmp_gt (tgt := 547) hx hb dL_isWell_487 (by decide) (fun h => absurd h (wl_9 hG hM bz.1 hev.1)) (fun _ => ?_)
            refine lv_iload hx hb dL_isWell_490 (lv_at hl 4 rfl) ?_
            refine lv_sipush (v := 312) hx hb dL_isWell_492 (by decide) ?_
            refine lv_icmp_ne (tgt := 547) hx hb dL_isWell_495 (by decide) (fun h => absurd bsN_61 h) (fun _ => ?_)
            refine lv_aload_n hx hb dL_isWell_498 rfl (lv_at hl 8 rfl) ?_
            refine lv_bipush (v := 7) hx hb dL_isWell_499 (by decide) ?_
            refine r_ci w (r_runV (As := [.int 7]) (rest := []) X w (q_count l E A (ob_best (ob_would (ob_best (ob_would (ob_best (ob_best S sg sn 0) sg sn 1) (an_best S sg sn 0) (an_best (ob_best S sg sn 0) sg sn 1) sg sn 3) sg sn 1) (an_best S sg sn 0) (an_best (ob_would (ob_best (ob_best S sg sn 0) sg sn 1) (an_best S sg sn 0) (an_best (ob_best S sg sn 0) sg sn 1) sg sn 3) sg sn 1) sg sn 3) sg sn 2) 7 ) ck_L_15 ⟨Nat.le_of_ble_eq_true rfl, Nat.le_of_ble_eq_true rfl⟩ isA (hcR_1 (E := E)) nd_A (k0 := 0) CL6 rfl hl.1 (Nat.le_of_ble_eq_true rfl) rfl dL_isWell_501 ⟨Nat.le_of_ble_eq_true rfl, Nat.le_of_ble_eq_true rfl⟩) (wOb E A (ob_best (ob_would (ob_best (ob_would (ob_best (ob_best S sg sn 0) sg sn 1) (an_best S sg sn 0) (an_best (ob_best S sg sn 0) sg sn 1) sg sn 3) sg sn 1) (an_best S sg sn 0) (an_best (ob_would (ob_best (ob_best S sg sn 0) sg sn 1) (an_best S sg sn 0) (an_best (ob_best S sg sn 0) sg sn 1) sg sn 3) sg sn 1) sg sn 3) sg sn 2)) isA (hcR_1 (E := E)) nd_A (haR_1 (E := E)) (hwR_1 (E := E)) (fun H locs w => ?_)
            refine lv_aload_n hx hb dL_isWell_504 rfl (lv_at hl 8 rfl) ?_
            refine lv_bipush (v := 6) hx hb dL_isWell_505 (by decide) ?_
            refine r_ci w (r_runV (As := [.int 6]) (rest := [.int (an_count (ob_best (ob_would (ob_best (ob_would (ob_best (ob_best S sg sn 0) sg sn 1) (an_best S sg sn 0) (an_best (ob_best S sg sn 0) sg sn 1) sg sn 3) sg sn 1) (an_best S sg sn 0) (an_best (ob_would (ob_best (ob_best S sg sn 0) sg sn 1) (an_best S sg sn 0) (an_best (ob_best S sg sn 0) sg sn 1) sg sn 3) sg sn 1) sg sn 3) sg sn 2) 7)]) X w (q_count l E A (ob_best (ob_would (ob_best (ob_would (ob_best (ob_best S sg sn 0) sg sn 1) (an_best S sg sn 0) (an_best (ob_best S sg sn 0) sg sn 1) sg sn 3) sg sn 1) (an_best S sg sn 0) (an_best (ob_would (ob_best (ob_best S sg sn 0) sg sn 1) (an_best S sg sn 0) (an_best (ob_best S sg sn 0) sg sn 1) sg sn 3) sg sn 1) sg sn 3) sg sn 2) 6 ) ck_L_15 ⟨Nat.le_of_ble_eq_true rfl, Nat.le_of_ble_eq_true rfl⟩ isA (hcR_1 (E := E)) nd_A (k0 := 0) CL6 rfl hl.1 (Nat.le_of_ble_eq_true rfl) rfl dL_isWell_507 ⟨Nat.le_of_ble_eq_true rfl, Nat.le_of_ble_eq_true rfl⟩) (wOb E A (ob_best (ob_would (ob_best (ob_would (ob_best (ob_best S sg sn 0) sg sn 1) (an_best S sg sn 0) (an_best (ob_best S sg sn 0) sg sn 1) sg sn 3) sg sn 1) (an_best S sg sn 0) (an_best (ob_would (ob_best (ob_best S sg sn 0) sg sn 1) (an_best S sg sn 0) (an_best (ob_best S sg sn 0) sg sn 1) sg sn 3) sg sn 1) sg sn 3) sg sn 2)) isA (hcR_1 (E := E)) nd_A (haR_1 (E := E)) (hwR_1 (E := E)) (fun H locs w => ?_)
            refine lv_icmp_gt (tgt := 547) hx hb dL_isWell_510 (by decide) (fun h => absurd h (wl_76 hG bz.1)) (fun _ => ?_)
            refine lv_aload_n hx hb dL_isWell_513 rfl (lv_at hl 8 rfl) ?_
            refine lv_bipush (v := 7) hx hb dL_isWell_514 (by decide) ?_
            refine r_ci w (r_runV (As := [.int 7]) (rest := []) X w (q_count l E A (ob_best (ob_would (ob_best (ob_would (ob_best (ob_best S sg sn 0) sg sn 1) (an_best S sg sn 0) (an_best (ob_best S sg sn 0) sg sn 1) sg sn 3) sg sn 1) (an_best S sg sn 0) (an_best (ob_would (ob_best (ob_best S sg sn 0) sg sn 1) (an_best S sg sn 0) (an_best (ob_best S sg sn 0) sg sn 1) sg sn 3) sg sn 1) sg sn 3) sg sn 2) 7 ) ck_L_15 ⟨Nat.le_of_ble_eq_true rfl, Nat.le_of_ble_eq_true rfl⟩ isA (hcR_1 (E := E)) nd_A (k0 := 0) CL6 rfl hl.1 (Nat.le_of_ble_eq_true rfl) rfl dL_isWell_516 ⟨Nat.le_of_ble_eq_true rfl, Nat.le_of_ble_eq_true rfl⟩) (wOb E A (ob_best (ob_would (ob_best (ob_would (ob_best (ob_best S sg sn 0) sg sn 1) (an_best S sg sn 0) (an_best (ob_best S sg sn 0) sg sn 1) sg sn 3) sg sn 1) (an_best S sg sn 0) (an_best (ob_would (ob_best (ob_best S sg sn 0) sg sn 1) (an_best S sg sn 0) (an_best (ob_best S sg sn 0) sg sn 1) sg sn 3) sg sn 1) sg sn 3) sg sn 2)) isA (hcR_1 (E := E)) nd_A (haR_1 (E := E)) (hwR_1 (E := E)) (fun H locs w => ?_)
            refine lv_aload_n hx hb dL_isWell_519 rfl (lv_at hl 8 rfl) ?_
            refine lv_iconst (v := 1) hx hb dL_isWell_520 (by decide) ?_
            refine r_ci w (r_runV (As := [.int 1]) (rest := [.int (an_count (ob_best (ob_would (ob_best (ob_would (ob_best (ob_best S sg sn 0) sg sn 1) (an_best S sg sn 0) (an_best (ob_best S sg sn 0) sg sn 1) sg sn 3) sg sn 1) (an_best S sg sn 0) (an_best (ob_would (ob_best (ob_best S sg sn 0) sg sn 1) (an_best S sg sn 0) (an_best (ob_best S sg sn 0) sg sn 1) sg sn 3) sg sn 1) sg sn 3) sg sn 2) 7)]) X w (q_count l E A (ob_best (ob_would (ob_best (ob_would (ob_best (ob_best S sg sn 0) sg sn 1) (an_best S sg sn 0) (an_best (ob_best S sg sn 0) sg sn 1) sg sn 3) sg sn 1) (an_best S sg sn 0) (an_best (ob_would (ob_best (ob_best S sg sn 0) sg sn 1) (an_best S sg sn 0) (an_best (ob_best S sg sn 0) sg sn 1) sg sn 3) sg sn 1) sg sn 3) sg sn 2) 1 ) ck_L_15 ⟨Nat.le_of_ble_eq_true rfl, Nat.le_of_ble_eq_true rfl⟩ isA (hcR_1 (E := E)) nd_A (k0 := 0) CL6 rfl hl.1 (Nat.le_of_ble_eq_true rfl) rfl dL_isWell_521 ⟨Nat.le_of_ble_eq_true rfl, Nat.le_of_ble_eq_true rfl⟩) (wOb E A (ob_best (ob_would (ob_best (ob_would (ob_best (ob_best S sg sn 0) sg sn 1) (an_best S sg sn 0) (an_best (ob_best S sg sn 0) sg sn 1) sg sn 3) sg sn 1) (an_best S sg sn 0) (an_best (ob_would (ob_best (ob_best S sg sn 0) sg sn 1) (an_best S sg sn 0) (an_best (ob_best S sg sn 0) sg sn 1) sg sn 3) sg sn 1) sg sn 3) sg sn 2)) isA (hcR_1 (E := E)) nd_A (haR_1 (E := E)) (hwR_1 (E := E)) (fun H locs w => ?_)
            refine lv_iload_n hx hb dL_isWell_524 rfl (lv_at hl 7 rfl) ?_
            refine lv_isub hx hb dL_isWell_525 ?_
            refine lv_icmp_gt (tgt := 547) hx hb dL_isWell_526 (by decide) (fun h => absurd h (wl_71 hG bz.1 hev.1 hev.2)) (fun _ => ?_)
            refine lv_aload_n hx hb dL_isWell_529 rfl (lv_at hl 8 rfl) ?_
            refine lv_iconst (v := 5) hx hb dL_isWell_530 (by decide) ?_
            refine r_ci w (r_runV (As := [.int 5]) (rest := []) X w (q_count l E A (ob_best (ob_would (ob_best (ob_would (ob_best (ob_best S sg sn 0) sg sn 1) (an_best S sg sn 0) (an_best (ob_best S sg sn 0) sg sn 1) sg sn 3) sg sn 1) (an_best S sg sn 0) (an_best (ob_would (ob_best (ob_best S sg sn 0) sg sn 1) (an_best S sg sn 0) (an_best (ob_best S sg sn 0) sg sn 1) sg sn 3) sg sn 1) sg sn 3) sg sn 2) 5 ) ck_L_15 ⟨Nat.le_of_ble_eq_true rfl, Nat.le_of_ble_eq_true rfl⟩ isA (hcR_1 (E := E)) nd_A (k0 := 0) CL6 rfl hl.1 (Nat.le_of_ble_eq_true rfl) rfl dL_isWell_531 ⟨Nat.le_of_ble_eq_true rfl, Nat.le_of_ble_eq_true rfl⟩) (wOb E A (ob_best (ob_would (ob_best (ob_would (ob_best (ob_best S sg sn 0) sg sn 1) (an_best S sg sn 0) (an_best (ob_best S sg sn 0) sg sn 1) sg sn 3) sg sn 1) (an_best S sg sn 0) (an_best (ob_would (ob_best (ob_best S sg sn 0) sg sn 1) (an_best S sg sn 0) (an_best (ob_best S sg sn 0) sg sn 1) sg sn 3) sg sn 1) sg sn 3) sg sn 2)) isA (hcR_1 (E := E)) nd_A (haR_1 (E := E)) (hwR_1 (E := E)) (fun H locs w => ?_)
            refine lv_aload_n hx hb dL_isWell_534 rfl (lv_at hl 8 rfl) ?_
            refine lv_bipush (v := 7) hx hb dL_isWell_535 (by decide) ?_
            refine r_ci w (r_runV (As := [.int 7]) (rest := [.int (an_count (ob_best (ob_would (ob_best (ob_would (ob_best (ob_best S sg sn 0) sg sn 1) (an_best S sg sn 0) (an_best (ob_best S sg sn 0) sg sn 1) sg sn 3) sg sn 1) (an_best S sg sn 0) (an_best (ob_would (ob_best (ob_best S sg sn 0) sg sn 1) (an_best S sg sn 0) (an_best (ob_best S sg sn 0) sg sn 1) sg sn 3) sg sn 1) sg sn 3) sg sn 2) 5)]) X w (q_count l E A (ob_best (ob_would (ob_best (ob_would (ob_best (ob_best S sg sn 0) sg sn 1) (an_best S sg sn 0) (an_best (ob_best S sg sn 0) sg sn 1) sg sn 3) sg sn 1) (an_best S sg sn 0) (an_best (ob_would (ob_best (ob_best S sg sn 0) sg sn 1) (an_best S sg sn 0) (an_best (ob_best S sg sn 0) sg sn 1) sg sn 3) sg sn 1) sg sn 3) sg sn 2) 7 ) ck_L_15 ⟨Nat.le_of_ble_eq_true rfl, Nat.le_of_ble_eq_true rfl⟩ isA (hcR_1 (E := E)) nd_A (k0 := 0) CL6 rfl hl.1 (Nat.le_of_ble_eq_true rfl) rfl dL_isWell_537 ⟨Nat.le_of_ble_eq_true rfl, Nat.le_of_ble_eq_true rfl⟩) (wOb E A (ob_best (ob_would (ob_best (ob_would (ob_best (ob_best S sg sn 0) sg sn 1) (an_best S sg sn 0) (an_best (ob_best S sg sn 0) sg sn 1) sg sn 3) sg sn 1) (an_best S sg sn 0) (an_best (ob_would (ob_best (ob_best S sg sn 0) sg sn 1) (an_best S sg sn 0) (an_best (ob_best S sg sn 0) sg sn 1) sg sn 3) sg sn 1) sg sn 3) sg sn 2)) isA (hcR_1 (E := E)) nd_A (haR_1 (E := E)) (hwR_1 (E := E)) (fun H locs w => ?_)
            refine lv_icmp_gt (tgt := 547) hx hb dL_isWell_540 (by decide) (fun h => absurd h (wl_57 hG bz.1)) (fun _ => ?_)
            refine lv_iconst (v := 1) hx hb dL_isWell_543 (by decide) ?_
            refine lv_goto (tgt := 548) hx hb dL_isWell_544 (by decide) ?_
            exact r_eret X w hr (Or.inr rfl) ⟨rfl, _, bz, rfl⟩ (haR_1 (E := E)) dL_isWell_548
          · obtain ⟨bz, x2⟩ := best_2 hG hM b1 hf
            rw [if_pos (best_none (x0.symm.trans c368_3))] at x2
            refine lv_aload_n hx hb dL_isWell_371 rfl (lv_at hl 8 rfl) ?_
            refine lv_iload hx hb dL_isWell_372 (lv_at hl 2 rfl) ?_
            refine lv_iload hx hb dL_isWell_374 (lv_at hl 1 rfl) ?_
            refine lv_iconst (v := 2) hx hb dL_isWell_376 (by decide) ?_
            refine r_ci w (r_runV (As := [.int sg, .int sn, .int 2]) (rest := []) X w (q_best l E A (ob_best S sg sn 0) sg sn 2 (SB_gs hG b1)) ck_L_91 ⟨Nat.le_of_ble_eq_true rfl, Nat.le_of_ble_eq_true rfl⟩ isA (hcR_1 (E := E)) nd_A (k0 := 0) CL6 rfl hl.1 (Nat.le_of_ble_eq_true rfl) rfl dL_isWell_377 ⟨Nat.le_of_ble_eq_true rfl, Nat.le_of_ble_eq_true rfl⟩) (wOb E A (ob_best (ob_best S sg sn 0) sg sn 2)) isA (hcR_1 (E := E)) nd_A (haR_1 (E := E)) (hwR_1 (E := E)) (fun H locs w => ?_)
            refine lv_iload hx hb dL_isWell_380 (lv_at hl 0 rfl) ?_
            refine lv_icmp_ne (tgt := 452) hx hb dL_isWell_382 (by decide) (fun h => absurd (x2.trans c368_3.symm) h) (fun _ => ?_)
            refine lv_goto (tgt := 448) hx hb dL_isWell_385 (by decide) ?_
            refine lv_iconst (v := 1) hx hb dL_isWell_448 (by decide) ?_
            refine lv_goto (tgt := 453) hx hb dL_isWell_449 (by decide) ?_
            refine lv_istore (lv' := [(5, .int 1), (9, .int (an_best S sg sn 0)), (8, .int sn), (7, .int sg), (6, .int (bsN 61)), (4, .int (bkN f 61 ((f 12).toNatClampNeg))), (3, .int (bkN f 49 ((f 12).toNatClampNeg))), (2, .int (nI (onN f ((f 12).toNatClampNeg)))), (0, .ref (adH A)), (1, .int vx)]) hx hb dL_isWell_453 hl (by decide) rfl (fun ls hl => ?_)
            refine lv_iload hx hb dL_isWell_455 (lv_at hl 0 rfl) ?_
            refine lv_if_eq (tgt := 547) hx hb dL_isWell_457 (by decide) (fun h => absurd h (by decide)) (fun _ => ?_)
            refine lv_iload_n hx hb dL_isWell_460 rfl (lv_at hl 7 rfl) ?_
            refine lv_aload_n hx hb dL_isWell_461 rfl (lv_at hl 8 rfl) ?_
            refine lv_iconst (v := 0) hx hb dL_isWell_462 (by decide) ?_
            refine r_ci w (r_runV (As := [.int 0]) (rest := [.int (nI (onN f ((f 12).toNatClampNeg)))]) X w (q_count l E A (ob_best (ob_best S sg sn 0) sg sn 2) 0 ) ck_L_15 ⟨Nat.le_of_ble_eq_true rfl, Nat.le_of_ble_eq_true rfl⟩ isA (hcR_1 (E := E)) nd_A (k0 := 0) CL6 rfl hl.1 (Nat.le_of_ble_eq_true rfl) rfl dL_isWell_463 ⟨Nat.le_of_ble_eq_true rfl, Nat.le_of_ble_eq_true rfl⟩) (wOb E A (ob_best (ob_best S sg sn 0) sg sn 2)) isA (hcR_1 (E := E)) nd_A (haR_1 (E := E)) (hwR_1 (E := E)) (fun H locs w => ?_)
            refine lv_icmp_ne (tgt := 547) hx hb dL_isWell_466 (by decide) (fun h => absurd (wl_on hG bz.1 hev.1 hev.2) h) (fun _ => ?_)
            refine lv_iload_n hx hb dL_isWell_469 rfl (lv_at hl 6 rfl) ?_
            refine lv_aload_n hx hb dL_isWell_470 rfl (lv_at hl 8 rfl) ?_
            refine lv_bipush (v := 8) hx hb dL_isWell_471 (by decide) ?_
            refine r_ci w (r_runV (As := [.int 8]) (rest := [.int (bkN f 49 ((f 12).toNatClampNeg))]) X w (q_count l E A (ob_best (ob_best S sg sn 0) sg sn 2) 8 ) ck_L_15 ⟨Nat.le_of_ble_eq_true rfl, Nat.le_of_ble_eq_true rfl⟩ isA (hcR_1 (E := E)) nd_A (k0 := 0) CL6 rfl hl.1 (Nat.le_of_ble_eq_true rfl) rfl dL_isWell_473 ⟨Nat.le_of_ble_eq_true rfl, Nat.le_of_ble_eq_true rfl⟩) (wOb E A (ob_best (ob_best S sg sn 0) sg sn 2)) isA (hcR_1 (E := E)) nd_A (haR_1 (E := E)) (hwR_1 (E := E)) (fun H locs w => ?_)
            refine lv_icmp_gt (tgt := 547) hx hb dL_isWell_476 (by decide) (fun h => absurd h (wl_8 hG hM bz.1 hev.1)) (fun _ => ?_)
            refine lv_iload hx hb dL_isWell_479 (lv_at hl 5 rfl) ?_
            refine lv_aload_n hx hb dL_isWell_481 rfl (lv_at hl 8 rfl) ?_
            refine lv_bipush (v := 9) hx hb dL_isWell_482 (by decide) ?_
            refine r_ci w (r_runV (As := [.int 9]) (rest := [.int (bkN f 61 ((f 12).toNatClampNeg))]) X w (q_count l E A (ob_best (ob_best S sg sn 0) sg sn 2) 9 ) ck_L_15 ⟨Nat.le_of_ble_eq_true rfl, Nat.le_of_ble_eq_true rfl⟩ isA (hcR_1 (E := E)) nd_A (k0 := 0) CL6 rfl hl.1 (Nat.le_of_ble_eq_true rfl) rfl dL_isWell_484 ⟨Nat.le_of_ble_eq_true rfl, Nat.le_of_ble_eq_true rfl⟩) (wOb E A (ob_best (ob_best S sg sn 0) sg sn 2)) isA (hcR_1 (E := E)) nd_A (haR_1 (E := E)) (hwR_1 (E := E)) (fun H locs w => ?_)
            refine lv_icmp_gt (tgt := 547) hx hb dL_isWell_487 (by decide) (fun h => absurd h (wl_9 hG hM bz.1 hev.1)) (fun _ => ?_)
            refine lv_iload hx hb dL_isWell_490 (lv_at hl 4 rfl) ?_
            refine lv_sipush (v := 312) hx hb dL_isWell_492 (by decide) ?_
            refine lv_icmp_ne (tgt := 547) hx hb dL_isWell_495 (by decide) (fun h => absurd bsN_61 h) (fun _ => ?_)
            refine lv_aload_n hx hb dL_isWell_498 rfl (lv_at hl 8 rfl) ?_
            refine lv_bipush (v := 7) hx hb dL_isWell_499 (by decide) ?_
            refine r_ci w (r_runV (As := [.int 7]) (rest := []) X w (q_count l E A (ob_best (ob_best S sg sn 0) sg sn 2) 7 ) ck_L_15 ⟨Nat.le_of_ble_eq_true rfl, Nat.le_of_ble_eq_true rfl⟩ isA (hcR_1 (E := E)) nd_A (k0 := 0) CL6 rfl hl.1 (Nat.le_of_ble_eq_true rfl) rfl dL_isWell_501 ⟨Nat.le_of_ble_eq_true rfl, Nat.le_of_ble_eq_true rfl⟩) (wOb E A (ob_best (ob_best S sg sn 0) sg sn 2)) isA (hcR_1 (E := E)) nd_A (haR_1 (E := E)) (hwR_1 (E := E)) (fun H locs w => ?_)
            refine lv_aload_n hx hb dL_isWell_504 rfl (lv_at hl 8 rfl) ?_
            refine lv_bipush (v := 6) hx hb dL_isWell_505 (by decide) ?_
            refine r_ci w (r_runV (As := [.int 6]) (rest := [.int (an_count (ob_best (ob_best S sg sn 0) sg sn 2) 7)]) X w (q_count l E A (ob_best (ob_best S sg sn 0) sg sn 2) 6 ) ck_L_15 ⟨Nat.le_of_ble_eq_true rfl, Nat.le_of_ble_eq_true rfl⟩ isA (hcR_1 (E := E)) nd_A (k0 := 0) CL6 rfl hl.1 (Nat.le_of_ble_eq_true rfl) rfl dL_isWell_507 ⟨Nat.le_of_ble_eq_true rfl, Nat.le_of_ble_eq_true rfl⟩) (wOb E A (ob_best (ob_best S sg sn 0) sg sn 2)) isA (hcR_1 (E := E)) nd_A (haR_1 (E := E)) (hwR_1 (E := E)) (fun H locs w => ?_)
            refine lv_icmp_gt (tgt := 547) hx hb dL_isWell_510 (by decide) (fun h => absurd h (wl_76 hG bz.1)) (fun _ => ?_)
            refine lv_aload_n hx hb dL_isWell_513 rfl (lv_at hl 8 rfl) ?_
            refine lv_bipush (v := 7) hx hb dL_isWell_514 (by decide) ?_
            refine r_ci w (r_runV (As := [.int 7]) (rest := []) X w (q_count l E A (ob_best (ob_best S sg sn 0) sg sn 2) 7 ) ck_L_15 ⟨Nat.le_of_ble_eq_true rfl, Nat.le_of_ble_eq_true rfl⟩ isA (hcR_1 (E := E)) nd_A (k0 := 0) CL6 rfl hl.1 (Nat.le_of_ble_eq_true rfl) rfl dL_isWell_516 ⟨Nat.le_of_ble_eq_true rfl, Nat.le_of_ble_eq_true rfl⟩) (wOb E A (ob_best (ob_best S sg sn 0) sg sn 2)) isA (hcR_1 (E := E)) nd_A (haR_1 (E := E)) (hwR_1 (E := E)) (fun H locs w => ?_)
            refine lv_aload_n hx hb dL_isWell_519 rfl (lv_at hl 8 rfl) ?_
            refine lv_iconst (v := 1) hx hb dL_isWell_520 (by decide) ?_
            refine r_ci w (r_runV (As := [.int 1]) (rest := [.int (an_count (ob_best (ob_best S sg sn 0) sg sn 2) 7)]) X w (q_count l E A (ob_best (ob_best S sg sn 0) sg sn 2) 1 ) ck_L_15 ⟨Nat.le_of_ble_eq_true rfl, Nat.le_of_ble_eq_true rfl⟩ isA (hcR_1 (E := E)) nd_A (k0 := 0) CL6 rfl hl.1 (Nat.le_of_ble_eq_true rfl) rfl dL_isWell_521 ⟨Nat.le_of_ble_eq_true rfl, Nat.le_of_ble_eq_true rfl⟩) (wOb E A (ob_best (ob_best S sg sn 0) sg sn 2)) isA (hcR_1 (E := E)) nd_A (haR_1 (E := E)) (hwR_1 (E := E)) (fun H locs w => ?_)
            refine lv_iload_n hx hb dL_isWell_524 rfl (lv_at hl 7 rfl) ?_
            refine lv_isub hx hb dL_isWell_525 ?_
            refine lv_icmp_gt (tgt := 547) hx hb dL_isWell_526 (by decide) (fun h => absurd h (wl_71 hG bz.1 hev.1 hev.2)) (fun _ => ?_)
            refine lv_aload_n hx hb dL_isWell_529 rfl (lv_at hl 8 rfl) ?_
            refine lv_iconst (v := 5) hx hb dL_isWell_530 (by decide) ?_
            refine r_ci w (r_runV (As := [.int 5]) (rest := []) X w (q_count l E A (ob_best (ob_best S sg sn 0) sg sn 2) 5 ) ck_L_15 ⟨Nat.le_of_ble_eq_true rfl, Nat.le_of_ble_eq_true rfl⟩ isA (hcR_1 (E := E)) nd_A (k0 := 0) CL6 rfl hl.1 (Nat.le_of_ble_eq_true rfl) rfl dL_isWell_531 ⟨Nat.le_of_ble_eq_true rfl, Nat.le_of_ble_eq_true rfl⟩) (wOb E A (ob_best (ob_best S sg sn 0) sg sn 2)) isA (hcR_1 (E := E)) nd_A (haR_1 (E := E)) (hwR_1 (E := E)) (fun H locs w => ?_)
            refine lv_aload_n hx hb dL_isWell_534 rfl (lv_at hl 8 rfl) ?_
            refine lv_bipush (v := 7) hx hb dL_isWell_535 (by decide) ?_
            refine r_ci w (r_runV (As := [.int 7]) (rest := [.int (an_count (ob_best (ob_best S sg sn 0) sg sn 2) 5)]) X w (q_count l E A (ob_best (ob_best S sg sn 0) sg sn 2) 7 ) ck_L_15 ⟨Nat.le_of_ble_eq_true rfl, Nat.le_of_ble_eq_true rfl⟩ isA (hcR_1 (E := E)) nd_A (k0 := 0) CL6 rfl hl.1 (Nat.le_of_ble_eq_true rfl) rfl dL_isWell_537 ⟨Nat.le_of_ble_eq_true rfl, Nat.le_of_ble_eq_true rfl⟩) (wOb E A (ob_best (ob_best S sg sn 0) sg sn 2)) isA (hcR_1 (E := E)) nd_A (haR_1 (E := E)) (hwR_1 (E := E)) (fun H locs w => ?_)
            refine lv_icmp_gt (tgt := 547) hx hb dL_isWell_540 (by decide) (fun h => absurd h (wl_57 hG bz.1)) (fun _ => ?_)
            refine lv_iconst (v := 1) hx hb dL_isWell_543 (by decide) ?_
            refine lv_goto (tgt := 548) hx hb dL_isWell_544 (by decide) ?_
            exact r_eret X w hr (Or.inr rfl) ⟨rfl, _, bz, rfl⟩ (haR_1 (E := E)) dL_isWell_548
        | succ n2 ih2 =>
          intro k hk_k H locs w ls hl
          have hkNn2 : k < 61 := by omega
          refine lv_iload hx hb dL_isWell_170 (lv_at hl 0 rfl) ?_
          refine lv_bipush (v := 61) hx hb dL_isWell_172 (by decide) ?_
          refine lv_icmp_ge (tgt := 326) hx hb dL_isWell_174 (by decide) (fun h => absurd h (nI_ge (b := 61) hkNn2 (by decide))) (fun _ => ?_)
          refine lv_aload_n hx hb dL_isWell_177 rfl (lv_at hl 6 rfl) ?_
          refine lv_iload hx hb dL_isWell_178 (lv_at hl 0 rfl) ?_
          refine lv_iconst (v := 0) hx hb dL_isWell_180 (by decide) ?_
          refine r_ci w (r_runV (As := [.int (nI k), .int 0]) (rest := []) X w (q_ofCell l E A S (nI k) 0 ) ck_L_34 ⟨Nat.le_of_ble_eq_true rfl, Nat.le_of_ble_eq_true rfl⟩ isA (hcR_1 (E := E)) nd_A (k0 := 0) CL6 rfl hl.1 (Nat.le_of_ble_eq_true rfl) rfl dL_isWell_181 ⟨Nat.le_of_ble_eq_true rfl, Nat.le_of_ble_eq_true rfl⟩) (wOb E A S) isA (hcR_1 (E := E)) nd_A (haR_1 (E := E)) (hwR_1 (E := E)) (fun H locs w => ?_)
          refine lv_iconst (v := 4) hx hb dL_isWell_184 (by decide) ?_
          refine lv_isub hx hb dL_isWell_185 ?_
          refine lv_istore (lv' := [(8, .int ((an_ofCell S (nI k) 0) - 4)), (7, .int (nI k)), (6, .int (bsN k)), (5, .int 1), (4, .int (bkN f 61 ((f 12).toNatClampNeg))), (3, .int (bkN f 49 ((f 12).toNatClampNeg))), (2, .int (nI (onN f ((f 12).toNatClampNeg)))), (0, .ref (adH A)), (1, .int vx)]) hx hb dL_isWell_186 hl (by decide) rfl (fun ls hl => ?_)
          refine lv_aload_n hx hb dL_isWell_188 rfl (lv_at hl 7 rfl) ?_
          refine lv_iload hx hb dL_isWell_189 (lv_at hl 1 rfl) ?_
          refine lv_iconst (v := 1) hx hb dL_isWell_191 (by decide) ?_
          refine r_ci w (r_runV (As := [.int (nI k), .int 1]) (rest := []) X w (q_ofCell l E A S (nI k) 1 ) ck_L_34 ⟨Nat.le_of_ble_eq_true rfl, Nat.le_of_ble_eq_true rfl⟩ isA (hcR_1 (E := E)) nd_A (k0 := 0) CL6 rfl hl.1 (Nat.le_of_ble_eq_true rfl) rfl dL_isWell_192 ⟨Nat.le_of_ble_eq_true rfl, Nat.le_of_ble_eq_true rfl⟩) (wOb E A S) isA (hcR_1 (E := E)) nd_A (haR_1 (E := E)) (hwR_1 (E := E)) (fun H locs w => ?_)
          refine lv_iconst (v := 4) hx hb dL_isWell_195 (by decide) ?_
          refine lv_isub hx hb dL_isWell_196 ?_
          refine lv_istore (lv' := [(9, .int ((an_ofCell S (nI k) 1) - 4)), (8, .int ((an_ofCell S (nI k) 0) - 4)), (7, .int (nI k)), (6, .int (bsN k)), (5, .int 1), (4, .int (bkN f 61 ((f 12).toNatClampNeg))), (3, .int (bkN f 49 ((f 12).toNatClampNeg))), (2, .int (nI (onN f ((f 12).toNatClampNeg)))), (0, .ref (adH A)), (1, .int vx)]) hx hb dL_isWell_197 hl (by decide) rfl (fun ls hl => ?_)
          refine lv_aload_n hx hb dL_isWell_199 rfl (lv_at hl 8 rfl) ?_
          refine lv_iload hx hb dL_isWell_200 (lv_at hl 2 rfl) ?_
          refine lv_iconst (v := 3) hx hb dL_isWell_202 (by decide) ?_
          refine r_ci w (r_runV (As := [.int (nI k), .int 3]) (rest := []) X w (q_ofCell l E A S (nI k) 3 ) ck_L_34 ⟨Nat.le_of_ble_eq_true rfl, Nat.le_of_ble_eq_true rfl⟩ isA (hcR_1 (E := E)) nd_A (k0 := 0) CL6 rfl hl.1 (Nat.le_of_ble_eq_true rfl) rfl dL_isWell_203 ⟨Nat.le_of_ble_eq_true rfl, Nat.le_of_ble_eq_true rfl⟩) (wOb E A S) isA (hcR_1 (E := E)) nd_A (haR_1 (E := E)) (hwR_1 (E := E)) (fun H locs w => ?_)
          refine lv_istore (lv' := [(10, .int (an_ofCell S (nI k) 3)), (9, .int ((an_ofCell S (nI k) 1) - 4)), (8, .int ((an_ofCell S (nI k) 0) - 4)), (7, .int (nI k)), (6, .int (bsN k)), (5, .int 1), (4, .int (bkN f 61 ((f 12).toNatClampNeg))), (3, .int (bkN f 49 ((f 12).toNatClampNeg))), (2, .int (nI (onN f ((f 12).toNatClampNeg)))), (0, .ref (adH A)), (1, .int vx)]) hx hb dL_isWell_206 hl (by decide) rfl (fun ls hl => ?_)
          refine lv_iload hx hb dL_isWell_208 (lv_at hl 4 rfl) ?_
          refine lv_aload_n hx hb dL_isWell_210 rfl (lv_at hl 9 rfl) ?_
          refine lv_iload hx hb dL_isWell_211 (lv_at hl 3 rfl) ?_
          refine lv_iconst (v := 4) hx hb dL_isWell_213 (by decide) ?_
          refine r_ci w (r_runV (As := [.int (nI k), .int 4]) (rest := [.int (bsN k)]) X w (q_ofCell l E A S (nI k) 4 ) ck_L_34 ⟨Nat.le_of_ble_eq_true rfl, Nat.le_of_ble_eq_true rfl⟩ isA (hcR_1 (E := E)) nd_A (k0 := 0) CL6 rfl hl.1 (Nat.le_of_ble_eq_true rfl) rfl dL_isWell_214 ⟨Nat.le_of_ble_eq_true rfl, Nat.le_of_ble_eq_true rfl⟩) (wOb E A S) isA (hcR_1 (E := E)) nd_A (haR_1 (E := E)) (hwR_1 (E := E)) (fun H locs w => ?_)
          refine lv_iadd hx hb dL_isWell_217 ?_
          refine lv_istore (lv' := [(6, .int ((bsN k) + (an_ofCell S (nI k) 4))), (10, .int (an_ofCell S (nI k) 3)), (9, .int ((an_ofCell S (nI k) 1) - 4)), (8, .int ((an_ofCell S (nI k) 0) - 4)), (7, .int (nI k)), (5, .int 1), (4, .int (bkN f 61 ((f 12).toNatClampNeg))), (3, .int (bkN f 49 ((f 12).toNatClampNeg))), (2, .int (nI (onN f ((f 12).toNatClampNeg)))), (0, .ref (adH A)), (1, .int vx)]) hx hb dL_isWell_218 hl (by decide) rfl (fun ls hl => ?_)
          refine lv_iload hx hb dL_isWell_220 (lv_at hl 5 rfl) ?_
          refine lv_if_eq (tgt := 317) hx hb dL_isWell_222 (by decide) (fun h => absurd h (by decide)) (fun _ => ?_)
          refine lv_aload_n hx hb dL_isWell_225 rfl (lv_at hl 9 rfl) ?_
          refine lv_iload hx hb dL_isWell_226 (lv_at hl 3 rfl) ?_
          refine lv_iload hx hb dL_isWell_228 (lv_at hl 2 rfl) ?_
          refine r_ci w (r_runV (As := [.int ((an_ofCell S (nI k) 0) - 4), .int ((an_ofCell S (nI k) 1) - 4)]) (rest := []) X w (q_cell l E A S ((an_ofCell S (nI k) 0) - 4) ((an_ofCell S (nI k) 1) - 4) ) ck_L_88 ⟨Nat.le_of_ble_eq_true rfl, Nat.le_of_ble_eq_true rfl⟩ isA (hcR_1 (E := E)) nd_A (k0 := 0) CL6 rfl hl.1 (Nat.le_of_ble_eq_true rfl) rfl dL_isWell_230 ⟨Nat.le_of_ble_eq_true rfl, Nat.le_of_ble_eq_true rfl⟩) (wOb E A S) isA (hcR_1 (E := E)) nd_A (haR_1 (E := E)) (hwR_1 (E := E)) (fun H locs w => ?_)
          refine lv_iload hx hb dL_isWell_233 (lv_at hl 4 rfl) ?_
          refine lv_icmp_ne (tgt := 317) hx hb dL_isWell_235 (by decide) (fun h => absurd (wc_cell (show k < 61 by omega)) h) (fun _ => ?_)
          refine lv_iload hx hb dL_isWell_238 (lv_at hl 3 rfl) ?_
          refine lv_iload hx hb dL_isWell_240 (lv_at hl 2 rfl) ?_
          refine lv_iadd hx hb dL_isWell_242 ?_
          refine lv_iconst (v := 5) hx hb dL_isWell_243 (by decide) ?_
          refine lv_icmp_ge (tgt := 317) hx hb dL_isWell_244 (by decide) (fun h => absurd h (wc_s1 (show k < 61 by omega))) (fun _ => ?_)
          refine lv_iload hx hb dL_isWell_247 (lv_at hl 3 rfl) ?_
          refine lv_iload hx hb dL_isWell_249 (lv_at hl 2 rfl) ?_
          refine lv_iadd hx hb dL_isWell_251 ?_
          refine lv_bipush (v := (-5)) hx hb dL_isWell_252 (by decide) ?_
          refine lv_icmp_le (tgt := 317) hx hb dL_isWell_254 (by decide) (fun h => absurd h (wc_s2 (show k < 61 by omega))) (fun _ => ?_)
          refine lv_iload hx hb dL_isWell_257 (lv_at hl 1 rfl) ?_
          refine lv_if_lt (tgt := 266) hx hb dL_isWell_259 (by decide) (fun c259_25 => ?_) (fun c259_25 => ?_)
          · refine lv_iconst (v := 0) hx hb dL_isWell_266 (by decide) ?_
            refine lv_aload_n hx hb dL_isWell_267 rfl (lv_at hl 9 rfl) ?_
            refine lv_iload hx hb dL_isWell_268 (lv_at hl 4 rfl) ?_
            refine lv_iconst (v := 4) hx hb dL_isWell_270 (by decide) ?_
            refine r_ci w (r_runV (As := [.int (nI k), .int 4]) (rest := [.int 0]) X w (q_ofCell l E A S (nI k) 4 ) ck_L_34 ⟨Nat.le_of_ble_eq_true rfl, Nat.le_of_ble_eq_true rfl⟩ isA (hcR_1 (E := E)) nd_A (k0 := 0) CL6 rfl hl.1 (Nat.le_of_ble_eq_true rfl) rfl dL_isWell_271 ⟨Nat.le_of_ble_eq_true rfl, Nat.le_of_ble_eq_true rfl⟩) (wOb E A S) isA (hcR_1 (E := E)) nd_A (haR_1 (E := E)) (hwR_1 (E := E)) (fun H locs w => ?_)
            refine lv_iconst (v := 3) hx hb dL_isWell_274 (by decide) ?_
            refine lv_icmp_ne (tgt := 282) hx hb dL_isWell_275 (by decide) (fun _ => ?_) (fun h => absurd h (wc_3n (show k < 61 by omega) c259_25))
            refine lv_iconst (v := 0) hx hb dL_isWell_282 (by decide) ?_
            refine lv_icmp_ne (tgt := 317) hx hb dL_isWell_283 (by decide) (fun h => absurd h (by decide)) (fun _ => ?_)
            refine lv_aload_n hx hb dL_isWell_286 rfl (lv_at hl 9 rfl) ?_
            refine lv_iload hx hb dL_isWell_287 (lv_at hl 4 rfl) ?_
            refine lv_iconst (v := 2) hx hb dL_isWell_289 (by decide) ?_
            refine r_ci w (r_runV (As := [.int (nI k), .int 2]) (rest := []) X w (q_ofCell l E A S (nI k) 2 ) ck_L_34 ⟨Nat.le_of_ble_eq_true rfl, Nat.le_of_ble_eq_true rfl⟩ isA (hcR_1 (E := E)) nd_A (k0 := 0) CL6 rfl hl.1 (Nat.le_of_ble_eq_true rfl) rfl dL_isWell_290 ⟨Nat.le_of_ble_eq_true rfl, Nat.le_of_ble_eq_true rfl⟩) (wOb E A S) isA (hcR_1 (E := E)) nd_A (haR_1 (E := E)) (hwR_1 (E := E)) (fun H locs w => ?_)
            refine lv_if_lt (tgt := 313) hx hb dL_isWell_293 (by decide) (fun c293_27 => ?_) (fun c293_27 => ?_)
            · refine lv_iconst (v := 1) hx hb dL_isWell_313 (by decide) ?_
              refine lv_goto (tgt := 318) hx hb dL_isWell_314 (by decide) ?_
              refine lv_istore (lv' := [(5, .int 1), (6, .int ((bsN k) + (an_ofCell S (nI k) 4))), (10, .int (an_ofCell S (nI k) 3)), (9, .int ((an_ofCell S (nI k) 1) - 4)), (8, .int ((an_ofCell S (nI k) 0) - 4)), (7, .int (nI k)), (4, .int (bkN f 61 ((f 12).toNatClampNeg))), (3, .int (bkN f 49 ((f 12).toNatClampNeg))), (2, .int (nI (onN f ((f 12).toNatClampNeg)))), (0, .ref (adH A)), (1, .int vx)]) hx hb dL_isWell_318 hl (by decide) rfl (fun ls hl => ?_)
              refine lv_iinc (v := (nI k) + 1) (lv' := [(7, .int ((nI k) + 1)), (5, .int 1), (6, .int ((bsN k) + (an_ofCell S (nI k) 4))), (10, .int (an_ofCell S (nI k) 3)), (9, .int ((an_ofCell S (nI k) 1) - 4)), (8, .int ((an_ofCell S (nI k) 0) - 4)), (4, .int (bkN f 61 ((f 12).toNatClampNeg))), (3, .int (bkN f 49 ((f 12).toNatClampNeg))), (2, .int (nI (onN f ((f 12).toNatClampNeg)))), (0, .ref (adH A)), (1, .int vx)]) hx hb dL_isWell_320 hl (k := 5) rfl (by first | rfl | decide) (by decide) rfl (fun ls hl => ?_)
              refine lv_goto (tgt := 170) hx hb dL_isWell_323 (by decide) ?_
              have e0 : nI k + 1 = nI (k + 1) := nI_1 k
              rw [e0] at hl
              rw [wc_b (show k < 61 by omega)] at hl
              exact ih2 (k + 1) (by omega) _ _ w ls (lv_sub hl [0, 2, 1, 6, 7, 8, 9, 10] rfl)
            · refine lv_aload_n hx hb dL_isWell_296 rfl (lv_at hl 9 rfl) ?_
              refine lv_aload_n hx hb dL_isWell_297 rfl (lv_at hl 9 rfl) ?_
              refine lv_iload hx hb dL_isWell_298 (lv_at hl 4 rfl) ?_
              refine lv_iconst (v := 2) hx hb dL_isWell_300 (by decide) ?_
              refine r_ci w (r_runV (As := [.int (nI k), .int 2]) (rest := [.ref (adH A)]) X w (q_ofCell l E A S (nI k) 2 ) ck_L_34 ⟨Nat.le_of_ble_eq_true rfl, Nat.le_of_ble_eq_true rfl⟩ isA (hcR_1 (E := E)) nd_A (k0 := 0) CL6 rfl hl.1 (Nat.le_of_ble_eq_true rfl) rfl dL_isWell_301 ⟨Nat.le_of_ble_eq_true rfl, Nat.le_of_ble_eq_true rfl⟩) (wOb E A S) isA (hcR_1 (E := E)) nd_A (haR_1 (E := E)) (hwR_1 (E := E)) (fun H locs w => ?_)
              refine lv_iconst (v := 0) hx hb dL_isWell_304 (by decide) ?_
              refine r_ci w (r_runV (As := [.int (an_ofCell S (nI k) 2), .int 0]) (rest := []) X w (q_ball l E A S (an_ofCell S (nI k) 2) 0 ) ck_L_25 ⟨Nat.le_of_ble_eq_true rfl, Nat.le_of_ble_eq_true rfl⟩ isA (hcR_1 (E := E)) nd_A (k0 := 0) CL6 rfl hl.1 (Nat.le_of_ble_eq_true rfl) rfl dL_isWell_305 ⟨Nat.le_of_ble_eq_true rfl, Nat.le_of_ble_eq_true rfl⟩) (wOb E A S) isA (hcR_1 (E := E)) nd_A (haR_1 (E := E)) (hwR_1 (E := E)) (fun H locs w => ?_)
              refine lv_iload hx hb dL_isWell_308 (lv_at hl 4 rfl) ?_
              refine lv_icmp_ne (tgt := 317) hx hb dL_isWell_310 (by decide) (fun h => absurd (wc_on hS.1 (show k < 61 by omega) c293_27) h) (fun _ => ?_)
              refine lv_iconst (v := 1) hx hb dL_isWell_313 (by decide) ?_
              refine lv_goto (tgt := 318) hx hb dL_isWell_314 (by decide) ?_
              refine lv_istore (lv' := [(5, .int 1), (6, .int ((bsN k) + (an_ofCell S (nI k) 4))), (10, .int (an_ofCell S (nI k) 3)), (9, .int ((an_ofCell S (nI k) 1) - 4)), (8, .int ((an_ofCell S (nI k) 0) - 4)), (7, .int (nI k)), (4, .int (bkN f 61 ((f 12).toNatClampNeg))), (3, .int (bkN f 49 ((f 12).toNatClampNeg))), (2, .int (nI (onN f ((f 12).toNatClampNeg)))), (0, .ref (adH A)), (1, .int vx)]) hx hb dL_isWell_318 hl (by decide) rfl (fun ls hl => ?_)
              refine lv_iinc (v := (nI k) + 1) (lv' := [(7, .int ((nI k) + 1)), (5, .int 1), (6, .int ((bsN k) + (an_ofCell S (nI k) 4))), (10, .int (an_ofCell S (nI k) 3)), (9, .int ((an_ofCell S (nI k) 1) - 4)), (8, .int ((an_ofCell S (nI k) 0) - 4)), (4, .int (bkN f 61 ((f 12).toNatClampNeg))), (3, .int (bkN f 49 ((f 12).toNatClampNeg))), (2, .int (nI (onN f ((f 12).toNatClampNeg)))), (0, .ref (adH A)), (1, .int vx)]) hx hb dL_isWell_320 hl (k := 5) rfl (by first | rfl | decide) (by decide) rfl (fun ls hl => ?_)
              refine lv_goto (tgt := 170) hx hb dL_isWell_323 (by decide) ?_
              have e0 : nI k + 1 = nI (k + 1) := nI_1 k
              rw [e0] at hl
              rw [wc_b (show k < 61 by omega)] at hl
              exact ih2 (k + 1) (by omega) _ _ w ls (lv_sub hl [0, 2, 1, 6, 7, 8, 9, 10] rfl)
          · refine lv_iconst (v := 1) hx hb dL_isWell_262 (by decide) ?_
            refine lv_goto (tgt := 267) hx hb dL_isWell_263 (by decide) ?_
            refine lv_aload_n hx hb dL_isWell_267 rfl (lv_at hl 9 rfl) ?_
            refine lv_iload hx hb dL_isWell_268 (lv_at hl 4 rfl) ?_
            refine lv_iconst (v := 4) hx hb dL_isWell_270 (by decide) ?_
            refine r_ci w (r_runV (As := [.int (nI k), .int 4]) (rest := [.int 1]) X w (q_ofCell l E A S (nI k) 4 ) ck_L_34 ⟨Nat.le_of_ble_eq_true rfl, Nat.le_of_ble_eq_true rfl⟩ isA (hcR_1 (E := E)) nd_A (k0 := 0) CL6 rfl hl.1 (Nat.le_of_ble_eq_true rfl) rfl dL_isWell_271 ⟨Nat.le_of_ble_eq_true rfl, Nat.le_of_ble_eq_true rfl⟩) (wOb E A S) isA (hcR_1 (E := E)) nd_A (haR_1 (E := E)) (hwR_1 (E := E)) (fun H locs w => ?_)
            refine lv_iconst (v := 3) hx hb dL_isWell_274 (by decide) ?_
            refine lv_icmp_ne (tgt := 282) hx hb dL_isWell_275 (by decide) (fun h => absurd (wc_3y (show k < 61 by omega) c259_25) h) (fun _ => ?_)
            refine lv_iconst (v := 1) hx hb dL_isWell_278 (by decide) ?_
            refine lv_goto (tgt := 283) hx hb dL_isWell_279 (by decide) ?_
            refine lv_icmp_ne (tgt := 317) hx hb dL_isWell_283 (by decide) (fun h => absurd h (by decide)) (fun _ => ?_)
            refine lv_aload_n hx hb dL_isWell_286 rfl (lv_at hl 9 rfl) ?_
            refine lv_iload hx hb dL_isWell_287 (lv_at hl 4 rfl) ?_
            refine lv_iconst (v := 2) hx hb dL_isWell_289 (by decide) ?_
            refine r_ci w (r_runV (As := [.int (nI k), .int 2]) (rest := []) X w (q_ofCell l E A S (nI k) 2 ) ck_L_34 ⟨Nat.le_of_ble_eq_true rfl, Nat.le_of_ble_eq_true rfl⟩ isA (hcR_1 (E := E)) nd_A (k0 := 0) CL6 rfl hl.1 (Nat.le_of_ble_eq_true rfl) rfl dL_isWell_290 ⟨Nat.le_of_ble_eq_true rfl, Nat.le_of_ble_eq_true rfl⟩) (wOb E A S) isA (hcR_1 (E := E)) nd_A (haR_1 (E := E)) (hwR_1 (E := E)) (fun H locs w => ?_)
            refine lv_if_lt (tgt := 313) hx hb dL_isWell_293 (by decide) (fun c293_30 => ?_) (fun c293_30 => ?_)
            · refine lv_iconst (v := 1) hx hb dL_isWell_313 (by decide) ?_
              refine lv_goto (tgt := 318) hx hb dL_isWell_314 (by decide) ?_
              refine lv_istore (lv' := [(5, .int 1), (6, .int ((bsN k) + (an_ofCell S (nI k) 4))), (10, .int (an_ofCell S (nI k) 3)), (9, .int ((an_ofCell S (nI k) 1) - 4)), (8, .int ((an_ofCell S (nI k) 0) - 4)), (7, .int (nI k)), (4, .int (bkN f 61 ((f 12).toNatClampNeg))), (3, .int (bkN f 49 ((f 12).toNatClampNeg))), (2, .int (nI (onN f ((f 12).toNatClampNeg)))), (0, .ref (adH A)), (1, .int vx)]) hx hb dL_isWell_318 hl (by decide) rfl (fun ls hl => ?_)
              refine lv_iinc (v := (nI k) + 1) (lv' := [(7, .int ((nI k) + 1)), (5, .int 1), (6, .int ((bsN k) + (an_ofCell S (nI k) 4))), (10, .int (an_ofCell S (nI k) 3)), (9, .int ((an_ofCell S (nI k) 1) - 4)), (8, .int ((an_ofCell S (nI k) 0) - 4)), (4, .int (bkN f 61 ((f 12).toNatClampNeg))), (3, .int (bkN f 49 ((f 12).toNatClampNeg))), (2, .int (nI (onN f ((f 12).toNatClampNeg)))), (0, .ref (adH A)), (1, .int vx)]) hx hb dL_isWell_320 hl (k := 5) rfl (by first | rfl | decide) (by decide) rfl (fun ls hl => ?_)
              refine lv_goto (tgt := 170) hx hb dL_isWell_323 (by decide) ?_
              have e0 : nI k + 1 = nI (k + 1) := nI_1 k
              rw [e0] at hl
              rw [wc_b (show k < 61 by omega)] at hl
              exact ih2 (k + 1) (by omega) _ _ w ls (lv_sub hl [0, 2, 1, 6, 7, 8, 9, 10] rfl)
            · refine lv_aload_n hx hb dL_isWell_296 rfl (lv_at hl 9 rfl) ?_
              refine lv_aload_n hx hb dL_isWell_297 rfl (lv_at hl 9 rfl) ?_
              refine lv_iload hx hb dL_isWell_298 (lv_at hl 4 rfl) ?_
              refine lv_iconst (v := 2) hx hb dL_isWell_300 (by decide) ?_
              refine r_ci w (r_runV (As := [.int (nI k), .int 2]) (rest := [.ref (adH A)]) X w (q_ofCell l E A S (nI k) 2 ) ck_L_34 ⟨Nat.le_of_ble_eq_true rfl, Nat.le_of_ble_eq_true rfl⟩ isA (hcR_1 (E := E)) nd_A (k0 := 0) CL6 rfl hl.1 (Nat.le_of_ble_eq_true rfl) rfl dL_isWell_301 ⟨Nat.le_of_ble_eq_true rfl, Nat.le_of_ble_eq_true rfl⟩) (wOb E A S) isA (hcR_1 (E := E)) nd_A (haR_1 (E := E)) (hwR_1 (E := E)) (fun H locs w => ?_)
              refine lv_iconst (v := 0) hx hb dL_isWell_304 (by decide) ?_
              refine r_ci w (r_runV (As := [.int (an_ofCell S (nI k) 2), .int 0]) (rest := []) X w (q_ball l E A S (an_ofCell S (nI k) 2) 0 ) ck_L_25 ⟨Nat.le_of_ble_eq_true rfl, Nat.le_of_ble_eq_true rfl⟩ isA (hcR_1 (E := E)) nd_A (k0 := 0) CL6 rfl hl.1 (Nat.le_of_ble_eq_true rfl) rfl dL_isWell_305 ⟨Nat.le_of_ble_eq_true rfl, Nat.le_of_ble_eq_true rfl⟩) (wOb E A S) isA (hcR_1 (E := E)) nd_A (haR_1 (E := E)) (hwR_1 (E := E)) (fun H locs w => ?_)
              refine lv_iload hx hb dL_isWell_308 (lv_at hl 4 rfl) ?_
              refine lv_icmp_ne (tgt := 317) hx hb dL_isWell_310 (by decide) (fun h => absurd (wc_on hS.1 (show k < 61 by omega) c293_30) h) (fun _ => ?_)
              refine lv_iconst (v := 1) hx hb dL_isWell_313 (by decide) ?_
              refine lv_goto (tgt := 318) hx hb dL_isWell_314 (by decide) ?_
              refine lv_istore (lv' := [(5, .int 1), (6, .int ((bsN k) + (an_ofCell S (nI k) 4))), (10, .int (an_ofCell S (nI k) 3)), (9, .int ((an_ofCell S (nI k) 1) - 4)), (8, .int ((an_ofCell S (nI k) 0) - 4)), (7, .int (nI k)), (4, .int (bkN f 61 ((f 12).toNatClampNeg))), (3, .int (bkN f 49 ((f 12).toNatClampNeg))), (2, .int (nI (onN f ((f 12).toNatClampNeg)))), (0, .ref (adH A)), (1, .int vx)]) hx hb dL_isWell_318 hl (by decide) rfl (fun ls hl => ?_)
              refine lv_iinc (v := (nI k) + 1) (lv' := [(7, .int ((nI k) + 1)), (5, .int 1), (6, .int ((bsN k) + (an_ofCell S (nI k) 4))), (10, .int (an_ofCell S (nI k) 3)), (9, .int ((an_ofCell S (nI k) 1) - 4)), (8, .int ((an_ofCell S (nI k) 0) - 4)), (4, .int (bkN f 61 ((f 12).toNatClampNeg))), (3, .int (bkN f 49 ((f 12).toNatClampNeg))), (2, .int (nI (onN f ((f 12).toNatClampNeg)))), (0, .ref (adH A)), (1, .int vx)]) hx hb dL_isWell_320 hl (k := 5) rfl (by first | rfl | decide) (by decide) rfl (fun ls hl => ?_)
              refine lv_goto (tgt := 170) hx hb dL_isWell_323 (by decide) ?_
              have e0 : nI k + 1 = nI (k + 1) := nI_1 k
              rw [e0] at hl
              rw [wc_b (show k < 61 by omega)] at hl
              exact ih2 (k + 1) (by omega) _ _ w ls (lv_sub hl [0, 2, 1, 6, 7, 8, 9, 10] rfl)
      exact loop2 61 0 (by omega) _ _ w ls (lv_sub hl [0, 1, 2, 3, 4, 5, 6, 7] rfl)
    | succ n ih =>
      intro k hk_k H locs w ls hl
      have hkN : k < (f 12).toNatClampNeg := by omega
      refine lv_iload hx hb dL_isWell_13 (lv_at hl 0 rfl) ?_
      refine lv_aload_n hx hb dL_isWell_15 rfl (lv_at hl 5 rfl) ?_
      refine lv_iconst (v := 1) hx hb dL_isWell_16 (by decide) ?_
      refine r_ci w (r_runV (As := [.int 1]) (rest := [.int (nI k)]) X w (q_count l E A S 1 ) ck_L_15 ⟨Nat.le_of_ble_eq_true rfl, Nat.le_of_ble_eq_true rfl⟩ isA (hcR_1 (E := E)) nd_A (k0 := 0) CL6 rfl hl.1 (Nat.le_of_ble_eq_true rfl) rfl dL_isWell_17 ⟨Nat.le_of_ble_eq_true rfl, Nat.le_of_ble_eq_true rfl⟩) (wOb E A S) isA (hcR_1 (E := E)) nd_A (haR_1 (E := E)) (hwR_1 (E := E)) (fun H locs w => ?_)
      refine lv_icmp_ge (tgt := 164) hx hb dL_isWell_20 (by decide) (fun h => absurd h (by rw [ct_1 hS.1, hev.2]; exact nI_ge hkN (by omega))) (fun _ => ?_)
      refine lv_aload_n hx hb dL_isWell_23 rfl (lv_at hl 5 rfl) ?_
      refine lv_iload hx hb dL_isWell_24 (lv_at hl 0 rfl) ?_
      refine lv_iconst (v := 0) hx hb dL_isWell_26 (by decide) ?_
      refine r_ci w (r_runV (As := [.int (nI k), .int 0]) (rest := []) X w (q_ball l E A S (nI k) 0 ) ck_L_25 ⟨Nat.le_of_ble_eq_true rfl, Nat.le_of_ble_eq_true rfl⟩ isA (hcR_1 (E := E)) nd_A (k0 := 0) CL6 rfl hl.1 (Nat.le_of_ble_eq_true rfl) rfl dL_isWell_27 ⟨Nat.le_of_ble_eq_true rfl, Nat.le_of_ble_eq_true rfl⟩) (wOb E A S) isA (hcR_1 (E := E)) nd_A (haR_1 (E := E)) (hwR_1 (E := E)) (fun H locs w => ?_)
      refine lv_istore (lv' := [(7, .int (an_ball S (nI k) 0)), (6, .int (nI k)), (5, .int 1), (4, .int (bkN f 61 k)), (3, .int (bkN f 49 k)), (2, .int (nI (onN f k))), (0, .ref (adH A)), (1, .int vx)]) hx hb dL_isWell_30 hl (by decide) rfl (fun ls hl => ?_)
      refine lv_iload_n hx hb dL_isWell_32 rfl (lv_at hl 5 rfl) ?_
      refine lv_iload hx hb dL_isWell_33 (lv_at hl 0 rfl) ?_
      refine lv_if_ge (tgt := 42) hx hb dL_isWell_35 (by decide) (fun c35_33 => ?_) (fun c35_33 => ?_)
      · refine lv_iconst (v := 1) hx hb dL_isWell_42 (by decide) ?_
        refine lv_iadd hx hb dL_isWell_43 ?_
        refine lv_istore_n (lv' := [(2, .int ((nI (onN f k)) + 1)), (7, .int (an_ball S (nI k) 0)), (6, .int (nI k)), (5, .int 1), (4, .int (bkN f 61 k)), (3, .int (bkN f 49 k)), (0, .ref (adH A)), (1, .int vx)]) hx hb dL_isWell_44 rfl hl (by decide) rfl (fun ls hl => ?_)
        refine lv_iload_n hx hb dL_isWell_45 rfl (lv_at hl 5 rfl) ?_
        refine lv_iload hx hb dL_isWell_46 (lv_at hl 1 rfl) ?_
        refine lv_if_ge (tgt := 55) hx hb dL_isWell_48 (by decide) (fun _ => ?_) (fun h => absurd c35_33 h)
        refine lv_aload_n hx hb dL_isWell_55 rfl (lv_at hl 6 rfl) ?_
        refine lv_iload hx hb dL_isWell_56 (lv_at hl 2 rfl) ?_
        refine lv_iconst (v := 3) hx hb dL_isWell_58 (by decide) ?_
        refine r_ci w (r_runV (As := [.int (nI k), .int 3]) (rest := [.int (bkN f 49 k)]) X w (q_ball l E A S (nI k) 3 ) ck_L_25 ⟨Nat.le_of_ble_eq_true rfl, Nat.le_of_ble_eq_true rfl⟩ isA (hcR_1 (E := E)) nd_A (k0 := 0) CL6 rfl hl.1 (Nat.le_of_ble_eq_true rfl) rfl dL_isWell_59 ⟨Nat.le_of_ble_eq_true rfl, Nat.le_of_ble_eq_true rfl⟩) (wOb E A S) isA (hcR_1 (E := E)) nd_A (haR_1 (E := E)) (hwR_1 (E := E)) (fun H locs w => ?_)
        refine lv_iadd hx hb dL_isWell_62 ?_
        refine lv_istore_n (lv' := [(3, .int ((bkN f 49 k) + (an_ball S (nI k) 3))), (2, .int ((nI (onN f k)) + 1)), (7, .int (an_ball S (nI k) 0)), (6, .int (nI k)), (5, .int 1), (4, .int (bkN f 61 k)), (0, .ref (adH A)), (1, .int vx)]) hx hb dL_isWell_63 rfl hl (by decide) rfl (fun ls hl => ?_)
        refine lv_iload hx hb dL_isWell_64 (lv_at hl 5 rfl) ?_
        refine lv_iload hx hb dL_isWell_66 (lv_at hl 2 rfl) ?_
        refine lv_if_ge (tgt := 75) hx hb dL_isWell_68 (by decide) (fun _ => ?_) (fun h => absurd c35_33 h)
        refine lv_aload_n hx hb dL_isWell_75 rfl (lv_at hl 6 rfl) ?_
        refine lv_iload hx hb dL_isWell_76 (lv_at hl 3 rfl) ?_
        refine lv_iconst (v := 4) hx hb dL_isWell_78 (by decide) ?_
        refine r_ci w (r_runV (As := [.int (nI k), .int 4]) (rest := [.int (bkN f 61 k)]) X w (q_ball l E A S (nI k) 4 ) ck_L_25 ⟨Nat.le_of_ble_eq_true rfl, Nat.le_of_ble_eq_true rfl⟩ isA (hcR_1 (E := E)) nd_A (k0 := 0) CL6 rfl hl.1 (Nat.le_of_ble_eq_true rfl) rfl dL_isWell_79 ⟨Nat.le_of_ble_eq_true rfl, Nat.le_of_ble_eq_true rfl⟩) (wOb E A S) isA (hcR_1 (E := E)) nd_A (haR_1 (E := E)) (hwR_1 (E := E)) (fun H locs w => ?_)
        refine lv_iadd hx hb dL_isWell_82 ?_
        refine lv_istore (lv' := [(4, .int ((bkN f 61 k) + (an_ball S (nI k) 4))), (3, .int ((bkN f 49 k) + (an_ball S (nI k) 3))), (2, .int ((nI (onN f k)) + 1)), (7, .int (an_ball S (nI k) 0)), (6, .int (nI k)), (5, .int 1), (0, .ref (adH A)), (1, .int vx)]) hx hb dL_isWell_83 hl (by decide) rfl (fun ls hl => ?_)
        refine lv_iload hx hb dL_isWell_85 (lv_at hl 5 rfl) ?_
        refine lv_if_eq (tgt := 155) hx hb dL_isWell_87 (by decide) (fun h => absurd h (by decide)) (fun _ => ?_)
        refine lv_iload hx hb dL_isWell_90 (lv_at hl 3 rfl) ?_
        refine lv_if_ge (tgt := 116) hx hb dL_isWell_92 (by decide) (fun _ => ?_) (fun h => absurd c35_33 h)
        refine lv_aload_n hx hb dL_isWell_116 rfl (lv_at hl 6 rfl) ?_
        refine lv_iload hx hb dL_isWell_117 (lv_at hl 3 rfl) ?_
        refine lv_iconst (v := 2) hx hb dL_isWell_119 (by decide) ?_
        refine r_ci w (r_runV (As := [.int (an_ball S (nI k) 0), .int 2]) (rest := []) X w (q_ofCell l E A S (an_ball S (nI k) 0) 2 ) ck_L_34 ⟨Nat.le_of_ble_eq_true rfl, Nat.le_of_ble_eq_true rfl⟩ isA (hcR_1 (E := E)) nd_A (k0 := 0) CL6 rfl hl.1 (Nat.le_of_ble_eq_true rfl) rfl dL_isWell_120 ⟨Nat.le_of_ble_eq_true rfl, Nat.le_of_ble_eq_true rfl⟩) (wOb E A S) isA (hcR_1 (E := E)) nd_A (haR_1 (E := E)) (hwR_1 (E := E)) (fun H locs w => ?_)
        refine lv_iload hx hb dL_isWell_123 (lv_at hl 4 rfl) ?_
        refine lv_icmp_ne (tgt := 155) hx hb dL_isWell_125 (by decide) (fun h => absurd (wl_at hG hS.1 (show k < 12 by omega) c35_33) h) (fun _ => ?_)
        refine lv_aload_n hx hb dL_isWell_128 rfl (lv_at hl 6 rfl) ?_
        refine lv_iload hx hb dL_isWell_129 (lv_at hl 4 rfl) ?_
        refine lv_iconst (v := 1) hx hb dL_isWell_131 (by decide) ?_
        refine r_ci w (r_runV (As := [.int (nI k), .int 1]) (rest := []) X w (q_ball l E A S (nI k) 1 ) ck_L_25 ⟨Nat.le_of_ble_eq_true rfl, Nat.le_of_ble_eq_true rfl⟩ isA (hcR_1 (E := E)) nd_A (k0 := 0) CL6 rfl hl.1 (Nat.le_of_ble_eq_true rfl) rfl dL_isWell_132 ⟨Nat.le_of_ble_eq_true rfl, Nat.le_of_ble_eq_true rfl⟩) (wOb E A S) isA (hcR_1 (E := E)) nd_A (haR_1 (E := E)) (hwR_1 (E := E)) (fun H locs w => ?_)
        refine lv_iconst (v := 1) hx hb dL_isWell_135 (by decide) ?_
        refine lv_icmp_lt (tgt := 155) hx hb dL_isWell_136 (by decide) (fun h => absurd h (wl_v hG hS.1 (show k < 12 by omega) c35_33).1) (fun _ => ?_)
        refine lv_aload_n hx hb dL_isWell_139 rfl (lv_at hl 6 rfl) ?_
        refine lv_iload hx hb dL_isWell_140 (lv_at hl 4 rfl) ?_
        refine lv_iconst (v := 1) hx hb dL_isWell_142 (by decide) ?_
        refine r_ci w (r_runV (As := [.int (nI k), .int 1]) (rest := []) X w (q_ball l E A S (nI k) 1 ) ck_L_25 ⟨Nat.le_of_ble_eq_true rfl, Nat.le_of_ble_eq_true rfl⟩ isA (hcR_1 (E := E)) nd_A (k0 := 0) CL6 rfl hl.1 (Nat.le_of_ble_eq_true rfl) rfl dL_isWell_143 ⟨Nat.le_of_ble_eq_true rfl, Nat.le_of_ble_eq_true rfl⟩) (wOb E A S) isA (hcR_1 (E := E)) nd_A (haR_1 (E := E)) (hwR_1 (E := E)) (fun H locs w => ?_)
        refine lv_bipush (v := 20) hx hb dL_isWell_146 (by decide) ?_
        refine lv_icmp_gt (tgt := 155) hx hb dL_isWell_148 (by decide) (fun h => absurd h (wl_v hG hS.1 (show k < 12 by omega) c35_33).2) (fun _ => ?_)
        refine lv_iconst (v := 1) hx hb dL_isWell_151 (by decide) ?_
        refine lv_goto (tgt := 156) hx hb dL_isWell_152 (by decide) ?_
        refine lv_istore (lv' := [(5, .int 1), (4, .int ((bkN f 61 k) + (an_ball S (nI k) 4))), (3, .int ((bkN f 49 k) + (an_ball S (nI k) 3))), (2, .int ((nI (onN f k)) + 1)), (7, .int (an_ball S (nI k) 0)), (6, .int (nI k)), (0, .ref (adH A)), (1, .int vx)]) hx hb dL_isWell_156 hl (by decide) rfl (fun ls hl => ?_)
        refine lv_iinc (v := (nI k) + 1) (lv' := [(6, .int ((nI k) + 1)), (5, .int 1), (4, .int ((bkN f 61 k) + (an_ball S (nI k) 4))), (3, .int ((bkN f 49 k) + (an_ball S (nI k) 3))), (2, .int ((nI (onN f k)) + 1)), (7, .int (an_ball S (nI k) 0)), (0, .ref (adH A)), (1, .int vx)]) hx hb dL_isWell_158 hl (k := 5) rfl (by first | rfl | decide) (by decide) rfl (fun ls hl => ?_)
        refine lv_goto (tgt := 13) hx hb dL_isWell_161 (by decide) ?_
        have e0 : nI k + 1 = nI (k + 1) := nI_1 k
        rw [e0] at hl
        rw [(ac_y hG hS.1 (show k < 12 by omega) c35_33).1, (ac_y hG hS.1 (show k < 12 by omega) c35_33).2.1, (ac_y hG hS.1 (show k < 12 by omega) c35_33).2.2] at hl
        exact ih (k + 1) (by omega) _ _ w ls (lv_sub hl [0, 1, 2, 3, 4, 6, 7] rfl)
      · refine lv_iconst (v := 0) hx hb dL_isWell_38 (by decide) ?_
        refine lv_goto (tgt := 43) hx hb dL_isWell_39 (by decide) ?_
        refine lv_iadd hx hb dL_isWell_43 ?_
        refine lv_istore_n (lv' := [(2, .int ((nI (onN f k)) + 0)), (7, .int (an_ball S (nI k) 0)), (6, .int (nI k)), (5, .int 1), (4, .int (bkN f 61 k)), (3, .int (bkN f 49 k)), (0, .ref (adH A)), (1, .int vx)]) hx hb dL_isWell_44 rfl hl (by decide) rfl (fun ls hl => ?_)
        refine lv_iload_n hx hb dL_isWell_45 rfl (lv_at hl 5 rfl) ?_
        refine lv_iload hx hb dL_isWell_46 (lv_at hl 1 rfl) ?_
        refine lv_if_ge (tgt := 55) hx hb dL_isWell_48 (by decide) (fun h => absurd h c35_33) (fun _ => ?_)
        refine lv_iconst (v := 0) hx hb dL_isWell_51 (by decide) ?_
        refine lv_goto (tgt := 62) hx hb dL_isWell_52 (by decide) ?_
        refine lv_iadd hx hb dL_isWell_62 ?_
        refine lv_istore_n (lv' := [(3, .int ((bkN f 49 k) + 0)), (2, .int ((nI (onN f k)) + 0)), (7, .int (an_ball S (nI k) 0)), (6, .int (nI k)), (5, .int 1), (4, .int (bkN f 61 k)), (0, .ref (adH A)), (1, .int vx)]) hx hb dL_isWell_63 rfl hl (by decide) rfl (fun ls hl => ?_)
        refine lv_iload hx hb dL_isWell_64 (lv_at hl 5 rfl) ?_
        refine lv_iload hx hb dL_isWell_66 (lv_at hl 2 rfl) ?_
        refine lv_if_ge (tgt := 75) hx hb dL_isWell_68 (by decide) (fun h => absurd h c35_33) (fun _ => ?_)
        refine lv_iconst (v := 0) hx hb dL_isWell_71 (by decide) ?_
        refine lv_goto (tgt := 82) hx hb dL_isWell_72 (by decide) ?_
        refine lv_iadd hx hb dL_isWell_82 ?_
        refine lv_istore (lv' := [(4, .int ((bkN f 61 k) + 0)), (3, .int ((bkN f 49 k) + 0)), (2, .int ((nI (onN f k)) + 0)), (7, .int (an_ball S (nI k) 0)), (6, .int (nI k)), (5, .int 1), (0, .ref (adH A)), (1, .int vx)]) hx hb dL_isWell_83 hl (by decide) rfl (fun ls hl => ?_)
        refine lv_iload hx hb dL_isWell_85 (lv_at hl 5 rfl) ?_
        refine lv_if_eq (tgt := 155) hx hb dL_isWell_87 (by decide) (fun h => absurd h (by decide)) (fun _ => ?_)
        refine lv_iload hx hb dL_isWell_90 (lv_at hl 3 rfl) ?_
        refine lv_if_ge (tgt := 116) hx hb dL_isWell_92 (by decide) (fun h => absurd h c35_33) (fun _ => ?_)
        refine lv_iload hx hb dL_isWell_95 (lv_at hl 3 rfl) ?_
        refine lv_iconst (v := (-1)) hx hb dL_isWell_97 (by decide) ?_
        refine lv_icmp_ne (tgt := 155) hx hb dL_isWell_98 (by decide) (fun h => absurd (wl_un hG hS.1 (show k < 12 by omega) c35_33) h) (fun _ => ?_)
        refine lv_aload_n hx hb dL_isWell_101 rfl (lv_at hl 6 rfl) ?_
        refine lv_iload hx hb dL_isWell_102 (lv_at hl 4 rfl) ?_
        refine lv_bipush (v := 9) hx hb dL_isWell_104 (by decide) ?_
        refine r_ci w (r_runV (As := [.int (nI k), .int 9]) (rest := []) X w (q_ball l E A S (nI k) 9 ) ck_L_25 ⟨Nat.le_of_ble_eq_true rfl, Nat.le_of_ble_eq_true rfl⟩ isA (hcR_1 (E := E)) nd_A (k0 := 0) CL6 rfl hl.1 (Nat.le_of_ble_eq_true rfl) rfl dL_isWell_106 ⟨Nat.le_of_ble_eq_true rfl, Nat.le_of_ble_eq_true rfl⟩) (wOb E A S) isA (hcR_1 (E := E)) nd_A (haR_1 (E := E)) (hwR_1 (E := E)) (fun H locs w => ?_)
        refine lv_iconst (v := (-1)) hx hb dL_isWell_109 (by decide) ?_
        refine lv_icmp_ne (tgt := 155) hx hb dL_isWell_110 (by decide) (fun h => absurd (wl_un hG hS.1 (show k < 12 by omega) c35_33) h) (fun _ => ?_)
        refine lv_goto (tgt := 151) hx hb dL_isWell_113 (by decide) ?_
        refine lv_iconst (v := 1) hx hb dL_isWell_151 (by decide) ?_
        refine lv_goto (tgt := 156) hx hb dL_isWell_152 (by decide) ?_
        refine lv_istore (lv' := [(5, .int 1), (4, .int ((bkN f 61 k) + 0)), (3, .int ((bkN f 49 k) + 0)), (2, .int ((nI (onN f k)) + 0)), (7, .int (an_ball S (nI k) 0)), (6, .int (nI k)), (0, .ref (adH A)), (1, .int vx)]) hx hb dL_isWell_156 hl (by decide) rfl (fun ls hl => ?_)
        refine lv_iinc (v := (nI k) + 1) (lv' := [(6, .int ((nI k) + 1)), (5, .int 1), (4, .int ((bkN f 61 k) + 0)), (3, .int ((bkN f 49 k) + 0)), (2, .int ((nI (onN f k)) + 0)), (7, .int (an_ball S (nI k) 0)), (0, .ref (adH A)), (1, .int vx)]) hx hb dL_isWell_158 hl (k := 5) rfl (by first | rfl | decide) (by decide) rfl (fun ls hl => ?_)
        refine lv_goto (tgt := 13) hx hb dL_isWell_161 (by decide) ?_
        have e0 : nI k + 1 = nI (k + 1) := nI_1 k
        rw [e0] at hl
        rw [(ac_n hG hS.1 (show k < 12 by omega) c35_33).1, (ac_n hG hS.1 (show k < 12 by omega) c35_33).2.1, (ac_n hG hS.1 (show k < 12 by omega) c35_33).2.2] at hl
        exact ih (k + 1) (by omega) _ _ w ls (lv_sub hl [0, 1, 2, 3, 4, 6, 7] rfl)
  exact loop ((f 12).toNatClampNeg) 0 (by omega) _ _ w ls (lv_sub hl [0, 1, 2, 3, 4, 5, 6] rfl)
