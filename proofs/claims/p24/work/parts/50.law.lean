/-! p24: the law's isShot (printed by wip/p24/p50.py) -/
theorem lt_nge {x : Int32} (h : ¬ 0 ≤ x) : x < 0 := by
  rw [Int32.le_iff_toInt_le] at h
  rw [Int32.lt_iff_toInt_lt]
  omega
theorem nlt_ge {x : Int32} (h : 0 ≤ x) : ¬ x < 0 := by
  rw [Int32.le_iff_toInt_le] at h
  rw [Int32.lt_iff_toInt_lt]
  omega
theorem add_in {u a : Int32} {n k : Nat} (ha : a.toInt = (k : Int)) (h : vp_in u n) (hk : k + n ≤ 100000) : (k : Int) ≤ (a + u).toInt ∧ (a + u).toInt < (k + n : Nat) := by
  rw [vp_in_iff] at h
  rw [ti_add (by omega) (by omega)]
  omega
/-- both objects behind a law's method -/
def NS (E : Ev) (A B : Ad) (M : Nat) : Int32 → va_W → Prop := fun r w' => r = 1 ∧ ∃ f S T, BI M f S T ∧ w' = wOb E A S ++ wOb E B T
/-- what a shot would do, told k times -/
def wo (S : So) (b d sg sn : Int32) : Nat → So
  | 0 => S
  | k + 1 => ob_would (wo S b d sg sn k) b d sg sn (nI k)
section
variable {S T : So} {f : N1} {M : Nat} {b d sg sn : Int32}
theorem wo_BI (hB : BI M f S T) (hM : M ≤ 100) (hd : vp_in d 6) (hf : ¬ fX6_isForce sg sn = 0) : ∀ k, k ≤ 6 → BI M f (wo S b d sg sn k) (wo T b (fL_way d) sg sn k) := by
  intro k
  induction k with
  | zero => intro _; exact hB
  | succ k ih =>
    intro hk
    have h := ih (by omega)
    obtain ⟨h1, h2, -, -⟩ := s_would (wt := nI k) (b := b) h hM hd hf (vp_in_nI (by omega) (by decide))
    exact ⟨hB.1, h1, h2⟩
theorem wo_4 {wt : Int32} (hB : BI M f S T) (hM : M ≤ 100) (hd : vp_in d 6) (hf : ¬ fX6_isForce sg sn = 0) (hw : vp_in wt 6) (h : wt = 4) : fL_there (an_would S b d sg sn wt) = an_would T b (fL_way d) sg sn wt := by
  obtain ⟨-, -, h1, h2⟩ := s_would (b := b) hB hM hd hf hw
  rw [h1, h2, if_pos h]
theorem wo_n {wt : Int32} (hB : BI M f S T) (hM : M ≤ 100) (hd : vp_in d 6) (hf : ¬ fX6_isForce sg sn = 0) (hw : vp_in wt 6) (h : ¬ wt = 4) : an_would S b d sg sn wt = an_would T b (fL_way d) sg sn wt := by
  obtain ⟨-, -, h1, h2⟩ := s_would (b := b) hB hM hd hf hw
  rw [h1, h2, if_neg h]
end
theorem on_sub {n : Nat} (h : n ≤ 12) : nI n = nI (n + 1) - 1 := by
  refine (of_toI (by omega) ?_).symm
  have e1 : (1 : Int32).toInt = 1 := rfl
  have e2 := toI (show n + 1 < 1000 by omega)
  rw [ti_sub (by omega) (by omega), e2]
  omega
theorem dL_isShot_0 : decode cL_isShot 0 = .ok (.iload_n 3, 1) := by decide +kernel
theorem dL_isShot_1 : decode cL_isShot 1 = .ok (.bipush 6, 2) := by decide +kernel
theorem dL_isShot_3 : decode cL_isShot 3 = .ok (.invokestatic 19, 3) := by decide +kernel
theorem dL_isShot_6 : decode cL_isShot 6 = .ok (.istore 5, 2) := by decide +kernel
theorem dL_isShot_8 : decode cL_isShot 8 = .ok (.bipush 10, 2) := by decide +kernel
theorem dL_isShot_10 : decode cL_isShot 10 = .ok (.iload 4, 2) := by decide +kernel
theorem dL_isShot_12 : decode cL_isShot 12 = .ok (.sipush 990, 3) := by decide +kernel
theorem dL_isShot_15 : decode cL_isShot 15 = .ok (.invokestatic 19, 3) := by decide +kernel
theorem dL_isShot_18 : decode cL_isShot 18 = .ok (.iadd, 1) := by decide +kernel
theorem dL_isShot_19 : decode cL_isShot 19 = .ok (.istore 6, 2) := by decide +kernel
theorem dL_isShot_21 : decode cL_isShot 21 = .ok (.iload 4, 2) := by decide +kernel
theorem dL_isShot_23 : decode cL_isShot 23 = .ok (.bipush 11, 2) := by decide +kernel
theorem dL_isShot_25 : decode cL_isShot 25 = .ok (.ishr, 1) := by decide +kernel
theorem dL_isShot_26 : decode cL_isShot 26 = .ok (.iconst 3, 1) := by decide +kernel
theorem dL_isShot_27 : decode cL_isShot 27 = .ok (.invokestatic 19, 3) := by decide +kernel
theorem dL_isShot_30 : decode cL_isShot 30 = .ok (.istore 7, 2) := by decide +kernel
theorem dL_isShot_32 : decode cL_isShot 32 = .ok (.iload_n 3, 1) := by decide +kernel
theorem dL_isShot_33 : decode cL_isShot 33 = .ok (.iconst 5, 1) := by decide +kernel
theorem dL_isShot_34 : decode cL_isShot 34 = .ok (.ishr, 1) := by decide +kernel
theorem dL_isShot_35 : decode cL_isShot 35 = .ok (.bipush 9, 2) := by decide +kernel
theorem dL_isShot_37 : decode cL_isShot 37 = .ok (.invokestatic 19, 3) := by decide +kernel
theorem dL_isShot_40 : decode cL_isShot 40 = .ok (.ifCond .ne 13, 3) := by decide +kernel
theorem dL_isShot_43 : decode cL_isShot 43 = .ok (.iconst 1, 1) := by decide +kernel
theorem dL_isShot_44 : decode cL_isShot 44 = .ok (.aload_n 0, 1) := by decide +kernel
theorem dL_isShot_45 : decode cL_isShot 45 = .ok (.iconst 2, 1) := by decide +kernel
theorem dL_isShot_46 : decode cL_isShot 46 = .ok (.invokevirtual 15, 3) := by decide +kernel
theorem dL_isShot_49 : decode cL_isShot 49 = .ok (.isub, 1) := by decide +kernel
theorem dL_isShot_50 : decode cL_isShot 50 = .ok (.goto 8, 3) := by decide +kernel
theorem dL_isShot_53 : decode cL_isShot 53 = .ok (.aload_n 0, 1) := by decide +kernel
theorem dL_isShot_54 : decode cL_isShot 54 = .ok (.iconst 2, 1) := by decide +kernel
theorem dL_isShot_55 : decode cL_isShot 55 = .ok (.invokevirtual 15, 3) := by decide +kernel
theorem dL_isShot_58 : decode cL_isShot 58 = .ok (.istore 8, 2) := by decide +kernel
theorem dL_isShot_60 : decode cL_isShot 60 = .ok (.aload_n 0, 1) := by decide +kernel
theorem dL_isShot_61 : decode cL_isShot 61 = .ok (.iconst 2, 1) := by decide +kernel
theorem dL_isShot_62 : decode cL_isShot 62 = .ok (.invokevirtual 15, 3) := by decide +kernel
theorem dL_isShot_65 : decode cL_isShot 65 = .ok (.istore 9, 2) := by decide +kernel
theorem dL_isShot_67 : decode cL_isShot 67 = .ok (.aload_n 0, 1) := by decide +kernel
theorem dL_isShot_68 : decode cL_isShot 68 = .ok (.iload_n 2, 1) := by decide +kernel
theorem dL_isShot_69 : decode cL_isShot 69 = .ok (.iload 5, 2) := by decide +kernel
theorem dL_isShot_71 : decode cL_isShot 71 = .ok (.iload 6, 2) := by decide +kernel
theorem dL_isShot_73 : decode cL_isShot 73 = .ok (.iload 7, 2) := by decide +kernel
theorem dL_isShot_75 : decode cL_isShot 75 = .ok (.iconst 3, 1) := by decide +kernel
theorem dL_isShot_76 : decode cL_isShot 76 = .ok (.invokevirtual 70, 3) := by decide +kernel
theorem dL_isShot_79 : decode cL_isShot 79 = .ok (.istore 10, 2) := by decide +kernel
theorem dL_isShot_81 : decode cL_isShot 81 = .ok (.aload_n 0, 1) := by decide +kernel
theorem dL_isShot_82 : decode cL_isShot 82 = .ok (.iconst 3, 1) := by decide +kernel
theorem dL_isShot_83 : decode cL_isShot 83 = .ok (.invokevirtual 15, 3) := by decide +kernel
theorem dL_isShot_86 : decode cL_isShot 86 = .ok (.aload_n 0, 1) := by decide +kernel
theorem dL_isShot_87 : decode cL_isShot 87 = .ok (.iconst 4, 1) := by decide +kernel
theorem dL_isShot_88 : decode cL_isShot 88 = .ok (.invokevirtual 15, 3) := by decide +kernel
theorem dL_isShot_91 : decode cL_isShot 91 = .ok (.iadd, 1) := by decide +kernel
theorem dL_isShot_92 : decode cL_isShot 92 = .ok (.istore 11, 2) := by decide +kernel
theorem dL_isShot_94 : decode cL_isShot 94 = .ok (.aload_n 0, 1) := by decide +kernel
theorem dL_isShot_95 : decode cL_isShot 95 = .ok (.iconst 0, 1) := by decide +kernel
theorem dL_isShot_96 : decode cL_isShot 96 = .ok (.invokevirtual 15, 3) := by decide +kernel
theorem dL_isShot_99 : decode cL_isShot 99 = .ok (.istore 12, 2) := by decide +kernel
theorem dL_isShot_101 : decode cL_isShot 101 = .ok (.aload_n 0, 1) := by decide +kernel
theorem dL_isShot_102 : decode cL_isShot 102 = .ok (.iload_n 2, 1) := by decide +kernel
theorem dL_isShot_103 : decode cL_isShot 103 = .ok (.iload 5, 2) := by decide +kernel
theorem dL_isShot_105 : decode cL_isShot 105 = .ok (.iload 6, 2) := by decide +kernel
theorem dL_isShot_107 : decode cL_isShot 107 = .ok (.iload 7, 2) := by decide +kernel
theorem dL_isShot_109 : decode cL_isShot 109 = .ok (.invokevirtual 74, 3) := by decide +kernel
theorem dL_isShot_112 : decode cL_isShot 112 = .ok (.aload_n 1, 1) := by decide +kernel
theorem dL_isShot_113 : decode cL_isShot 113 = .ok (.iload_n 2, 1) := by decide +kernel
theorem dL_isShot_114 : decode cL_isShot 114 = .ok (.iload 5, 2) := by decide +kernel
theorem dL_isShot_116 : decode cL_isShot 116 = .ok (.invokestatic 78, 3) := by decide +kernel
theorem dL_isShot_119 : decode cL_isShot 119 = .ok (.iload 6, 2) := by decide +kernel
theorem dL_isShot_121 : decode cL_isShot 121 = .ok (.iload 7, 2) := by decide +kernel
theorem dL_isShot_123 : decode cL_isShot 123 = .ok (.invokevirtual 74, 3) := by decide +kernel
theorem dL_isShot_126 : decode cL_isShot 126 = .ok (.fcmp .l, 1) := by decide +kernel
theorem dL_isShot_127 : decode cL_isShot 127 = .ok (.ifCond .ne 7, 3) := by decide +kernel
theorem dL_isShot_130 : decode cL_isShot 130 = .ok (.iconst 1, 1) := by decide +kernel
theorem dL_isShot_131 : decode cL_isShot 131 = .ok (.goto 4, 3) := by decide +kernel
theorem dL_isShot_135 : decode cL_isShot 135 = .ok (.istore 13, 2) := by decide +kernel
theorem dL_isShot_137 : decode cL_isShot 137 = .ok (.iconst 0, 1) := by decide +kernel
theorem dL_isShot_138 : decode cL_isShot 138 = .ok (.istore 14, 2) := by decide +kernel
theorem dL_isShot_140 : decode cL_isShot 140 = .ok (.iload 14, 2) := by decide +kernel
theorem dL_isShot_142 : decode cL_isShot 142 = .ok (.bipush 6, 2) := by decide +kernel
theorem dL_isShot_144 : decode cL_isShot 144 = .ok (.if_icmp .ge 80, 3) := by decide +kernel
theorem dL_isShot_147 : decode cL_isShot 147 = .ok (.aload_n 0, 1) := by decide +kernel
theorem dL_isShot_148 : decode cL_isShot 148 = .ok (.iload_n 2, 1) := by decide +kernel
theorem dL_isShot_149 : decode cL_isShot 149 = .ok (.iload 5, 2) := by decide +kernel
theorem dL_isShot_151 : decode cL_isShot 151 = .ok (.iload 6, 2) := by decide +kernel
theorem dL_isShot_153 : decode cL_isShot 153 = .ok (.iload 7, 2) := by decide +kernel
theorem dL_isShot_155 : decode cL_isShot 155 = .ok (.iload 14, 2) := by decide +kernel
theorem dL_isShot_157 : decode cL_isShot 157 = .ok (.invokevirtual 70, 3) := by decide +kernel
theorem dL_isShot_160 : decode cL_isShot 160 = .ok (.istore 15, 2) := by decide +kernel
theorem dL_isShot_162 : decode cL_isShot 162 = .ok (.aload_n 1, 1) := by decide +kernel
theorem dL_isShot_163 : decode cL_isShot 163 = .ok (.iload_n 2, 1) := by decide +kernel
theorem dL_isShot_164 : decode cL_isShot 164 = .ok (.iload 5, 2) := by decide +kernel
theorem dL_isShot_166 : decode cL_isShot 166 = .ok (.invokestatic 78, 3) := by decide +kernel
theorem dL_isShot_169 : decode cL_isShot 169 = .ok (.iload 6, 2) := by decide +kernel
theorem dL_isShot_171 : decode cL_isShot 171 = .ok (.iload 7, 2) := by decide +kernel
theorem dL_isShot_173 : decode cL_isShot 173 = .ok (.iload 14, 2) := by decide +kernel
theorem dL_isShot_175 : decode cL_isShot 175 = .ok (.invokevirtual 70, 3) := by decide +kernel
theorem dL_isShot_178 : decode cL_isShot 178 = .ok (.istore 16, 2) := by decide +kernel
theorem dL_isShot_180 : decode cL_isShot 180 = .ok (.iload 13, 2) := by decide +kernel
theorem dL_isShot_182 : decode cL_isShot 182 = .ok (.ifCond .eq 33, 3) := by decide +kernel
theorem dL_isShot_185 : decode cL_isShot 185 = .ok (.iload 14, 2) := by decide +kernel
theorem dL_isShot_187 : decode cL_isShot 187 = .ok (.iconst 4, 1) := by decide +kernel
theorem dL_isShot_188 : decode cL_isShot 188 = .ok (.if_icmp .ne 16, 3) := by decide +kernel
theorem dL_isShot_191 : decode cL_isShot 191 = .ok (.iload 15, 2) := by decide +kernel
theorem dL_isShot_193 : decode cL_isShot 193 = .ok (.invokestatic 31, 3) := by decide +kernel
theorem dL_isShot_196 : decode cL_isShot 196 = .ok (.iload 16, 2) := by decide +kernel
theorem dL_isShot_198 : decode cL_isShot 198 = .ok (.if_icmp .ne 17, 3) := by decide +kernel
theorem dL_isShot_201 : decode cL_isShot 201 = .ok (.goto 10, 3) := by decide +kernel
theorem dL_isShot_204 : decode cL_isShot 204 = .ok (.iload 15, 2) := by decide +kernel
theorem dL_isShot_206 : decode cL_isShot 206 = .ok (.iload 16, 2) := by decide +kernel
theorem dL_isShot_208 : decode cL_isShot 208 = .ok (.if_icmp .ne 7, 3) := by decide +kernel
theorem dL_isShot_211 : decode cL_isShot 211 = .ok (.iconst 1, 1) := by decide +kernel
theorem dL_isShot_212 : decode cL_isShot 212 = .ok (.goto 4, 3) := by decide +kernel
theorem dL_isShot_216 : decode cL_isShot 216 = .ok (.istore 13, 2) := by decide +kernel
theorem dL_isShot_218 : decode cL_isShot 218 = .ok (.iinc 14 1, 3) := by decide +kernel
theorem dL_isShot_221 : decode cL_isShot 221 = .ok (.goto (-81), 3) := by decide +kernel
theorem dL_isShot_224 : decode cL_isShot 224 = .ok (.aload_n 0, 1) := by decide +kernel
theorem dL_isShot_225 : decode cL_isShot 225 = .ok (.iload 8, 2) := by decide +kernel
theorem dL_isShot_227 : decode cL_isShot 227 = .ok (.iload_n 2, 1) := by decide +kernel
theorem dL_isShot_228 : decode cL_isShot 228 = .ok (.iload 5, 2) := by decide +kernel
theorem dL_isShot_230 : decode cL_isShot 230 = .ok (.iload 6, 2) := by decide +kernel
theorem dL_isShot_232 : decode cL_isShot 232 = .ok (.iload 7, 2) := by decide +kernel
theorem dL_isShot_234 : decode cL_isShot 234 = .ok (.invokevirtual 81, 3) := by decide +kernel
theorem dL_isShot_237 : decode cL_isShot 237 = .ok (.istore 14, 2) := by decide +kernel
theorem dL_isShot_239 : decode cL_isShot 239 = .ok (.iload 13, 2) := by decide +kernel
theorem dL_isShot_241 : decode cL_isShot 241 = .ok (.ifCond .eq 28, 3) := by decide +kernel
theorem dL_isShot_244 : decode cL_isShot 244 = .ok (.iload 14, 2) := by decide +kernel
theorem dL_isShot_246 : decode cL_isShot 246 = .ok (.aload_n 1, 1) := by decide +kernel
theorem dL_isShot_247 : decode cL_isShot 247 = .ok (.iload 8, 2) := by decide +kernel
theorem dL_isShot_249 : decode cL_isShot 249 = .ok (.iload_n 2, 1) := by decide +kernel
theorem dL_isShot_250 : decode cL_isShot 250 = .ok (.iload 5, 2) := by decide +kernel
theorem dL_isShot_252 : decode cL_isShot 252 = .ok (.invokestatic 78, 3) := by decide +kernel
theorem dL_isShot_255 : decode cL_isShot 255 = .ok (.iload 6, 2) := by decide +kernel
theorem dL_isShot_257 : decode cL_isShot 257 = .ok (.iload 7, 2) := by decide +kernel
theorem dL_isShot_259 : decode cL_isShot 259 = .ok (.invokevirtual 81, 3) := by decide +kernel
theorem dL_isShot_262 : decode cL_isShot 262 = .ok (.if_icmp .ne 7, 3) := by decide +kernel
theorem dL_isShot_265 : decode cL_isShot 265 = .ok (.iconst 1, 1) := by decide +kernel
theorem dL_isShot_266 : decode cL_isShot 266 = .ok (.goto 4, 3) := by decide +kernel
theorem dL_isShot_270 : decode cL_isShot 270 = .ok (.istore 13, 2) := by decide +kernel
theorem dL_isShot_272 : decode cL_isShot 272 = .ok (.iload 14, 2) := by decide +kernel
theorem dL_isShot_274 : decode cL_isShot 274 = .ok (.ifCond .ge 44, 3) := by decide +kernel
theorem dL_isShot_277 : decode cL_isShot 277 = .ok (.iload 13, 2) := by decide +kernel
theorem dL_isShot_279 : decode cL_isShot 279 = .ok (.ifCond .eq 37, 3) := by decide +kernel
theorem dL_isShot_282 : decode cL_isShot 282 = .ok (.iload 14, 2) := by decide +kernel
theorem dL_isShot_284 : decode cL_isShot 284 = .ok (.iconst (-1), 1) := by decide +kernel
theorem dL_isShot_285 : decode cL_isShot 285 = .ok (.if_icmp .ne 13, 3) := by decide +kernel
theorem dL_isShot_288 : decode cL_isShot 288 = .ok (.iload 10, 2) := by decide +kernel
theorem dL_isShot_290 : decode cL_isShot 290 = .ok (.iload 14, 2) := by decide +kernel
theorem dL_isShot_292 : decode cL_isShot 292 = .ok (.if_icmp .ne 24, 3) := by decide +kernel
theorem dL_isShot_295 : decode cL_isShot 295 = .ok (.goto 17, 3) := by decide +kernel
theorem dL_isShot_298 : decode cL_isShot 298 = .ok (.iload 14, 2) := by decide +kernel
theorem dL_isShot_300 : decode cL_isShot 300 = .ok (.bipush (-4), 2) := by decide +kernel
theorem dL_isShot_302 : decode cL_isShot 302 = .ok (.if_icmp .ne 14, 3) := by decide +kernel
theorem dL_isShot_305 : decode cL_isShot 305 = .ok (.iload 8, 2) := by decide +kernel
theorem dL_isShot_307 : decode cL_isShot 307 = .ok (.iload 9, 2) := by decide +kernel
theorem dL_isShot_309 : decode cL_isShot 309 = .ok (.if_icmp .eq 7, 3) := by decide +kernel
theorem dL_isShot_312 : decode cL_isShot 312 = .ok (.iconst 1, 1) := by decide +kernel
theorem dL_isShot_313 : decode cL_isShot 313 = .ok (.goto 4, 3) := by decide +kernel
theorem dL_isShot_317 : decode cL_isShot 317 = .ok (.ireturn, 1) := by decide +kernel
theorem dL_isShot_318 : decode cL_isShot 318 = .ok (.iload 13, 2) := by decide +kernel
theorem dL_isShot_320 : decode cL_isShot 320 = .ok (.ifCond .eq 100, 3) := by decide +kernel
theorem dL_isShot_323 : decode cL_isShot 323 = .ok (.aload_n 0, 1) := by decide +kernel
theorem dL_isShot_324 : decode cL_isShot 324 = .ok (.iconst 3, 1) := by decide +kernel
theorem dL_isShot_325 : decode cL_isShot 325 = .ok (.invokevirtual 15, 3) := by decide +kernel
theorem dL_isShot_328 : decode cL_isShot 328 = .ok (.aload_n 0, 1) := by decide +kernel
theorem dL_isShot_329 : decode cL_isShot 329 = .ok (.iconst 4, 1) := by decide +kernel
theorem dL_isShot_330 : decode cL_isShot 330 = .ok (.invokevirtual 15, 3) := by decide +kernel
theorem dL_isShot_333 : decode cL_isShot 333 = .ok (.iadd, 1) := by decide +kernel
theorem dL_isShot_334 : decode cL_isShot 334 = .ok (.iload 11, 2) := by decide +kernel
theorem dL_isShot_336 : decode cL_isShot 336 = .ok (.iload 14, 2) := by decide +kernel
theorem dL_isShot_338 : decode cL_isShot 338 = .ok (.iadd, 1) := by decide +kernel
theorem dL_isShot_339 : decode cL_isShot 339 = .ok (.if_icmp .ne 81, 3) := by decide +kernel
theorem dL_isShot_342 : decode cL_isShot 342 = .ok (.aload_n 0, 1) := by decide +kernel
theorem dL_isShot_343 : decode cL_isShot 343 = .ok (.iconst 0, 1) := by decide +kernel
theorem dL_isShot_344 : decode cL_isShot 344 = .ok (.invokevirtual 15, 3) := by decide +kernel
theorem dL_isShot_347 : decode cL_isShot 347 = .ok (.iload 12, 2) := by decide +kernel
theorem dL_isShot_349 : decode cL_isShot 349 = .ok (.iload 10, 2) := by decide +kernel
theorem dL_isShot_351 : decode cL_isShot 351 = .ok (.ifCond .ge 7, 3) := by decide +kernel
theorem dL_isShot_354 : decode cL_isShot 354 = .ok (.iconst 0, 1) := by decide +kernel
theorem dL_isShot_355 : decode cL_isShot 355 = .ok (.goto 4, 3) := by decide +kernel
theorem dL_isShot_358 : decode cL_isShot 358 = .ok (.iconst 1, 1) := by decide +kernel
theorem dL_isShot_359 : decode cL_isShot 359 = .ok (.isub, 1) := by decide +kernel
theorem dL_isShot_360 : decode cL_isShot 360 = .ok (.if_icmp .ne 60, 3) := by decide +kernel
theorem dL_isShot_363 : decode cL_isShot 363 = .ok (.iload 10, 2) := by decide +kernel
theorem dL_isShot_365 : decode cL_isShot 365 = .ok (.ifCond .ge 7, 3) := by decide +kernel
theorem dL_isShot_368 : decode cL_isShot 368 = .ok (.iconst 1, 1) := by decide +kernel
theorem dL_isShot_369 : decode cL_isShot 369 = .ok (.goto 4, 3) := by decide +kernel
theorem dL_isShot_372 : decode cL_isShot 372 = .ok (.iconst 0, 1) := by decide +kernel
theorem dL_isShot_373 : decode cL_isShot 373 = .ok (.iload 14, 2) := by decide +kernel
theorem dL_isShot_375 : decode cL_isShot 375 = .ok (.ifCond .ne 7, 3) := by decide +kernel
theorem dL_isShot_378 : decode cL_isShot 378 = .ok (.iconst 1, 1) := by decide +kernel
theorem dL_isShot_379 : decode cL_isShot 379 = .ok (.goto 4, 3) := by decide +kernel
theorem dL_isShot_382 : decode cL_isShot 382 = .ok (.iconst 0, 1) := by decide +kernel
theorem dL_isShot_383 : decode cL_isShot 383 = .ok (.if_icmp .ne 37, 3) := by decide +kernel
theorem dL_isShot_386 : decode cL_isShot 386 = .ok (.iload 10, 2) := by decide +kernel
theorem dL_isShot_388 : decode cL_isShot 388 = .ok (.ifCond .ge 18, 3) := by decide +kernel
theorem dL_isShot_391 : decode cL_isShot 391 = .ok (.aload_n 0, 1) := by decide +kernel
theorem dL_isShot_392 : decode cL_isShot 392 = .ok (.iconst 2, 1) := by decide +kernel
theorem dL_isShot_393 : decode cL_isShot 393 = .ok (.invokevirtual 15, 3) := by decide +kernel
theorem dL_isShot_396 : decode cL_isShot 396 = .ok (.iconst 1, 1) := by decide +kernel
theorem dL_isShot_397 : decode cL_isShot 397 = .ok (.iload 9, 2) := by decide +kernel
theorem dL_isShot_399 : decode cL_isShot 399 = .ok (.isub, 1) := by decide +kernel
theorem dL_isShot_400 : decode cL_isShot 400 = .ok (.if_icmp .ne 20, 3) := by decide +kernel
theorem dL_isShot_403 : decode cL_isShot 403 = .ok (.goto 13, 3) := by decide +kernel
theorem dL_isShot_406 : decode cL_isShot 406 = .ok (.aload_n 0, 1) := by decide +kernel
theorem dL_isShot_407 : decode cL_isShot 407 = .ok (.iconst 2, 1) := by decide +kernel
theorem dL_isShot_408 : decode cL_isShot 408 = .ok (.invokevirtual 15, 3) := by decide +kernel
theorem dL_isShot_411 : decode cL_isShot 411 = .ok (.iload 9, 2) := by decide +kernel
theorem dL_isShot_413 : decode cL_isShot 413 = .ok (.if_icmp .ne 7, 3) := by decide +kernel
theorem dL_isShot_416 : decode cL_isShot 416 = .ok (.iconst 1, 1) := by decide +kernel
theorem dL_isShot_417 : decode cL_isShot 417 = .ok (.goto 4, 3) := by decide +kernel
theorem dL_isShot_421 : decode cL_isShot 421 = .ok (.ireturn, 1) := by decide +kernel
theorem ck_L_15 : CkV RL 15 RX6 yX6_count cX6_count 2 (some .int) 1 := ⟨wm_L_15, wim_yX6_count, wse_yX6_count, wi_X6, wc_yX6_count, by decide +kernel⟩
theorem ck_L_19 : CkS RL 19 yL_up cL_up 2 (some .int) 2 := ⟨wm_L_19, wst_yL_up, wi_L, wc_yL_up, by decide +kernel⟩
theorem ck_L_31 : CkS RL 31 yL_there cL_there 1 (some .int) 1 := ⟨wm_L_31, wst_yL_there, wi_L, wc_yL_there, by decide +kernel⟩
theorem ck_L_70 : CkV RL 70 RX6 yX6_would cX6_would 6 (some .int) 5 := ⟨wm_L_70, wim_yX6_would, wse_yX6_would, wi_X6, wc_yX6_would, by decide +kernel⟩
theorem ck_L_74 : CkV RL 74 RX6 yX6_speedLeft cX6_speedLeft 5 (some .float) 4 := ⟨wm_L_74, wim_yX6_speedLeft, wse_yX6_speedLeft, wi_X6, wc_yX6_speedLeft, by decide +kernel⟩
theorem ck_L_78 : CkS RL 78 yL_way cL_way 1 (some .int) 1 := ⟨wm_L_78, wst_yL_way, wi_L, wc_yL_way, by decide +kernel⟩
theorem ck_L_81 : CkV RL 81 RX6 yX6_shoot cX6_shoot 7 (some .int) 5 := ⟨wm_L_81, wim_yX6_shoot, wse_yX6_shoot, wi_X6, wc_yX6_shoot, by decide +kernel⟩
set_option maxHeartbeats 4000000 in
set_option maxRecDepth 100000 in
theorem kL_isShot (l : Launch) (E : Ev) (A B : Ad) (S T : So) (bl vx vy : Int32) (M : Nat) (f : N1) (hI : BI M f S T) (hM : M ≤ 100) : KQ l yL_isShot cL_isShot 17 (some .boolean) 7 168 E [.ref (adH A), .ref (adH B), .int bl, .int vx, .int vy] (wOb E A S ++ wOb E B T) (QE E (wOb E A S ++ wOb E B T) (NS E A B (M + 1))) := by
  refine KQ.mk RL rfl (by decide +kernel) (Nat.le_of_ble_eq_true rfl) ?_
  intro p e s m below meth c ls X hr w hl
  have hx := X.1
  have hb := X.2.1
  have hl : lv_has ls 17 [(0, .ref (adH A)), (1, .ref (adH B)), (2, .int bl), (3, .int vx), (4, .int vy)] := hl
  refine lv_iload_n hx hb dL_isShot_0 rfl (lv_at hl 3 rfl) ?_
  refine lv_bipush (v := 6) hx hb dL_isShot_1 (by decide) ?_
  refine r_ci w (r_runS (As := [.int vx, .int 6]) (rest := []) X w (kL_up l E vx 6 (by decide)) ck_L_19 ⟨Nat.le_of_ble_eq_true rfl, Nat.le_of_ble_eq_true rfl⟩ [] rfl (by decide +kernel) hl.1 (Nat.le_of_ble_eq_true rfl) rfl dL_isShot_3 ⟨Nat.le_of_ble_eq_true rfl, Nat.le_of_ble_eq_true rfl⟩) (wOb E A S ++ wOb E B T) [] rfl (by decide +kernel) rfl rfl (fun H locs w => ?_)
  refine lv_istore (lv' := [(5, .int (fL_up vx 6)), (0, .ref (adH A)), (1, .ref (adH B)), (2, .int bl), (3, .int vx), (4, .int vy)]) hx hb dL_isShot_6 hl (by decide) rfl (fun ls hl => ?_)
  refine lv_bipush (v := 10) hx hb dL_isShot_8 (by decide) ?_
  refine lv_iload hx hb dL_isShot_10 (lv_at hl 5 rfl) ?_
  refine lv_sipush (v := 990) hx hb dL_isShot_12 (by decide) ?_
  refine r_ci w (r_runS (As := [.int vy, .int 990]) (rest := [.int 10]) X w (kL_up l E vy 990 (by decide)) ck_L_19 ⟨Nat.le_of_ble_eq_true rfl, Nat.le_of_ble_eq_true rfl⟩ [] rfl (by decide +kernel) hl.1 (Nat.le_of_ble_eq_true rfl) rfl dL_isShot_15 ⟨Nat.le_of_ble_eq_true rfl, Nat.le_of_ble_eq_true rfl⟩) (wOb E A S ++ wOb E B T) [] rfl (by decide +kernel) rfl rfl (fun H locs w => ?_)
  refine lv_iadd hx hb dL_isShot_18 ?_
  refine lv_istore (lv' := [(6, .int (10 + (fL_up vy 990))), (5, .int (fL_up vx 6)), (0, .ref (adH A)), (1, .ref (adH B)), (2, .int bl), (3, .int vx), (4, .int vy)]) hx hb dL_isShot_19 hl (by decide) rfl (fun ls hl => ?_)
  refine lv_iload hx hb dL_isShot_21 (lv_at hl 6 rfl) ?_
  refine lv_bipush (v := 11) hx hb dL_isShot_23 (by decide) ?_
  refine lv_ishr hx hb dL_isShot_25 ?_
  refine lv_iconst (v := 3) hx hb dL_isShot_26 (by decide) ?_
  refine r_ci w (r_runS (As := [.int (vy >>> (11 &&& 31)), .int 3]) (rest := []) X w (kL_up l E (vy >>> (11 &&& 31)) 3 (by decide)) ck_L_19 ⟨Nat.le_of_ble_eq_true rfl, Nat.le_of_ble_eq_true rfl⟩ [] rfl (by decide +kernel) hl.1 (Nat.le_of_ble_eq_true rfl) rfl dL_isShot_27 ⟨Nat.le_of_ble_eq_true rfl, Nat.le_of_ble_eq_true rfl⟩) (wOb E A S ++ wOb E B T) [] rfl (by decide +kernel) rfl rfl (fun H locs w => ?_)
  refine lv_istore (lv' := [(7, .int (fL_up (vy >>> (11 &&& 31)) 3)), (6, .int (10 + (fL_up vy 990))), (5, .int (fL_up vx 6)), (0, .ref (adH A)), (1, .ref (adH B)), (2, .int bl), (3, .int vx), (4, .int vy)]) hx hb dL_isShot_30 hl (by decide) rfl (fun ls hl => ?_)
  obtain ⟨d, hd, ed⟩ : ∃ d, vp_in d 6 ∧ fL_up vx 6 = d := ⟨_, up_in rfl (by decide), rfl⟩
  obtain ⟨sg, hsg, es⟩ : ∃ sg : Int32, (10 ≤ sg.toInt ∧ sg.toInt ≤ 999) ∧ 10 + fL_up vy 990 = sg := ⟨_, by have h9 := add_in (u := fL_up vy 990) (a := 10) (k := 10) rfl (up_in (N := 990) rfl (by decide)) (by decide); omega, rfl⟩
  obtain ⟨sn, hsn, en⟩ : ∃ sn, vp_in sn 3 ∧ fL_up (vy >>> (11 &&& 31)) 3 = sn := ⟨_, up_in rfl (by decide), rfl⟩
  have hf := fo_in hsg hsn
  rw [ed, es, en] at hl
  refine lv_iload_n hx hb dL_isShot_32 rfl (lv_at hl 6 rfl) ?_
  refine lv_iconst (v := 5) hx hb dL_isShot_33 (by decide) ?_
  refine lv_ishr hx hb dL_isShot_34 ?_
  refine lv_bipush (v := 9) hx hb dL_isShot_35 (by decide) ?_
  refine r_ci w (r_runS (As := [.int (vx >>> (5 &&& 31)), .int 9]) (rest := []) X w (kL_up l E (vx >>> (5 &&& 31)) 9 (by decide)) ck_L_19 ⟨Nat.le_of_ble_eq_true rfl, Nat.le_of_ble_eq_true rfl⟩ [] rfl (by decide +kernel) hl.1 (Nat.le_of_ble_eq_true rfl) rfl dL_isShot_37 ⟨Nat.le_of_ble_eq_true rfl, Nat.le_of_ble_eq_true rfl⟩) (wOb E A S ++ wOb E B T) [] rfl (by decide +kernel) rfl rfl (fun H locs w => ?_)
  refine lv_if_ne (tgt := 53) hx hb dL_isShot_40 (by decide) (fun c40_1 => ?_) (fun c40_1 => ?_)
  · refine lv_aload_n hx hb dL_isShot_53 rfl (lv_at hl 3 rfl) ?_
    refine lv_iconst (v := 2) hx hb dL_isShot_54 (by decide) ?_
    refine r_ci w (r_runV (As := [.int 2]) (rest := []) X w (q_count l E A S 2 ) ck_L_15 ⟨Nat.le_of_ble_eq_true rfl, Nat.le_of_ble_eq_true rfl⟩ isA (hcR_2 (E := E)) nd_A (k0 := 0) CL6 rfl hl.1 (Nat.le_of_ble_eq_true rfl) rfl dL_isShot_55 ⟨Nat.le_of_ble_eq_true rfl, Nat.le_of_ble_eq_true rfl⟩) (wOb E A S ++ wOb E B T) isA (hcR_2 (E := E)) nd_A (haR_2 (E := E)) (hwR_2 (E := E)) (fun H locs w => ?_)
    refine lv_istore (lv' := [(8, .int (an_count S 2)), (7, .int sn), (6, .int sg), (5, .int d), (0, .ref (adH A)), (1, .ref (adH B)), (2, .int bl), (3, .int vx), (4, .int vy)]) hx hb dL_isShot_58 hl (by decide) rfl (fun ls hl => ?_)
    refine lv_aload_n hx hb dL_isShot_60 rfl (lv_at hl 4 rfl) ?_
    refine lv_iconst (v := 2) hx hb dL_isShot_61 (by decide) ?_
    refine r_ci w (r_runV (As := [.int 2]) (rest := []) X w (q_count l E A S 2 ) ck_L_15 ⟨Nat.le_of_ble_eq_true rfl, Nat.le_of_ble_eq_true rfl⟩ isA (hcR_2 (E := E)) nd_A (k0 := 0) CL6 rfl hl.1 (Nat.le_of_ble_eq_true rfl) rfl dL_isShot_62 ⟨Nat.le_of_ble_eq_true rfl, Nat.le_of_ble_eq_true rfl⟩) (wOb E A S ++ wOb E B T) isA (hcR_2 (E := E)) nd_A (haR_2 (E := E)) (hwR_2 (E := E)) (fun H locs w => ?_)
    refine lv_istore (lv' := [(9, .int (an_count S 2)), (8, .int (an_count S 2)), (7, .int sn), (6, .int sg), (5, .int d), (0, .ref (adH A)), (1, .ref (adH B)), (2, .int bl), (3, .int vx), (4, .int vy)]) hx hb dL_isShot_65 hl (by decide) rfl (fun ls hl => ?_)
    refine lv_aload_n hx hb dL_isShot_67 rfl (lv_at hl 5 rfl) ?_
    refine lv_iload_n hx hb dL_isShot_68 rfl (lv_at hl 7 rfl) ?_
    refine lv_iload hx hb dL_isShot_69 (lv_at hl 4 rfl) ?_
    refine lv_iload hx hb dL_isShot_71 (lv_at hl 3 rfl) ?_
    refine lv_iload hx hb dL_isShot_73 (lv_at hl 2 rfl) ?_
    refine lv_iconst (v := 3) hx hb dL_isShot_75 (by decide) ?_
    refine r_ci w (r_runV (As := [.int bl, .int d, .int sg, .int sn, .int 3]) (rest := []) X w (q_would l E A S bl d sg sn 3 (SB_gs hI.1 hI.2.1)) ck_L_70 ⟨Nat.le_of_ble_eq_true rfl, Nat.le_of_ble_eq_true rfl⟩ isA (hcR_2 (E := E)) nd_A (k0 := 0) CL6 rfl hl.1 (Nat.le_of_ble_eq_true rfl) rfl dL_isShot_76 ⟨Nat.le_of_ble_eq_true rfl, Nat.le_of_ble_eq_true rfl⟩) (wOb E A (ob_would S bl d sg sn 3) ++ wOb E B T) isA (hcR_2 (E := E)) nd_A (haR_2 (E := E)) (hwR_2 (E := E)) (fun H locs w => ?_)
    obtain ⟨b1, -, e0, -⟩ := s_would (b := bl) (d := d) (sg := sg) (sn := sn) (wt := 3) hI hM hd hf (vin_c rfl)
    have hB1 : BI M f (ob_would S bl d sg sn 3) T := ⟨hI.1, b1, hI.2.2⟩
    obtain ⟨b2, b3, ev⟩ := s_speed (b := bl) hB1 hM hd hsg hsn
    have hB2 : BI M f (ob_speedLeft (ob_would S bl d sg sn 3) bl d sg sn) (ob_speedLeft T bl (fL_way d) sg sn) := ⟨hI.1, b2, b3⟩
    refine lv_istore (lv' := [(10, .int (an_would S bl d sg sn 3)), (9, .int (an_count S 2)), (8, .int (an_count S 2)), (7, .int sn), (6, .int sg), (5, .int d), (0, .ref (adH A)), (1, .ref (adH B)), (2, .int bl), (3, .int vx), (4, .int vy)]) hx hb dL_isShot_79 hl (by decide) rfl (fun ls hl => ?_)
    refine lv_aload_n hx hb dL_isShot_81 rfl (lv_at hl 6 rfl) ?_
    refine lv_iconst (v := 3) hx hb dL_isShot_82 (by decide) ?_
    refine r_ci w (r_runV (As := [.int 3]) (rest := []) X w (q_count l E A (ob_would S bl d sg sn 3) 3 ) ck_L_15 ⟨Nat.le_of_ble_eq_true rfl, Nat.le_of_ble_eq_true rfl⟩ isA (hcR_2 (E := E)) nd_A (k0 := 0) CL6 rfl hl.1 (Nat.le_of_ble_eq_true rfl) rfl dL_isShot_83 ⟨Nat.le_of_ble_eq_true rfl, Nat.le_of_ble_eq_true rfl⟩) (wOb E A (ob_would S bl d sg sn 3) ++ wOb E B T) isA (hcR_2 (E := E)) nd_A (haR_2 (E := E)) (hwR_2 (E := E)) (fun H locs w => ?_)
    refine lv_aload_n hx hb dL_isShot_86 rfl (lv_at hl 6 rfl) ?_
    refine lv_iconst (v := 4) hx hb dL_isShot_87 (by decide) ?_
    refine r_ci w (r_runV (As := [.int 4]) (rest := [.int (an_count (ob_would S bl d sg sn 3) 3)]) X w (q_count l E A (ob_would S bl d sg sn 3) 4 ) ck_L_15 ⟨Nat.le_of_ble_eq_true rfl, Nat.le_of_ble_eq_true rfl⟩ isA (hcR_2 (E := E)) nd_A (k0 := 0) CL6 rfl hl.1 (Nat.le_of_ble_eq_true rfl) rfl dL_isShot_88 ⟨Nat.le_of_ble_eq_true rfl, Nat.le_of_ble_eq_true rfl⟩) (wOb E A (ob_would S bl d sg sn 3) ++ wOb E B T) isA (hcR_2 (E := E)) nd_A (haR_2 (E := E)) (hwR_2 (E := E)) (fun H locs w => ?_)
    refine lv_iadd hx hb dL_isShot_91 ?_
    refine lv_istore (lv' := [(11, .int ((an_count (ob_would S bl d sg sn 3) 3) + (an_count (ob_would S bl d sg sn 3) 4))), (10, .int (an_would S bl d sg sn 3)), (9, .int (an_count S 2)), (8, .int (an_count S 2)), (7, .int sn), (6, .int sg), (5, .int d), (0, .ref (adH A)), (1, .ref (adH B)), (2, .int bl), (3, .int vx), (4, .int vy)]) hx hb dL_isShot_92 hl (by decide) rfl (fun ls hl => ?_)
    refine lv_aload_n hx hb dL_isShot_94 rfl (lv_at hl 7 rfl) ?_
    refine lv_iconst (v := 0) hx hb dL_isShot_95 (by decide) ?_
    refine r_ci w (r_runV (As := [.int 0]) (rest := []) X w (q_count l E A (ob_would S bl d sg sn 3) 0 ) ck_L_15 ⟨Nat.le_of_ble_eq_true rfl, Nat.le_of_ble_eq_true rfl⟩ isA (hcR_2 (E := E)) nd_A (k0 := 0) CL6 rfl hl.1 (Nat.le_of_ble_eq_true rfl) rfl dL_isShot_96 ⟨Nat.le_of_ble_eq_true rfl, Nat.le_of_ble_eq_true rfl⟩) (wOb E A (ob_would S bl d sg sn 3) ++ wOb E B T) isA (hcR_2 (E := E)) nd_A (haR_2 (E := E)) (hwR_2 (E := E)) (fun H locs w => ?_)
    refine lv_istore (lv' := [(12, .int (an_count (ob_would S bl d sg sn 3) 0)), (11, .int ((an_count (ob_would S bl d sg sn 3) 3) + (an_count (ob_would S bl d sg sn 3) 4))), (10, .int (an_would S bl d sg sn 3)), (9, .int (an_count S 2)), (8, .int (an_count S 2)), (7, .int sn), (6, .int sg), (5, .int d), (0, .ref (adH A)), (1, .ref (adH B)), (2, .int bl), (3, .int vx), (4, .int vy)]) hx hb dL_isShot_99 hl (by decide) rfl (fun ls hl => ?_)
    refine lv_aload_n hx hb dL_isShot_101 rfl (lv_at hl 8 rfl) ?_
    refine lv_iload_n hx hb dL_isShot_102 rfl (lv_at hl 10 rfl) ?_
    refine lv_iload hx hb dL_isShot_103 (lv_at hl 7 rfl) ?_
    refine lv_iload hx hb dL_isShot_105 (lv_at hl 6 rfl) ?_
    refine lv_iload hx hb dL_isShot_107 (lv_at hl 5 rfl) ?_
    refine r_cf w (r_runV (As := [.int bl, .int d, .int sg, .int sn]) (rest := []) X w (q_speedLeft l E A (ob_would S bl d sg sn 3) bl d sg sn (SB_gs hB1.1 hB1.2.1)) ck_L_74 ⟨Nat.le_of_ble_eq_true rfl, Nat.le_of_ble_eq_true rfl⟩ isA (hcR_2 (E := E)) nd_A (k0 := 0) CL6 rfl hl.1 (Nat.le_of_ble_eq_true rfl) rfl dL_isShot_109 ⟨Nat.le_of_ble_eq_true rfl, Nat.le_of_ble_eq_true rfl⟩) (wOb E A (ob_speedLeft (ob_would S bl d sg sn 3) bl d sg sn) ++ wOb E B T) isA (hcR_2 (E := E)) nd_A (haR_2 (E := E)) (hwR_2 (E := E)) (fun H locs w => ?_)
    refine lv_aload_n hx hb dL_isShot_112 rfl (lv_at hl 9 rfl) ?_
    refine lv_iload_n hx hb dL_isShot_113 rfl (lv_at hl 10 rfl) ?_
    refine lv_iload hx hb dL_isShot_114 (lv_at hl 7 rfl) ?_
    refine r_ci w (r_runS (As := [.int d]) (rest := [.int bl, .ref (adH B), .float (an_speedLeft (ob_would S bl d sg sn 3) bl d sg sn)]) X w (kL_way l E d ) ck_L_78 ⟨Nat.le_of_ble_eq_true rfl, Nat.le_of_ble_eq_true rfl⟩ [] rfl (by decide +kernel) hl.1 (Nat.le_of_ble_eq_true rfl) rfl dL_isShot_116 ⟨Nat.le_of_ble_eq_true rfl, Nat.le_of_ble_eq_true rfl⟩) (wOb E A (ob_speedLeft (ob_would S bl d sg sn 3) bl d sg sn) ++ wOb E B T) [] rfl (by decide +kernel) rfl rfl (fun H locs w => ?_)
    refine lv_iload hx hb dL_isShot_119 (lv_at hl 6 rfl) ?_
    refine lv_iload hx hb dL_isShot_121 (lv_at hl 5 rfl) ?_
    refine r_cf w (r_runV (As := [.int bl, .int (fL_way d), .int sg, .int sn]) (rest := [.float (an_speedLeft (ob_would S bl d sg sn 3) bl d sg sn)]) X w (q_speedLeft l E B T bl (fL_way d) sg sn (SB_gs2 hB1.1 hB1.2.2)) ck_L_74 ⟨Nat.le_of_ble_eq_true rfl, Nat.le_of_ble_eq_true rfl⟩ isB (hcR_3 (E := E)) nd_B (k0 := 0) CL6 rfl hl.1 (Nat.le_of_ble_eq_true rfl) rfl dL_isShot_123 ⟨Nat.le_of_ble_eq_true rfl, Nat.le_of_ble_eq_true rfl⟩) (wOb E A (ob_speedLeft (ob_would S bl d sg sn 3) bl d sg sn) ++ wOb E B (ob_speedLeft T bl (fL_way d) sg sn)) isB (hcR_3 (E := E)) nd_B (haR_3 (E := E)) (hwR_3 (E := E)) (fun H locs w => ?_)
    refine lv_fcmp hx hb dL_isShot_126 ?_
    refine lv_if_ne (tgt := 134) hx hb dL_isShot_127 (by decide) (fun h => absurd ev h) (fun _ => ?_)
    refine lv_iconst (v := 1) hx hb dL_isShot_130 (by decide) ?_
    refine lv_goto (tgt := 135) hx hb dL_isShot_131 (by decide) ?_
    refine lv_istore (lv' := [(13, .int 1), (12, .int (an_count (ob_would S bl d sg sn 3) 0)), (11, .int ((an_count (ob_would S bl d sg sn 3) 3) + (an_count (ob_would S bl d sg sn 3) 4))), (10, .int (an_would S bl d sg sn 3)), (9, .int (an_count S 2)), (8, .int (an_count S 2)), (7, .int sn), (6, .int sg), (5, .int d), (0, .ref (adH A)), (1, .ref (adH B)), (2, .int bl), (3, .int vx), (4, .int vy)]) hx hb dL_isShot_135 hl (by decide) rfl (fun ls hl => ?_)
    refine lv_iconst (v := 0) hx hb dL_isShot_137 (by decide) ?_
    refine lv_istore (lv' := [(14, .int 0), (13, .int 1), (12, .int (an_count (ob_would S bl d sg sn 3) 0)), (11, .int ((an_count (ob_would S bl d sg sn 3) 3) + (an_count (ob_would S bl d sg sn 3) 4))), (10, .int (an_would S bl d sg sn 3)), (9, .int (an_count S 2)), (8, .int (an_count S 2)), (7, .int sn), (6, .int sg), (5, .int d), (0, .ref (adH A)), (1, .ref (adH B)), (2, .int bl), (3, .int vx), (4, .int vy)]) hx hb dL_isShot_138 hl (by decide) rfl (fun ls hl => ?_)
    have loop : ∀ (n k : Nat), k + n = 6 → ∀ (H : Heap) (locs : List Loc), Wd E (hB (wOb E A S ++ wOb E B T)) s (wOb E A (wo (ob_speedLeft (ob_would S bl d sg sn 3) bl d sg sn) bl d sg sn k) ++ wOb E B (wo (ob_speedLeft T bl (fL_way d) sg sn) bl (fL_way d) sg sn k)) H locs → ∀ (ls : Array Slot), lv_has ls 17 [(14, .int (nI k)), (13, .int 1), (12, .int (an_count (ob_would S bl d sg sn 3) 0)), (11, .int ((an_count (ob_would S bl d sg sn 3) 3) + (an_count (ob_would S bl d sg sn 3) 4))), (10, .int (an_would S bl d sg sn 3)), (9, .int (an_count S 2)), (8, .int (an_count S 2)), (7, .int sn), (6, .int sg), (5, .int d), (0, .ref (adH A)), (1, .ref (adH B)), (2, .int bl), (3, .int vx), (4, .int vy)] → W p l e { frames := 7, cells := 0, slots := 0, locals := 168 } s m (([.ref (adH A), .ref (adH B), .int bl, .int vx, .int vy] : List Value)).toArray below meth c H locs 0 0 (MQ below (QE E (wOb E A S ++ wOb E B T) (NS E A B (M + 1))) (([.ref (adH A), .ref (adH B), .int bl, .int vx, .int vy] : List Value)).toArray s 0 0 (hB (wOb E A S ++ wOb E B T))) (F0 m 140 ls []) := by
      intro n
      induction n with
      | zero =>
        intro k hk_k H locs w ls hl
        obtain rfl : k = 6 := by omega
        refine lv_iload hx hb dL_isShot_140 (lv_at hl 0 rfl) ?_
        refine lv_bipush (v := 6) hx hb dL_isShot_142 (by decide) ?_
        refine lv_icmp_ge (tgt := 224) hx hb dL_isShot_144 (by decide) (fun _ => ?_) (fun h => absurd (by decide : (6 : Int32) ≤ nI 6) h)
        have hB6 := (wo_BI (b := bl) hB2 hM hd hf 6 (by omega))
        obtain ⟨g, hB9, e1, e2, e3⟩ := s_shoot (b := bl) (pl := an_count S 2) hB6 hM hd hsg hsn (Or.inl (ct_2 hI.2.1.1))
        refine lv_aload_n hx hb dL_isShot_224 rfl (lv_at hl 10 rfl) ?_
        refine lv_iload hx hb dL_isShot_225 (lv_at hl 6 rfl) ?_
        refine lv_iload_n hx hb dL_isShot_227 rfl (lv_at hl 12 rfl) ?_
        refine lv_iload hx hb dL_isShot_228 (lv_at hl 9 rfl) ?_
        refine lv_iload hx hb dL_isShot_230 (lv_at hl 8 rfl) ?_
        refine lv_iload hx hb dL_isShot_232 (lv_at hl 7 rfl) ?_
        refine r_ci w (r_runV (As := [.int (an_count S 2), .int bl, .int d, .int sg, .int sn]) (rest := []) X w (q_shoot l E A (wo (ob_speedLeft (ob_would S bl d sg sn 3) bl d sg sn) bl d sg sn 6) (an_count S 2) bl d sg sn (SB_gs hB6.1 hB6.2.1)) ck_L_81 ⟨Nat.le_of_ble_eq_true rfl, Nat.le_of_ble_eq_true rfl⟩ isA (hcR_2 (E := E)) nd_A (k0 := 0) CL6 rfl hl.1 (Nat.le_of_ble_eq_true rfl) rfl dL_isShot_234 ⟨Nat.le_of_ble_eq_true rfl, Nat.le_of_ble_eq_true rfl⟩) (wOb E A (ob_shoot (wo (ob_speedLeft (ob_would S bl d sg sn 3) bl d sg sn) bl d sg sn 6) (an_count S 2) bl d sg sn) ++ wOb E B (wo (ob_speedLeft T bl (fL_way d) sg sn) bl (fL_way d) sg sn 6)) isA (hcR_2 (E := E)) nd_A (haR_2 (E := E)) (hwR_2 (E := E)) (fun H locs w => ?_)
        refine lv_istore (lv' := [(14, .int (an_shoot (wo (ob_speedLeft (ob_would S bl d sg sn 3) bl d sg sn) bl d sg sn 6) (an_count S 2) bl d sg sn)), (13, .int 1), (12, .int (an_count (ob_would S bl d sg sn 3) 0)), (11, .int ((an_count (ob_would S bl d sg sn 3) 3) + (an_count (ob_would S bl d sg sn 3) 4))), (10, .int (an_would S bl d sg sn 3)), (9, .int (an_count S 2)), (8, .int (an_count S 2)), (7, .int sn), (6, .int sg), (5, .int d), (0, .ref (adH A)), (1, .ref (adH B)), (2, .int bl), (3, .int vx), (4, .int vy)]) hx hb dL_isShot_237 hl (by decide) rfl (fun ls hl => ?_)
        refine lv_iload hx hb dL_isShot_239 (lv_at hl 1 rfl) ?_
        refine lv_if_eq (tgt := 269) hx hb dL_isShot_241 (by decide) (fun h => absurd h (by decide)) (fun _ => ?_)
        refine lv_iload hx hb dL_isShot_244 (lv_at hl 0 rfl) ?_
        refine lv_aload_n hx hb dL_isShot_246 rfl (lv_at hl 11 rfl) ?_
        refine lv_iload hx hb dL_isShot_247 (lv_at hl 6 rfl) ?_
        refine lv_iload_n hx hb dL_isShot_249 rfl (lv_at hl 12 rfl) ?_
        refine lv_iload hx hb dL_isShot_250 (lv_at hl 9 rfl) ?_
        refine r_ci w (r_runS (As := [.int d]) (rest := [.int bl, .int (an_count S 2), .ref (adH B), .int (an_shoot (wo (ob_speedLeft (ob_would S bl d sg sn 3) bl d sg sn) bl d sg sn 6) (an_count S 2) bl d sg sn)]) X w (kL_way l E d ) ck_L_78 ⟨Nat.le_of_ble_eq_true rfl, Nat.le_of_ble_eq_true rfl⟩ [] rfl (by decide +kernel) hl.1 (Nat.le_of_ble_eq_true rfl) rfl dL_isShot_252 ⟨Nat.le_of_ble_eq_true rfl, Nat.le_of_ble_eq_true rfl⟩) (wOb E A (ob_shoot (wo (ob_speedLeft (ob_would S bl d sg sn 3) bl d sg sn) bl d sg sn 6) (an_count S 2) bl d sg sn) ++ wOb E B (wo (ob_speedLeft T bl (fL_way d) sg sn) bl (fL_way d) sg sn 6)) [] rfl (by decide +kernel) rfl rfl (fun H locs w => ?_)
        refine lv_iload hx hb dL_isShot_255 (lv_at hl 8 rfl) ?_
        refine lv_iload hx hb dL_isShot_257 (lv_at hl 7 rfl) ?_
        refine r_ci w (r_runV (As := [.int (an_count S 2), .int bl, .int (fL_way d), .int sg, .int sn]) (rest := [.int (an_shoot (wo (ob_speedLeft (ob_would S bl d sg sn 3) bl d sg sn) bl d sg sn 6) (an_count S 2) bl d sg sn)]) X w (q_shoot l E B (wo (ob_speedLeft T bl (fL_way d) sg sn) bl (fL_way d) sg sn 6) (an_count S 2) bl (fL_way d) sg sn (SB_gs2 hB6.1 hB6.2.2)) ck_L_81 ⟨Nat.le_of_ble_eq_true rfl, Nat.le_of_ble_eq_true rfl⟩ isB (hcR_3 (E := E)) nd_B (k0 := 0) CL6 rfl hl.1 (Nat.le_of_ble_eq_true rfl) rfl dL_isShot_259 ⟨Nat.le_of_ble_eq_true rfl, Nat.le_of_ble_eq_true rfl⟩) (wOb E A (ob_shoot (wo (ob_speedLeft (ob_would S bl d sg sn 3) bl d sg sn) bl d sg sn 6) (an_count S 2) bl d sg sn) ++ wOb E B (ob_shoot (wo (ob_speedLeft T bl (fL_way d) sg sn) bl (fL_way d) sg sn 6) (an_count S 2) bl (fL_way d) sg sn)) isB (hcR_3 (E := E)) nd_B (haR_3 (E := E)) (hwR_3 (E := E)) (fun H locs w => ?_)
        refine lv_icmp_ne (tgt := 269) hx hb dL_isShot_262 (by decide) (fun h => absurd e1 h) (fun _ => ?_)
        refine lv_iconst (v := 1) hx hb dL_isShot_265 (by decide) ?_
        refine lv_goto (tgt := 270) hx hb dL_isShot_266 (by decide) ?_
        refine lv_istore (lv' := [(13, .int 1), (14, .int (an_shoot (wo (ob_speedLeft (ob_would S bl d sg sn 3) bl d sg sn) bl d sg sn 6) (an_count S 2) bl d sg sn)), (12, .int (an_count (ob_would S bl d sg sn 3) 0)), (11, .int ((an_count (ob_would S bl d sg sn 3) 3) + (an_count (ob_would S bl d sg sn 3) 4))), (10, .int (an_would S bl d sg sn 3)), (9, .int (an_count S 2)), (8, .int (an_count S 2)), (7, .int sn), (6, .int sg), (5, .int d), (0, .ref (adH A)), (1, .ref (adH B)), (2, .int bl), (3, .int vx), (4, .int vy)]) hx hb dL_isShot_270 hl (by decide) rfl (fun ls hl => ?_)
        refine lv_iload hx hb dL_isShot_272 (lv_at hl 1 rfl) ?_
        refine lv_if_ge (tgt := 318) hx hb dL_isShot_274 (by decide) (fun c274_5 => ?_) (fun c274_5 => ?_)
        · refine lv_iload hx hb dL_isShot_318 (lv_at hl 0 rfl) ?_
          refine lv_if_eq (tgt := 420) hx hb dL_isShot_320 (by decide) (fun h => absurd h (by decide)) (fun _ => ?_)
          refine lv_aload_n hx hb dL_isShot_323 rfl (lv_at hl 10 rfl) ?_
          refine lv_iconst (v := 3) hx hb dL_isShot_324 (by decide) ?_
          refine r_ci w (r_runV (As := [.int 3]) (rest := []) X w (q_count l E A (ob_shoot (wo (ob_speedLeft (ob_would S bl d sg sn 3) bl d sg sn) bl d sg sn 6) (an_count S 2) bl d sg sn) 3 ) ck_L_15 ⟨Nat.le_of_ble_eq_true rfl, Nat.le_of_ble_eq_true rfl⟩ isA (hcR_2 (E := E)) nd_A (k0 := 0) CL6 rfl hl.1 (Nat.le_of_ble_eq_true rfl) rfl dL_isShot_325 ⟨Nat.le_of_ble_eq_true rfl, Nat.le_of_ble_eq_true rfl⟩) (wOb E A (ob_shoot (wo (ob_speedLeft (ob_would S bl d sg sn 3) bl d sg sn) bl d sg sn 6) (an_count S 2) bl d sg sn) ++ wOb E B (ob_shoot (wo (ob_speedLeft T bl (fL_way d) sg sn) bl (fL_way d) sg sn 6) (an_count S 2) bl (fL_way d) sg sn)) isA (hcR_2 (E := E)) nd_A (haR_2 (E := E)) (hwR_2 (E := E)) (fun H locs w => ?_)
          refine lv_aload_n hx hb dL_isShot_328 rfl (lv_at hl 10 rfl) ?_
          refine lv_iconst (v := 4) hx hb dL_isShot_329 (by decide) ?_
          refine r_ci w (r_runV (As := [.int 4]) (rest := [.int (an_count (ob_shoot (wo (ob_speedLeft (ob_would S bl d sg sn 3) bl d sg sn) bl d sg sn 6) (an_count S 2) bl d sg sn) 3)]) X w (q_count l E A (ob_shoot (wo (ob_speedLeft (ob_would S bl d sg sn 3) bl d sg sn) bl d sg sn 6) (an_count S 2) bl d sg sn) 4 ) ck_L_15 ⟨Nat.le_of_ble_eq_true rfl, Nat.le_of_ble_eq_true rfl⟩ isA (hcR_2 (E := E)) nd_A (k0 := 0) CL6 rfl hl.1 (Nat.le_of_ble_eq_true rfl) rfl dL_isShot_330 ⟨Nat.le_of_ble_eq_true rfl, Nat.le_of_ble_eq_true rfl⟩) (wOb E A (ob_shoot (wo (ob_speedLeft (ob_would S bl d sg sn 3) bl d sg sn) bl d sg sn 6) (an_count S 2) bl d sg sn) ++ wOb E B (ob_shoot (wo (ob_speedLeft T bl (fL_way d) sg sn) bl (fL_way d) sg sn 6) (an_count S 2) bl (fL_way d) sg sn)) isA (hcR_2 (E := E)) nd_A (haR_2 (E := E)) (hwR_2 (E := E)) (fun H locs w => ?_)
          refine lv_iadd hx hb dL_isShot_333 ?_
          refine lv_iload hx hb dL_isShot_334 (lv_at hl 3 rfl) ?_
          refine lv_iload hx hb dL_isShot_336 (lv_at hl 1 rfl) ?_
          refine lv_iadd hx hb dL_isShot_338 ?_
          refine lv_icmp_ne (tgt := 420) hx hb dL_isShot_339 (by decide) (fun h => absurd (by rw [ct_3 hB9.2.1.1, ct_4 hB9.2.1.1, ct_3 b1.1, ct_4 b1.1]; exact (e3 (nlt_ge c274_5)).1) h) (fun _ => ?_)
          refine lv_aload_n hx hb dL_isShot_342 rfl (lv_at hl 10 rfl) ?_
          refine lv_iconst (v := 0) hx hb dL_isShot_343 (by decide) ?_
          refine r_ci w (r_runV (As := [.int 0]) (rest := []) X w (q_count l E A (ob_shoot (wo (ob_speedLeft (ob_would S bl d sg sn 3) bl d sg sn) bl d sg sn 6) (an_count S 2) bl d sg sn) 0 ) ck_L_15 ⟨Nat.le_of_ble_eq_true rfl, Nat.le_of_ble_eq_true rfl⟩ isA (hcR_2 (E := E)) nd_A (k0 := 0) CL6 rfl hl.1 (Nat.le_of_ble_eq_true rfl) rfl dL_isShot_344 ⟨Nat.le_of_ble_eq_true rfl, Nat.le_of_ble_eq_true rfl⟩) (wOb E A (ob_shoot (wo (ob_speedLeft (ob_would S bl d sg sn 3) bl d sg sn) bl d sg sn 6) (an_count S 2) bl d sg sn) ++ wOb E B (ob_shoot (wo (ob_speedLeft T bl (fL_way d) sg sn) bl (fL_way d) sg sn 6) (an_count S 2) bl (fL_way d) sg sn)) isA (hcR_2 (E := E)) nd_A (haR_2 (E := E)) (hwR_2 (E := E)) (fun H locs w => ?_)
          refine lv_iload hx hb dL_isShot_347 (lv_at hl 2 rfl) ?_
          refine lv_iload hx hb dL_isShot_349 (lv_at hl 4 rfl) ?_
          refine lv_if_ge (tgt := 358) hx hb dL_isShot_351 (by decide) (fun c351_7 => ?_) (fun c351_7 => ?_)
          · refine lv_iconst (v := 1) hx hb dL_isShot_358 (by decide) ?_
            refine lv_isub hx hb dL_isShot_359 ?_
            refine lv_icmp_ne (tgt := 420) hx hb dL_isShot_360 (by decide) (fun h => absurd (by rw [ct_0 hB9.2.1.1, ct_0 b1.1, ← ((e3 (nlt_ge c274_5)).2.resolve_left (fun q => nlt_ge c351_7 (by rw [e0]; exact q.1))).2.2.1]; exact on_sub (onN_le _ _)) h) (fun _ => ?_)
            refine lv_iload hx hb dL_isShot_363 (lv_at hl 4 rfl) ?_
            refine lv_if_ge (tgt := 372) hx hb dL_isShot_365 (by decide) (fun _ => ?_) (fun h => absurd c351_7 h)
            refine lv_iconst (v := 0) hx hb dL_isShot_372 (by decide) ?_
            refine lv_iload hx hb dL_isShot_373 (lv_at hl 1 rfl) ?_
            refine lv_if_ne (tgt := 382) hx hb dL_isShot_375 (by decide) (fun _ => ?_) (fun h => absurd h ((e3 (nlt_ge c274_5)).2.resolve_left (fun q => nlt_ge c351_7 (by rw [e0]; exact q.1))).2.1)
            refine lv_iconst (v := 0) hx hb dL_isShot_382 (by decide) ?_
            refine lv_icmp_ne (tgt := 420) hx hb dL_isShot_383 (by decide) (fun h => absurd h (by decide)) (fun _ => ?_)
            refine lv_iload hx hb dL_isShot_386 (lv_at hl 4 rfl) ?_
            refine lv_if_ge (tgt := 406) hx hb dL_isShot_388 (by decide) (fun _ => ?_) (fun h => absurd c351_7 h)
            refine lv_aload_n hx hb dL_isShot_406 rfl (lv_at hl 10 rfl) ?_
            refine lv_iconst (v := 2) hx hb dL_isShot_407 (by decide) ?_
            refine r_ci w (r_runV (As := [.int 2]) (rest := []) X w (q_count l E A (ob_shoot (wo (ob_speedLeft (ob_would S bl d sg sn 3) bl d sg sn) bl d sg sn 6) (an_count S 2) bl d sg sn) 2 ) ck_L_15 ⟨Nat.le_of_ble_eq_true rfl, Nat.le_of_ble_eq_true rfl⟩ isA (hcR_2 (E := E)) nd_A (k0 := 0) CL6 rfl hl.1 (Nat.le_of_ble_eq_true rfl) rfl dL_isShot_408 ⟨Nat.le_of_ble_eq_true rfl, Nat.le_of_ble_eq_true rfl⟩) (wOb E A (ob_shoot (wo (ob_speedLeft (ob_would S bl d sg sn 3) bl d sg sn) bl d sg sn 6) (an_count S 2) bl d sg sn) ++ wOb E B (ob_shoot (wo (ob_speedLeft T bl (fL_way d) sg sn) bl (fL_way d) sg sn 6) (an_count S 2) bl (fL_way d) sg sn)) isA (hcR_2 (E := E)) nd_A (haR_2 (E := E)) (hwR_2 (E := E)) (fun H locs w => ?_)
            refine lv_iload hx hb dL_isShot_411 (lv_at hl 5 rfl) ?_
            refine lv_icmp_ne (tgt := 420) hx hb dL_isShot_413 (by decide) (fun h => absurd (by rw [ct_2 hB9.2.1.1, ct_2 hI.2.1.1]; exact ((e3 (nlt_ge c274_5)).2.resolve_left (fun q => nlt_ge c351_7 (by rw [e0]; exact q.1))).2.2.2) h) (fun _ => ?_)
            refine lv_iconst (v := 1) hx hb dL_isShot_416 (by decide) ?_
            refine lv_goto (tgt := 421) hx hb dL_isShot_417 (by decide) ?_
            exact r_eret X w hr (Or.inr rfl) ⟨rfl, _, _, _, hB9, rfl⟩ (haR_4 (E := E)) dL_isShot_421
          · refine lv_iconst (v := 0) hx hb dL_isShot_354 (by decide) ?_
            refine lv_goto (tgt := 359) hx hb dL_isShot_355 (by decide) ?_
            refine lv_isub hx hb dL_isShot_359 ?_
            refine lv_icmp_ne (tgt := 420) hx hb dL_isShot_360 (by decide) (fun h => absurd (by rw [ct_0 hB9.2.1.1, ct_0 b1.1, ((e3 (nlt_ge c274_5)).2.resolve_right (fun q => q.1 (by rw [← e0]; exact lt_nge c351_7))).2.2.1]; exact (Int32.sub_zero _).symm) h) (fun _ => ?_)
            refine lv_iload hx hb dL_isShot_363 (lv_at hl 4 rfl) ?_
            refine lv_if_ge (tgt := 372) hx hb dL_isShot_365 (by decide) (fun h => absurd h c351_7) (fun _ => ?_)
            refine lv_iconst (v := 1) hx hb dL_isShot_368 (by decide) ?_
            refine lv_goto (tgt := 373) hx hb dL_isShot_369 (by decide) ?_
            refine lv_iload hx hb dL_isShot_373 (lv_at hl 1 rfl) ?_
            refine lv_if_ne (tgt := 382) hx hb dL_isShot_375 (by decide) (fun h => absurd ((e3 (nlt_ge c274_5)).2.resolve_right (fun q => q.1 (by rw [← e0]; exact lt_nge c351_7))).2.1 h) (fun _ => ?_)
            refine lv_iconst (v := 1) hx hb dL_isShot_378 (by decide) ?_
            refine lv_goto (tgt := 383) hx hb dL_isShot_379 (by decide) ?_
            refine lv_icmp_ne (tgt := 420) hx hb dL_isShot_383 (by decide) (fun h => absurd h (by decide)) (fun _ => ?_)
            refine lv_iload hx hb dL_isShot_386 (lv_at hl 4 rfl) ?_
            refine lv_if_ge (tgt := 406) hx hb dL_isShot_388 (by decide) (fun h => absurd h c351_7) (fun _ => ?_)
            refine lv_aload_n hx hb dL_isShot_391 rfl (lv_at hl 10 rfl) ?_
            refine lv_iconst (v := 2) hx hb dL_isShot_392 (by decide) ?_
            refine r_ci w (r_runV (As := [.int 2]) (rest := []) X w (q_count l E A (ob_shoot (wo (ob_speedLeft (ob_would S bl d sg sn 3) bl d sg sn) bl d sg sn 6) (an_count S 2) bl d sg sn) 2 ) ck_L_15 ⟨Nat.le_of_ble_eq_true rfl, Nat.le_of_ble_eq_true rfl⟩ isA (hcR_2 (E := E)) nd_A (k0 := 0) CL6 rfl hl.1 (Nat.le_of_ble_eq_true rfl) rfl dL_isShot_393 ⟨Nat.le_of_ble_eq_true rfl, Nat.le_of_ble_eq_true rfl⟩) (wOb E A (ob_shoot (wo (ob_speedLeft (ob_would S bl d sg sn 3) bl d sg sn) bl d sg sn 6) (an_count S 2) bl d sg sn) ++ wOb E B (ob_shoot (wo (ob_speedLeft T bl (fL_way d) sg sn) bl (fL_way d) sg sn 6) (an_count S 2) bl (fL_way d) sg sn)) isA (hcR_2 (E := E)) nd_A (haR_2 (E := E)) (hwR_2 (E := E)) (fun H locs w => ?_)
            refine lv_iconst (v := 1) hx hb dL_isShot_396 (by decide) ?_
            refine lv_iload hx hb dL_isShot_397 (lv_at hl 5 rfl) ?_
            refine lv_isub hx hb dL_isShot_399 ?_
            refine lv_icmp_ne (tgt := 420) hx hb dL_isShot_400 (by decide) (fun h => absurd (by rw [ct_2 hB9.2.1.1, ct_2 hI.2.1.1]; exact ((e3 (nlt_ge c274_5)).2.resolve_right (fun q => q.1 (by rw [← e0]; exact lt_nge c351_7))).2.2.2) h) (fun _ => ?_)
            refine lv_goto (tgt := 416) hx hb dL_isShot_403 (by decide) ?_
            refine lv_iconst (v := 1) hx hb dL_isShot_416 (by decide) ?_
            refine lv_goto (tgt := 421) hx hb dL_isShot_417 (by decide) ?_
            exact r_eret X w hr (Or.inr rfl) ⟨rfl, _, _, _, hB9, rfl⟩ (haR_4 (E := E)) dL_isShot_421
        · refine lv_iload hx hb dL_isShot_277 (lv_at hl 0 rfl) ?_
          refine lv_if_eq (tgt := 316) hx hb dL_isShot_279 (by decide) (fun h => absurd h (by decide)) (fun _ => ?_)
          refine lv_iload hx hb dL_isShot_282 (lv_at hl 1 rfl) ?_
          refine lv_iconst (v := (-1)) hx hb dL_isShot_284 (by decide) ?_
          refine lv_icmp_ne (tgt := 298) hx hb dL_isShot_285 (by decide) (fun c285_14 => ?_) (fun c285_14 => ?_)
          · refine lv_iload hx hb dL_isShot_298 (lv_at hl 1 rfl) ?_
            refine lv_bipush (v := (-4)) hx hb dL_isShot_300 (by decide) ?_
            refine lv_icmp_ne (tgt := 316) hx hb dL_isShot_302 (by decide) (fun h => absurd ((e2 (lt_nge c274_5)).2 c285_14).1 h) (fun _ => ?_)
            refine lv_iload hx hb dL_isShot_305 (lv_at hl 6 rfl) ?_
            refine lv_iload hx hb dL_isShot_307 (lv_at hl 5 rfl) ?_
            refine lv_icmp_eq (tgt := 316) hx hb dL_isShot_309 (by decide) (fun h => absurd h (fun q => ((e2 (lt_nge c274_5)).2 c285_14).2 (q.trans (ct_2 hI.2.1.1)))) (fun _ => ?_)
            refine lv_iconst (v := 1) hx hb dL_isShot_312 (by decide) ?_
            refine lv_goto (tgt := 317) hx hb dL_isShot_313 (by decide) ?_
            exact r_eret X w hr (Or.inr rfl) ⟨rfl, _, _, _, hB9, rfl⟩ (haR_4 (E := E)) dL_isShot_317
          · refine lv_iload hx hb dL_isShot_288 (lv_at hl 4 rfl) ?_
            refine lv_iload hx hb dL_isShot_290 (lv_at hl 1 rfl) ?_
            refine lv_icmp_ne (tgt := 316) hx hb dL_isShot_292 (by decide) (fun h => absurd (e0.trans ((e2 (lt_nge c274_5)).1 c285_14)) h) (fun _ => ?_)
            refine lv_goto (tgt := 312) hx hb dL_isShot_295 (by decide) ?_
            refine lv_iconst (v := 1) hx hb dL_isShot_312 (by decide) ?_
            refine lv_goto (tgt := 317) hx hb dL_isShot_313 (by decide) ?_
            exact r_eret X w hr (Or.inr rfl) ⟨rfl, _, _, _, hB9, rfl⟩ (haR_4 (E := E)) dL_isShot_317
      | succ n ih =>
        intro k hk_k H locs w ls hl
        have hkN : k < 6 := by omega
        refine lv_iload hx hb dL_isShot_140 (lv_at hl 0 rfl) ?_
        refine lv_bipush (v := 6) hx hb dL_isShot_142 (by decide) ?_
        refine lv_icmp_ge (tgt := 224) hx hb dL_isShot_144 (by decide) (fun h => absurd h (nI_ge (b := 6) hkN (by decide))) (fun _ => ?_)
        refine lv_aload_n hx hb dL_isShot_147 rfl (lv_at hl 10 rfl) ?_
        refine lv_iload_n hx hb dL_isShot_148 rfl (lv_at hl 12 rfl) ?_
        refine lv_iload hx hb dL_isShot_149 (lv_at hl 9 rfl) ?_
        refine lv_iload hx hb dL_isShot_151 (lv_at hl 8 rfl) ?_
        refine lv_iload hx hb dL_isShot_153 (lv_at hl 7 rfl) ?_
        refine lv_iload hx hb dL_isShot_155 (lv_at hl 0 rfl) ?_
        refine r_ci w (r_runV (As := [.int bl, .int d, .int sg, .int sn, .int (nI k)]) (rest := []) X w (q_would l E A (wo (ob_speedLeft (ob_would S bl d sg sn 3) bl d sg sn) bl d sg sn k) bl d sg sn (nI k) (SB_gs hB2.1 (wo_BI (b := bl) hB2 hM hd hf k (by omega)).2.1)) ck_L_70 ⟨Nat.le_of_ble_eq_true rfl, Nat.le_of_ble_eq_true rfl⟩ isA (hcR_2 (E := E)) nd_A (k0 := 0) CL6 rfl hl.1 (Nat.le_of_ble_eq_true rfl) rfl dL_isShot_157 ⟨Nat.le_of_ble_eq_true rfl, Nat.le_of_ble_eq_true rfl⟩) (wOb E A (ob_would (wo (ob_speedLeft (ob_would S bl d sg sn 3) bl d sg sn) bl d sg sn k) bl d sg sn (nI k)) ++ wOb E B (wo (ob_speedLeft T bl (fL_way d) sg sn) bl (fL_way d) sg sn k)) isA (hcR_2 (E := E)) nd_A (haR_2 (E := E)) (hwR_2 (E := E)) (fun H locs w => ?_)
        refine lv_istore (lv' := [(15, .int (an_would (wo (ob_speedLeft (ob_would S bl d sg sn 3) bl d sg sn) bl d sg sn k) bl d sg sn (nI k))), (14, .int (nI k)), (13, .int 1), (12, .int (an_count (ob_would S bl d sg sn 3) 0)), (11, .int ((an_count (ob_would S bl d sg sn 3) 3) + (an_count (ob_would S bl d sg sn 3) 4))), (10, .int (an_would S bl d sg sn 3)), (9, .int (an_count S 2)), (8, .int (an_count S 2)), (7, .int sn), (6, .int sg), (5, .int d), (0, .ref (adH A)), (1, .ref (adH B)), (2, .int bl), (3, .int vx), (4, .int vy)]) hx hb dL_isShot_160 hl (by decide) rfl (fun ls hl => ?_)
        refine lv_aload_n hx hb dL_isShot_162 rfl (lv_at hl 12 rfl) ?_
        refine lv_iload_n hx hb dL_isShot_163 rfl (lv_at hl 13 rfl) ?_
        refine lv_iload hx hb dL_isShot_164 (lv_at hl 10 rfl) ?_
        refine r_ci w (r_runS (As := [.int d]) (rest := [.int bl, .ref (adH B)]) X w (kL_way l E d ) ck_L_78 ⟨Nat.le_of_ble_eq_true rfl, Nat.le_of_ble_eq_true rfl⟩ [] rfl (by decide +kernel) hl.1 (Nat.le_of_ble_eq_true rfl) rfl dL_isShot_166 ⟨Nat.le_of_ble_eq_true rfl, Nat.le_of_ble_eq_true rfl⟩) (wOb E A (ob_would (wo (ob_speedLeft (ob_would S bl d sg sn 3) bl d sg sn) bl d sg sn k) bl d sg sn (nI k)) ++ wOb E B (wo (ob_speedLeft T bl (fL_way d) sg sn) bl (fL_way d) sg sn k)) [] rfl (by decide +kernel) rfl rfl (fun H locs w => ?_)
        refine lv_iload hx hb dL_isShot_169 (lv_at hl 9 rfl) ?_
        refine lv_iload hx hb dL_isShot_171 (lv_at hl 8 rfl) ?_
        refine lv_iload hx hb dL_isShot_173 (lv_at hl 1 rfl) ?_
        refine r_ci w (r_runV (As := [.int bl, .int (fL_way d), .int sg, .int sn, .int (nI k)]) (rest := []) X w (q_would l E B (wo (ob_speedLeft T bl (fL_way d) sg sn) bl (fL_way d) sg sn k) bl (fL_way d) sg sn (nI k) (SB_gs2 hB2.1 (wo_BI (b := bl) hB2 hM hd hf k (by omega)).2.2)) ck_L_70 ⟨Nat.le_of_ble_eq_true rfl, Nat.le_of_ble_eq_true rfl⟩ isB (hcR_3 (E := E)) nd_B (k0 := 0) CL6 rfl hl.1 (Nat.le_of_ble_eq_true rfl) rfl dL_isShot_175 ⟨Nat.le_of_ble_eq_true rfl, Nat.le_of_ble_eq_true rfl⟩) (wOb E A (ob_would (wo (ob_speedLeft (ob_would S bl d sg sn 3) bl d sg sn) bl d sg sn k) bl d sg sn (nI k)) ++ wOb E B (ob_would (wo (ob_speedLeft T bl (fL_way d) sg sn) bl (fL_way d) sg sn k) bl (fL_way d) sg sn (nI k))) isB (hcR_3 (E := E)) nd_B (haR_3 (E := E)) (hwR_3 (E := E)) (fun H locs w => ?_)
        refine lv_istore (lv' := [(16, .int (an_would (wo (ob_speedLeft T bl (fL_way d) sg sn) bl (fL_way d) sg sn k) bl (fL_way d) sg sn (nI k))), (15, .int (an_would (wo (ob_speedLeft (ob_would S bl d sg sn 3) bl d sg sn) bl d sg sn k) bl d sg sn (nI k))), (14, .int (nI k)), (13, .int 1), (12, .int (an_count (ob_would S bl d sg sn 3) 0)), (11, .int ((an_count (ob_would S bl d sg sn 3) 3) + (an_count (ob_would S bl d sg sn 3) 4))), (10, .int (an_would S bl d sg sn 3)), (9, .int (an_count S 2)), (8, .int (an_count S 2)), (7, .int sn), (6, .int sg), (5, .int d), (0, .ref (adH A)), (1, .ref (adH B)), (2, .int bl), (3, .int vx), (4, .int vy)]) hx hb dL_isShot_178 hl (by decide) rfl (fun ls hl => ?_)
        refine lv_iload hx hb dL_isShot_180 (lv_at hl 3 rfl) ?_
        refine lv_if_eq (tgt := 215) hx hb dL_isShot_182 (by decide) (fun h => absurd h (by decide)) (fun _ => ?_)
        refine lv_iload hx hb dL_isShot_185 (lv_at hl 2 rfl) ?_
        refine lv_iconst (v := 4) hx hb dL_isShot_187 (by decide) ?_
        refine lv_icmp_ne (tgt := 204) hx hb dL_isShot_188 (by decide) (fun c188_19 => ?_) (fun c188_19 => ?_)
        · refine lv_iload hx hb dL_isShot_204 (lv_at hl 1 rfl) ?_
          refine lv_iload hx hb dL_isShot_206 (lv_at hl 0 rfl) ?_
          refine lv_icmp_ne (tgt := 215) hx hb dL_isShot_208 (by decide) (fun h => absurd (wo_n (wo_BI (b := bl) hB2 hM hd hf k (by omega)) hM hd hf (vp_in_nI (by omega) (by decide)) c188_19) h) (fun _ => ?_)
          refine lv_iconst (v := 1) hx hb dL_isShot_211 (by decide) ?_
          refine lv_goto (tgt := 216) hx hb dL_isShot_212 (by decide) ?_
          refine lv_istore (lv' := [(13, .int 1), (16, .int (an_would (wo (ob_speedLeft T bl (fL_way d) sg sn) bl (fL_way d) sg sn k) bl (fL_way d) sg sn (nI k))), (15, .int (an_would (wo (ob_speedLeft (ob_would S bl d sg sn 3) bl d sg sn) bl d sg sn k) bl d sg sn (nI k))), (14, .int (nI k)), (12, .int (an_count (ob_would S bl d sg sn 3) 0)), (11, .int ((an_count (ob_would S bl d sg sn 3) 3) + (an_count (ob_would S bl d sg sn 3) 4))), (10, .int (an_would S bl d sg sn 3)), (9, .int (an_count S 2)), (8, .int (an_count S 2)), (7, .int sn), (6, .int sg), (5, .int d), (0, .ref (adH A)), (1, .ref (adH B)), (2, .int bl), (3, .int vx), (4, .int vy)]) hx hb dL_isShot_216 hl (by decide) rfl (fun ls hl => ?_)
          refine lv_iinc (v := (nI k) + 1) (lv' := [(14, .int ((nI k) + 1)), (13, .int 1), (16, .int (an_would (wo (ob_speedLeft T bl (fL_way d) sg sn) bl (fL_way d) sg sn k) bl (fL_way d) sg sn (nI k))), (15, .int (an_would (wo (ob_speedLeft (ob_would S bl d sg sn 3) bl d sg sn) bl d sg sn k) bl d sg sn (nI k))), (12, .int (an_count (ob_would S bl d sg sn 3) 0)), (11, .int ((an_count (ob_would S bl d sg sn 3) 3) + (an_count (ob_would S bl d sg sn 3) 4))), (10, .int (an_would S bl d sg sn 3)), (9, .int (an_count S 2)), (8, .int (an_count S 2)), (7, .int sn), (6, .int sg), (5, .int d), (0, .ref (adH A)), (1, .ref (adH B)), (2, .int bl), (3, .int vx), (4, .int vy)]) hx hb dL_isShot_218 hl (k := 3) rfl (by first | rfl | decide) (by decide) rfl (fun ls hl => ?_)
          refine lv_goto (tgt := 140) hx hb dL_isShot_221 (by decide) ?_
          have e0 : nI k + 1 = nI (k + 1) := nI_1 k
          rw [e0] at hl
          exact ih (k + 1) (by omega) _ _ w ls (lv_sub hl [0, 1, 4, 5, 6, 7, 8, 9, 10, 11, 12, 13, 14, 15, 16] rfl)
        · refine lv_iload hx hb dL_isShot_191 (lv_at hl 1 rfl) ?_
          refine r_ci w (r_runS (As := [.int (an_would (wo (ob_speedLeft (ob_would S bl d sg sn 3) bl d sg sn) bl d sg sn k) bl d sg sn (nI k))]) (rest := []) X w (kL_there l E (an_would (wo (ob_speedLeft (ob_would S bl d sg sn 3) bl d sg sn) bl d sg sn k) bl d sg sn (nI k)) ) ck_L_31 ⟨Nat.le_of_ble_eq_true rfl, Nat.le_of_ble_eq_true rfl⟩ [] rfl (by decide +kernel) hl.1 (Nat.le_of_ble_eq_true rfl) rfl dL_isShot_193 ⟨Nat.le_of_ble_eq_true rfl, Nat.le_of_ble_eq_true rfl⟩) (wOb E A (ob_would (wo (ob_speedLeft (ob_would S bl d sg sn 3) bl d sg sn) bl d sg sn k) bl d sg sn (nI k)) ++ wOb E B (ob_would (wo (ob_speedLeft T bl (fL_way d) sg sn) bl (fL_way d) sg sn k) bl (fL_way d) sg sn (nI k))) [] rfl (by decide +kernel) rfl rfl (fun H locs w => ?_)
          refine lv_iload hx hb dL_isShot_196 (lv_at hl 0 rfl) ?_
          refine lv_icmp_ne (tgt := 215) hx hb dL_isShot_198 (by decide) (fun h => absurd (wo_4 (wo_BI (b := bl) hB2 hM hd hf k (by omega)) hM hd hf (vp_in_nI (by omega) (by decide)) c188_19) h) (fun _ => ?_)
          refine lv_goto (tgt := 211) hx hb dL_isShot_201 (by decide) ?_
          refine lv_iconst (v := 1) hx hb dL_isShot_211 (by decide) ?_
          refine lv_goto (tgt := 216) hx hb dL_isShot_212 (by decide) ?_
          refine lv_istore (lv' := [(13, .int 1), (16, .int (an_would (wo (ob_speedLeft T bl (fL_way d) sg sn) bl (fL_way d) sg sn k) bl (fL_way d) sg sn (nI k))), (15, .int (an_would (wo (ob_speedLeft (ob_would S bl d sg sn 3) bl d sg sn) bl d sg sn k) bl d sg sn (nI k))), (14, .int (nI k)), (12, .int (an_count (ob_would S bl d sg sn 3) 0)), (11, .int ((an_count (ob_would S bl d sg sn 3) 3) + (an_count (ob_would S bl d sg sn 3) 4))), (10, .int (an_would S bl d sg sn 3)), (9, .int (an_count S 2)), (8, .int (an_count S 2)), (7, .int sn), (6, .int sg), (5, .int d), (0, .ref (adH A)), (1, .ref (adH B)), (2, .int bl), (3, .int vx), (4, .int vy)]) hx hb dL_isShot_216 hl (by decide) rfl (fun ls hl => ?_)
          refine lv_iinc (v := (nI k) + 1) (lv' := [(14, .int ((nI k) + 1)), (13, .int 1), (16, .int (an_would (wo (ob_speedLeft T bl (fL_way d) sg sn) bl (fL_way d) sg sn k) bl (fL_way d) sg sn (nI k))), (15, .int (an_would (wo (ob_speedLeft (ob_would S bl d sg sn 3) bl d sg sn) bl d sg sn k) bl d sg sn (nI k))), (12, .int (an_count (ob_would S bl d sg sn 3) 0)), (11, .int ((an_count (ob_would S bl d sg sn 3) 3) + (an_count (ob_would S bl d sg sn 3) 4))), (10, .int (an_would S bl d sg sn 3)), (9, .int (an_count S 2)), (8, .int (an_count S 2)), (7, .int sn), (6, .int sg), (5, .int d), (0, .ref (adH A)), (1, .ref (adH B)), (2, .int bl), (3, .int vx), (4, .int vy)]) hx hb dL_isShot_218 hl (k := 3) rfl (by first | rfl | decide) (by decide) rfl (fun ls hl => ?_)
          refine lv_goto (tgt := 140) hx hb dL_isShot_221 (by decide) ?_
          have e0 : nI k + 1 = nI (k + 1) := nI_1 k
          rw [e0] at hl
          exact ih (k + 1) (by omega) _ _ w ls (lv_sub hl [0, 1, 4, 5, 6, 7, 8, 9, 10, 11, 12, 13, 14, 15, 16] rfl)
    exact loop 6 0 (by omega) _ _ w ls (lv_sub hl [0, 1, 2, 3, 4, 5, 6, 7, 8, 9, 10, 11, 12, 13, 14] rfl)
  · refine lv_iconst (v := 1) hx hb dL_isShot_43 (by decide) ?_
    refine lv_aload_n hx hb dL_isShot_44 rfl (lv_at hl 3 rfl) ?_
    refine lv_iconst (v := 2) hx hb dL_isShot_45 (by decide) ?_
    refine r_ci w (r_runV (As := [.int 2]) (rest := [.int 1]) X w (q_count l E A S 2 ) ck_L_15 ⟨Nat.le_of_ble_eq_true rfl, Nat.le_of_ble_eq_true rfl⟩ isA (hcR_2 (E := E)) nd_A (k0 := 0) CL6 rfl hl.1 (Nat.le_of_ble_eq_true rfl) rfl dL_isShot_46 ⟨Nat.le_of_ble_eq_true rfl, Nat.le_of_ble_eq_true rfl⟩) (wOb E A S ++ wOb E B T) isA (hcR_2 (E := E)) nd_A (haR_2 (E := E)) (hwR_2 (E := E)) (fun H locs w => ?_)
    refine lv_isub hx hb dL_isShot_49 ?_
    refine lv_goto (tgt := 58) hx hb dL_isShot_50 (by decide) ?_
    refine lv_istore (lv' := [(8, .int (1 - (an_count S 2))), (7, .int sn), (6, .int sg), (5, .int d), (0, .ref (adH A)), (1, .ref (adH B)), (2, .int bl), (3, .int vx), (4, .int vy)]) hx hb dL_isShot_58 hl (by decide) rfl (fun ls hl => ?_)
    refine lv_aload_n hx hb dL_isShot_60 rfl (lv_at hl 4 rfl) ?_
    refine lv_iconst (v := 2) hx hb dL_isShot_61 (by decide) ?_
    refine r_ci w (r_runV (As := [.int 2]) (rest := []) X w (q_count l E A S 2 ) ck_L_15 ⟨Nat.le_of_ble_eq_true rfl, Nat.le_of_ble_eq_true rfl⟩ isA (hcR_2 (E := E)) nd_A (k0 := 0) CL6 rfl hl.1 (Nat.le_of_ble_eq_true rfl) rfl dL_isShot_62 ⟨Nat.le_of_ble_eq_true rfl, Nat.le_of_ble_eq_true rfl⟩) (wOb E A S ++ wOb E B T) isA (hcR_2 (E := E)) nd_A (haR_2 (E := E)) (hwR_2 (E := E)) (fun H locs w => ?_)
    refine lv_istore (lv' := [(9, .int (an_count S 2)), (8, .int (1 - (an_count S 2))), (7, .int sn), (6, .int sg), (5, .int d), (0, .ref (adH A)), (1, .ref (adH B)), (2, .int bl), (3, .int vx), (4, .int vy)]) hx hb dL_isShot_65 hl (by decide) rfl (fun ls hl => ?_)
    refine lv_aload_n hx hb dL_isShot_67 rfl (lv_at hl 5 rfl) ?_
    refine lv_iload_n hx hb dL_isShot_68 rfl (lv_at hl 7 rfl) ?_
    refine lv_iload hx hb dL_isShot_69 (lv_at hl 4 rfl) ?_
    refine lv_iload hx hb dL_isShot_71 (lv_at hl 3 rfl) ?_
    refine lv_iload hx hb dL_isShot_73 (lv_at hl 2 rfl) ?_
    refine lv_iconst (v := 3) hx hb dL_isShot_75 (by decide) ?_
    refine r_ci w (r_runV (As := [.int bl, .int d, .int sg, .int sn, .int 3]) (rest := []) X w (q_would l E A S bl d sg sn 3 (SB_gs hI.1 hI.2.1)) ck_L_70 ⟨Nat.le_of_ble_eq_true rfl, Nat.le_of_ble_eq_true rfl⟩ isA (hcR_2 (E := E)) nd_A (k0 := 0) CL6 rfl hl.1 (Nat.le_of_ble_eq_true rfl) rfl dL_isShot_76 ⟨Nat.le_of_ble_eq_true rfl, Nat.le_of_ble_eq_true rfl⟩) (wOb E A (ob_would S bl d sg sn 3) ++ wOb E B T) isA (hcR_2 (E := E)) nd_A (haR_2 (E := E)) (hwR_2 (E := E)) (fun H locs w => ?_)
    obtain ⟨b1, -, e0, -⟩ := s_would (b := bl) (d := d) (sg := sg) (sn := sn) (wt := 3) hI hM hd hf (vin_c rfl)
    have hB1 : BI M f (ob_would S bl d sg sn 3) T := ⟨hI.1, b1, hI.2.2⟩
    obtain ⟨b2, b3, ev⟩ := s_speed (b := bl) hB1 hM hd hsg hsn
    have hB2 : BI M f (ob_speedLeft (ob_would S bl d sg sn 3) bl d sg sn) (ob_speedLeft T bl (fL_way d) sg sn) := ⟨hI.1, b2, b3⟩
    refine lv_istore (lv' := [(10, .int (an_would S bl d sg sn 3)), (9, .int (an_count S 2)), (8, .int (1 - (an_count S 2))), (7, .int sn), (6, .int sg), (5, .int d), (0, .ref (adH A)), (1, .ref (adH B)), (2, .int bl), (3, .int vx), (4, .int vy)]) hx hb dL_isShot_79 hl (by decide) rfl (fun ls hl => ?_)
    refine lv_aload_n hx hb dL_isShot_81 rfl (lv_at hl 6 rfl) ?_
    refine lv_iconst (v := 3) hx hb dL_isShot_82 (by decide) ?_
    refine r_ci w (r_runV (As := [.int 3]) (rest := []) X w (q_count l E A (ob_would S bl d sg sn 3) 3 ) ck_L_15 ⟨Nat.le_of_ble_eq_true rfl, Nat.le_of_ble_eq_true rfl⟩ isA (hcR_2 (E := E)) nd_A (k0 := 0) CL6 rfl hl.1 (Nat.le_of_ble_eq_true rfl) rfl dL_isShot_83 ⟨Nat.le_of_ble_eq_true rfl, Nat.le_of_ble_eq_true rfl⟩) (wOb E A (ob_would S bl d sg sn 3) ++ wOb E B T) isA (hcR_2 (E := E)) nd_A (haR_2 (E := E)) (hwR_2 (E := E)) (fun H locs w => ?_)
    refine lv_aload_n hx hb dL_isShot_86 rfl (lv_at hl 6 rfl) ?_
    refine lv_iconst (v := 4) hx hb dL_isShot_87 (by decide) ?_
    refine r_ci w (r_runV (As := [.int 4]) (rest := [.int (an_count (ob_would S bl d sg sn 3) 3)]) X w (q_count l E A (ob_would S bl d sg sn 3) 4 ) ck_L_15 ⟨Nat.le_of_ble_eq_true rfl, Nat.le_of_ble_eq_true rfl⟩ isA (hcR_2 (E := E)) nd_A (k0 := 0) CL6 rfl hl.1 (Nat.le_of_ble_eq_true rfl) rfl dL_isShot_88 ⟨Nat.le_of_ble_eq_true rfl, Nat.le_of_ble_eq_true rfl⟩) (wOb E A (ob_would S bl d sg sn 3) ++ wOb E B T) isA (hcR_2 (E := E)) nd_A (haR_2 (E := E)) (hwR_2 (E := E)) (fun H locs w => ?_)
    refine lv_iadd hx hb dL_isShot_91 ?_
    refine lv_istore (lv' := [(11, .int ((an_count (ob_would S bl d sg sn 3) 3) + (an_count (ob_would S bl d sg sn 3) 4))), (10, .int (an_would S bl d sg sn 3)), (9, .int (an_count S 2)), (8, .int (1 - (an_count S 2))), (7, .int sn), (6, .int sg), (5, .int d), (0, .ref (adH A)), (1, .ref (adH B)), (2, .int bl), (3, .int vx), (4, .int vy)]) hx hb dL_isShot_92 hl (by decide) rfl (fun ls hl => ?_)
    refine lv_aload_n hx hb dL_isShot_94 rfl (lv_at hl 7 rfl) ?_
    refine lv_iconst (v := 0) hx hb dL_isShot_95 (by decide) ?_
    refine r_ci w (r_runV (As := [.int 0]) (rest := []) X w (q_count l E A (ob_would S bl d sg sn 3) 0 ) ck_L_15 ⟨Nat.le_of_ble_eq_true rfl, Nat.le_of_ble_eq_true rfl⟩ isA (hcR_2 (E := E)) nd_A (k0 := 0) CL6 rfl hl.1 (Nat.le_of_ble_eq_true rfl) rfl dL_isShot_96 ⟨Nat.le_of_ble_eq_true rfl, Nat.le_of_ble_eq_true rfl⟩) (wOb E A (ob_would S bl d sg sn 3) ++ wOb E B T) isA (hcR_2 (E := E)) nd_A (haR_2 (E := E)) (hwR_2 (E := E)) (fun H locs w => ?_)
    refine lv_istore (lv' := [(12, .int (an_count (ob_would S bl d sg sn 3) 0)), (11, .int ((an_count (ob_would S bl d sg sn 3) 3) + (an_count (ob_would S bl d sg sn 3) 4))), (10, .int (an_would S bl d sg sn 3)), (9, .int (an_count S 2)), (8, .int (1 - (an_count S 2))), (7, .int sn), (6, .int sg), (5, .int d), (0, .ref (adH A)), (1, .ref (adH B)), (2, .int bl), (3, .int vx), (4, .int vy)]) hx hb dL_isShot_99 hl (by decide) rfl (fun ls hl => ?_)
    refine lv_aload_n hx hb dL_isShot_101 rfl (lv_at hl 8 rfl) ?_
    refine lv_iload_n hx hb dL_isShot_102 rfl (lv_at hl 10 rfl) ?_
    refine lv_iload hx hb dL_isShot_103 (lv_at hl 7 rfl) ?_
    refine lv_iload hx hb dL_isShot_105 (lv_at hl 6 rfl) ?_
    refine lv_iload hx hb dL_isShot_107 (lv_at hl 5 rfl) ?_
    refine r_cf w (r_runV (As := [.int bl, .int d, .int sg, .int sn]) (rest := []) X w (q_speedLeft l E A (ob_would S bl d sg sn 3) bl d sg sn (SB_gs hB1.1 hB1.2.1)) ck_L_74 ⟨Nat.le_of_ble_eq_true rfl, Nat.le_of_ble_eq_true rfl⟩ isA (hcR_2 (E := E)) nd_A (k0 := 0) CL6 rfl hl.1 (Nat.le_of_ble_eq_true rfl) rfl dL_isShot_109 ⟨Nat.le_of_ble_eq_true rfl, Nat.le_of_ble_eq_true rfl⟩) (wOb E A (ob_speedLeft (ob_would S bl d sg sn 3) bl d sg sn) ++ wOb E B T) isA (hcR_2 (E := E)) nd_A (haR_2 (E := E)) (hwR_2 (E := E)) (fun H locs w => ?_)
    refine lv_aload_n hx hb dL_isShot_112 rfl (lv_at hl 9 rfl) ?_
    refine lv_iload_n hx hb dL_isShot_113 rfl (lv_at hl 10 rfl) ?_
    refine lv_iload hx hb dL_isShot_114 (lv_at hl 7 rfl) ?_
    refine r_ci w (r_runS (As := [.int d]) (rest := [.int bl, .ref (adH B), .float (an_speedLeft (ob_would S bl d sg sn 3) bl d sg sn)]) X w (kL_way l E d ) ck_L_78 ⟨Nat.le_of_ble_eq_true rfl, Nat.le_of_ble_eq_true rfl⟩ [] rfl (by decide +kernel) hl.1 (Nat.le_of_ble_eq_true rfl) rfl dL_isShot_116 ⟨Nat.le_of_ble_eq_true rfl, Nat.le_of_ble_eq_true rfl⟩) (wOb E A (ob_speedLeft (ob_would S bl d sg sn 3) bl d sg sn) ++ wOb E B T) [] rfl (by decide +kernel) rfl rfl (fun H locs w => ?_)
    refine lv_iload hx hb dL_isShot_119 (lv_at hl 6 rfl) ?_
    refine lv_iload hx hb dL_isShot_121 (lv_at hl 5 rfl) ?_
    refine r_cf w (r_runV (As := [.int bl, .int (fL_way d), .int sg, .int sn]) (rest := [.float (an_speedLeft (ob_would S bl d sg sn 3) bl d sg sn)]) X w (q_speedLeft l E B T bl (fL_way d) sg sn (SB_gs2 hB1.1 hB1.2.2)) ck_L_74 ⟨Nat.le_of_ble_eq_true rfl, Nat.le_of_ble_eq_true rfl⟩ isB (hcR_3 (E := E)) nd_B (k0 := 0) CL6 rfl hl.1 (Nat.le_of_ble_eq_true rfl) rfl dL_isShot_123 ⟨Nat.le_of_ble_eq_true rfl, Nat.le_of_ble_eq_true rfl⟩) (wOb E A (ob_speedLeft (ob_would S bl d sg sn 3) bl d sg sn) ++ wOb E B (ob_speedLeft T bl (fL_way d) sg sn)) isB (hcR_3 (E := E)) nd_B (haR_3 (E := E)) (hwR_3 (E := E)) (fun H locs w => ?_)
    refine lv_fcmp hx hb dL_isShot_126 ?_
    refine lv_if_ne (tgt := 134) hx hb dL_isShot_127 (by decide) (fun h => absurd ev h) (fun _ => ?_)
    refine lv_iconst (v := 1) hx hb dL_isShot_130 (by decide) ?_
    refine lv_goto (tgt := 135) hx hb dL_isShot_131 (by decide) ?_
    refine lv_istore (lv' := [(13, .int 1), (12, .int (an_count (ob_would S bl d sg sn 3) 0)), (11, .int ((an_count (ob_would S bl d sg sn 3) 3) + (an_count (ob_would S bl d sg sn 3) 4))), (10, .int (an_would S bl d sg sn 3)), (9, .int (an_count S 2)), (8, .int (1 - (an_count S 2))), (7, .int sn), (6, .int sg), (5, .int d), (0, .ref (adH A)), (1, .ref (adH B)), (2, .int bl), (3, .int vx), (4, .int vy)]) hx hb dL_isShot_135 hl (by decide) rfl (fun ls hl => ?_)
    refine lv_iconst (v := 0) hx hb dL_isShot_137 (by decide) ?_
    refine lv_istore (lv' := [(14, .int 0), (13, .int 1), (12, .int (an_count (ob_would S bl d sg sn 3) 0)), (11, .int ((an_count (ob_would S bl d sg sn 3) 3) + (an_count (ob_would S bl d sg sn 3) 4))), (10, .int (an_would S bl d sg sn 3)), (9, .int (an_count S 2)), (8, .int (1 - (an_count S 2))), (7, .int sn), (6, .int sg), (5, .int d), (0, .ref (adH A)), (1, .ref (adH B)), (2, .int bl), (3, .int vx), (4, .int vy)]) hx hb dL_isShot_138 hl (by decide) rfl (fun ls hl => ?_)
    have loop : ∀ (n k : Nat), k + n = 6 → ∀ (H : Heap) (locs : List Loc), Wd E (hB (wOb E A S ++ wOb E B T)) s (wOb E A (wo (ob_speedLeft (ob_would S bl d sg sn 3) bl d sg sn) bl d sg sn k) ++ wOb E B (wo (ob_speedLeft T bl (fL_way d) sg sn) bl (fL_way d) sg sn k)) H locs → ∀ (ls : Array Slot), lv_has ls 17 [(14, .int (nI k)), (13, .int 1), (12, .int (an_count (ob_would S bl d sg sn 3) 0)), (11, .int ((an_count (ob_would S bl d sg sn 3) 3) + (an_count (ob_would S bl d sg sn 3) 4))), (10, .int (an_would S bl d sg sn 3)), (9, .int (an_count S 2)), (8, .int (1 - (an_count S 2))), (7, .int sn), (6, .int sg), (5, .int d), (0, .ref (adH A)), (1, .ref (adH B)), (2, .int bl), (3, .int vx), (4, .int vy)] → W p l e { frames := 7, cells := 0, slots := 0, locals := 168 } s m (([.ref (adH A), .ref (adH B), .int bl, .int vx, .int vy] : List Value)).toArray below meth c H locs 0 0 (MQ below (QE E (wOb E A S ++ wOb E B T) (NS E A B (M + 1))) (([.ref (adH A), .ref (adH B), .int bl, .int vx, .int vy] : List Value)).toArray s 0 0 (hB (wOb E A S ++ wOb E B T))) (F0 m 140 ls []) := by
      intro n
      induction n with
      | zero =>
        intro k hk_k H locs w ls hl
        obtain rfl : k = 6 := by omega
        refine lv_iload hx hb dL_isShot_140 (lv_at hl 0 rfl) ?_
        refine lv_bipush (v := 6) hx hb dL_isShot_142 (by decide) ?_
        refine lv_icmp_ge (tgt := 224) hx hb dL_isShot_144 (by decide) (fun _ => ?_) (fun h => absurd (by decide : (6 : Int32) ≤ nI 6) h)
        have hB6 := (wo_BI (b := bl) hB2 hM hd hf 6 (by omega))
        obtain ⟨g, hB9, e1, e2, e3⟩ := s_shoot (b := bl) (pl := 1 - (an_count S 2)) hB6 hM hd hsg hsn (Or.inr (by rw [ct_2 hI.2.1.1]))
        refine lv_aload_n hx hb dL_isShot_224 rfl (lv_at hl 10 rfl) ?_
        refine lv_iload hx hb dL_isShot_225 (lv_at hl 6 rfl) ?_
        refine lv_iload_n hx hb dL_isShot_227 rfl (lv_at hl 12 rfl) ?_
        refine lv_iload hx hb dL_isShot_228 (lv_at hl 9 rfl) ?_
        refine lv_iload hx hb dL_isShot_230 (lv_at hl 8 rfl) ?_
        refine lv_iload hx hb dL_isShot_232 (lv_at hl 7 rfl) ?_
        refine r_ci w (r_runV (As := [.int (1 - (an_count S 2)), .int bl, .int d, .int sg, .int sn]) (rest := []) X w (q_shoot l E A (wo (ob_speedLeft (ob_would S bl d sg sn 3) bl d sg sn) bl d sg sn 6) (1 - (an_count S 2)) bl d sg sn (SB_gs hB6.1 hB6.2.1)) ck_L_81 ⟨Nat.le_of_ble_eq_true rfl, Nat.le_of_ble_eq_true rfl⟩ isA (hcR_2 (E := E)) nd_A (k0 := 0) CL6 rfl hl.1 (Nat.le_of_ble_eq_true rfl) rfl dL_isShot_234 ⟨Nat.le_of_ble_eq_true rfl, Nat.le_of_ble_eq_true rfl⟩) (wOb E A (ob_shoot (wo (ob_speedLeft (ob_would S bl d sg sn 3) bl d sg sn) bl d sg sn 6) (1 - (an_count S 2)) bl d sg sn) ++ wOb E B (wo (ob_speedLeft T bl (fL_way d) sg sn) bl (fL_way d) sg sn 6)) isA (hcR_2 (E := E)) nd_A (haR_2 (E := E)) (hwR_2 (E := E)) (fun H locs w => ?_)
        refine lv_istore (lv' := [(14, .int (an_shoot (wo (ob_speedLeft (ob_would S bl d sg sn 3) bl d sg sn) bl d sg sn 6) (1 - (an_count S 2)) bl d sg sn)), (13, .int 1), (12, .int (an_count (ob_would S bl d sg sn 3) 0)), (11, .int ((an_count (ob_would S bl d sg sn 3) 3) + (an_count (ob_would S bl d sg sn 3) 4))), (10, .int (an_would S bl d sg sn 3)), (9, .int (an_count S 2)), (8, .int (1 - (an_count S 2))), (7, .int sn), (6, .int sg), (5, .int d), (0, .ref (adH A)), (1, .ref (adH B)), (2, .int bl), (3, .int vx), (4, .int vy)]) hx hb dL_isShot_237 hl (by decide) rfl (fun ls hl => ?_)
        refine lv_iload hx hb dL_isShot_239 (lv_at hl 1 rfl) ?_
        refine lv_if_eq (tgt := 269) hx hb dL_isShot_241 (by decide) (fun h => absurd h (by decide)) (fun _ => ?_)
        refine lv_iload hx hb dL_isShot_244 (lv_at hl 0 rfl) ?_
        refine lv_aload_n hx hb dL_isShot_246 rfl (lv_at hl 11 rfl) ?_
        refine lv_iload hx hb dL_isShot_247 (lv_at hl 6 rfl) ?_
        refine lv_iload_n hx hb dL_isShot_249 rfl (lv_at hl 12 rfl) ?_
        refine lv_iload hx hb dL_isShot_250 (lv_at hl 9 rfl) ?_
        refine r_ci w (r_runS (As := [.int d]) (rest := [.int bl, .int (1 - (an_count S 2)), .ref (adH B), .int (an_shoot (wo (ob_speedLeft (ob_would S bl d sg sn 3) bl d sg sn) bl d sg sn 6) (1 - (an_count S 2)) bl d sg sn)]) X w (kL_way l E d ) ck_L_78 ⟨Nat.le_of_ble_eq_true rfl, Nat.le_of_ble_eq_true rfl⟩ [] rfl (by decide +kernel) hl.1 (Nat.le_of_ble_eq_true rfl) rfl dL_isShot_252 ⟨Nat.le_of_ble_eq_true rfl, Nat.le_of_ble_eq_true rfl⟩) (wOb E A (ob_shoot (wo (ob_speedLeft (ob_would S bl d sg sn 3) bl d sg sn) bl d sg sn 6) (1 - (an_count S 2)) bl d sg sn) ++ wOb E B (wo (ob_speedLeft T bl (fL_way d) sg sn) bl (fL_way d) sg sn 6)) [] rfl (by decide +kernel) rfl rfl (fun H locs w => ?_)
        refine lv_iload hx hb dL_isShot_255 (lv_at hl 8 rfl) ?_
        refine lv_iload hx hb dL_isShot_257 (lv_at hl 7 rfl) ?_
        refine r_ci w (r_runV (As := [.int (1 - (an_count S 2)), .int bl, .int (fL_way d), .int sg, .int sn]) (rest := [.int (an_shoot (wo (ob_speedLeft (ob_would S bl d sg sn 3) bl d sg sn) bl d sg sn 6) (1 - (an_count S 2)) bl d sg sn)]) X w (q_shoot l E B (wo (ob_speedLeft T bl (fL_way d) sg sn) bl (fL_way d) sg sn 6) (1 - (an_count S 2)) bl (fL_way d) sg sn (SB_gs2 hB6.1 hB6.2.2)) ck_L_81 ⟨Nat.le_of_ble_eq_true rfl, Nat.le_of_ble_eq_true rfl⟩ isB (hcR_3 (E := E)) nd_B (k0 := 0) CL6 rfl hl.1 (Nat.le_of_ble_eq_true rfl) rfl dL_isShot_259 ⟨Nat.le_of_ble_eq_true rfl, Nat.le_of_ble_eq_true rfl⟩) (wOb E A (ob_shoot (wo (ob_speedLeft (ob_would S bl d sg sn 3) bl d sg sn) bl d sg sn 6) (1 - (an_count S 2)) bl d sg sn) ++ wOb E B (ob_shoot (wo (ob_speedLeft T bl (fL_way d) sg sn) bl (fL_way d) sg sn 6) (1 - (an_count S 2)) bl (fL_way d) sg sn)) isB (hcR_3 (E := E)) nd_B (haR_3 (E := E)) (hwR_3 (E := E)) (fun H locs w => ?_)
        refine lv_icmp_ne (tgt := 269) hx hb dL_isShot_262 (by decide) (fun h => absurd e1 h) (fun _ => ?_)
        refine lv_iconst (v := 1) hx hb dL_isShot_265 (by decide) ?_
        refine lv_goto (tgt := 270) hx hb dL_isShot_266 (by decide) ?_
        refine lv_istore (lv' := [(13, .int 1), (14, .int (an_shoot (wo (ob_speedLeft (ob_would S bl d sg sn 3) bl d sg sn) bl d sg sn 6) (1 - (an_count S 2)) bl d sg sn)), (12, .int (an_count (ob_would S bl d sg sn 3) 0)), (11, .int ((an_count (ob_would S bl d sg sn 3) 3) + (an_count (ob_would S bl d sg sn 3) 4))), (10, .int (an_would S bl d sg sn 3)), (9, .int (an_count S 2)), (8, .int (1 - (an_count S 2))), (7, .int sn), (6, .int sg), (5, .int d), (0, .ref (adH A)), (1, .ref (adH B)), (2, .int bl), (3, .int vx), (4, .int vy)]) hx hb dL_isShot_270 hl (by decide) rfl (fun ls hl => ?_)
        refine lv_iload hx hb dL_isShot_272 (lv_at hl 1 rfl) ?_
        refine lv_if_ge (tgt := 318) hx hb dL_isShot_274 (by decide) (fun c274_25 => ?_) (fun c274_25 => ?_)
        · refine lv_iload hx hb dL_isShot_318 (lv_at hl 0 rfl) ?_
          refine lv_if_eq (tgt := 420) hx hb dL_isShot_320 (by decide) (fun h => absurd h (by decide)) (fun _ => ?_)
          refine lv_aload_n hx hb dL_isShot_323 rfl (lv_at hl 10 rfl) ?_
          refine lv_iconst (v := 3) hx hb dL_isShot_324 (by decide) ?_
          refine r_ci w (r_runV (As := [.int 3]) (rest := []) X w (q_count l E A (ob_shoot (wo (ob_speedLeft (ob_would S bl d sg sn 3) bl d sg sn) bl d sg sn 6) (1 - (an_count S 2)) bl d sg sn) 3 ) ck_L_15 ⟨Nat.le_of_ble_eq_true rfl, Nat.le_of_ble_eq_true rfl⟩ isA (hcR_2 (E := E)) nd_A (k0 := 0) CL6 rfl hl.1 (Nat.le_of_ble_eq_true rfl) rfl dL_isShot_325 ⟨Nat.le_of_ble_eq_true rfl, Nat.le_of_ble_eq_true rfl⟩) (wOb E A (ob_shoot (wo (ob_speedLeft (ob_would S bl d sg sn 3) bl d sg sn) bl d sg sn 6) (1 - (an_count S 2)) bl d sg sn) ++ wOb E B (ob_shoot (wo (ob_speedLeft T bl (fL_way d) sg sn) bl (fL_way d) sg sn 6) (1 - (an_count S 2)) bl (fL_way d) sg sn)) isA (hcR_2 (E := E)) nd_A (haR_2 (E := E)) (hwR_2 (E := E)) (fun H locs w => ?_)
          refine lv_aload_n hx hb dL_isShot_328 rfl (lv_at hl 10 rfl) ?_
          refine lv_iconst (v := 4) hx hb dL_isShot_329 (by decide) ?_
          refine r_ci w (r_runV (As := [.int 4]) (rest := [.int (an_count (ob_shoot (wo (ob_speedLeft (ob_would S bl d sg sn 3) bl d sg sn) bl d sg sn 6) (1 - (an_count S 2)) bl d sg sn) 3)]) X w (q_count l E A (ob_shoot (wo (ob_speedLeft (ob_would S bl d sg sn 3) bl d sg sn) bl d sg sn 6) (1 - (an_count S 2)) bl d sg sn) 4 ) ck_L_15 ⟨Nat.le_of_ble_eq_true rfl, Nat.le_of_ble_eq_true rfl⟩ isA (hcR_2 (E := E)) nd_A (k0 := 0) CL6 rfl hl.1 (Nat.le_of_ble_eq_true rfl) rfl dL_isShot_330 ⟨Nat.le_of_ble_eq_true rfl, Nat.le_of_ble_eq_true rfl⟩) (wOb E A (ob_shoot (wo (ob_speedLeft (ob_would S bl d sg sn 3) bl d sg sn) bl d sg sn 6) (1 - (an_count S 2)) bl d sg sn) ++ wOb E B (ob_shoot (wo (ob_speedLeft T bl (fL_way d) sg sn) bl (fL_way d) sg sn 6) (1 - (an_count S 2)) bl (fL_way d) sg sn)) isA (hcR_2 (E := E)) nd_A (haR_2 (E := E)) (hwR_2 (E := E)) (fun H locs w => ?_)
          refine lv_iadd hx hb dL_isShot_333 ?_
          refine lv_iload hx hb dL_isShot_334 (lv_at hl 3 rfl) ?_
          refine lv_iload hx hb dL_isShot_336 (lv_at hl 1 rfl) ?_
          refine lv_iadd hx hb dL_isShot_338 ?_
          refine lv_icmp_ne (tgt := 420) hx hb dL_isShot_339 (by decide) (fun h => absurd (by rw [ct_3 hB9.2.1.1, ct_4 hB9.2.1.1, ct_3 b1.1, ct_4 b1.1]; exact (e3 (nlt_ge c274_25)).1) h) (fun _ => ?_)
          refine lv_aload_n hx hb dL_isShot_342 rfl (lv_at hl 10 rfl) ?_
          refine lv_iconst (v := 0) hx hb dL_isShot_343 (by decide) ?_
          refine r_ci w (r_runV (As := [.int 0]) (rest := []) X w (q_count l E A (ob_shoot (wo (ob_speedLeft (ob_would S bl d sg sn 3) bl d sg sn) bl d sg sn 6) (1 - (an_count S 2)) bl d sg sn) 0 ) ck_L_15 ⟨Nat.le_of_ble_eq_true rfl, Nat.le_of_ble_eq_true rfl⟩ isA (hcR_2 (E := E)) nd_A (k0 := 0) CL6 rfl hl.1 (Nat.le_of_ble_eq_true rfl) rfl dL_isShot_344 ⟨Nat.le_of_ble_eq_true rfl, Nat.le_of_ble_eq_true rfl⟩) (wOb E A (ob_shoot (wo (ob_speedLeft (ob_would S bl d sg sn 3) bl d sg sn) bl d sg sn 6) (1 - (an_count S 2)) bl d sg sn) ++ wOb E B (ob_shoot (wo (ob_speedLeft T bl (fL_way d) sg sn) bl (fL_way d) sg sn 6) (1 - (an_count S 2)) bl (fL_way d) sg sn)) isA (hcR_2 (E := E)) nd_A (haR_2 (E := E)) (hwR_2 (E := E)) (fun H locs w => ?_)
          refine lv_iload hx hb dL_isShot_347 (lv_at hl 2 rfl) ?_
          refine lv_iload hx hb dL_isShot_349 (lv_at hl 4 rfl) ?_
          refine lv_if_ge (tgt := 358) hx hb dL_isShot_351 (by decide) (fun c351_27 => ?_) (fun c351_27 => ?_)
          · refine lv_iconst (v := 1) hx hb dL_isShot_358 (by decide) ?_
            refine lv_isub hx hb dL_isShot_359 ?_
            refine lv_icmp_ne (tgt := 420) hx hb dL_isShot_360 (by decide) (fun h => absurd (by rw [ct_0 hB9.2.1.1, ct_0 b1.1, ← ((e3 (nlt_ge c274_25)).2.resolve_left (fun q => nlt_ge c351_27 (by rw [e0]; exact q.1))).2.2.1]; exact on_sub (onN_le _ _)) h) (fun _ => ?_)
            refine lv_iload hx hb dL_isShot_363 (lv_at hl 4 rfl) ?_
            refine lv_if_ge (tgt := 372) hx hb dL_isShot_365 (by decide) (fun _ => ?_) (fun h => absurd c351_27 h)
            refine lv_iconst (v := 0) hx hb dL_isShot_372 (by decide) ?_
            refine lv_iload hx hb dL_isShot_373 (lv_at hl 1 rfl) ?_
            refine lv_if_ne (tgt := 382) hx hb dL_isShot_375 (by decide) (fun _ => ?_) (fun h => absurd h ((e3 (nlt_ge c274_25)).2.resolve_left (fun q => nlt_ge c351_27 (by rw [e0]; exact q.1))).2.1)
            refine lv_iconst (v := 0) hx hb dL_isShot_382 (by decide) ?_
            refine lv_icmp_ne (tgt := 420) hx hb dL_isShot_383 (by decide) (fun h => absurd h (by decide)) (fun _ => ?_)
            refine lv_iload hx hb dL_isShot_386 (lv_at hl 4 rfl) ?_
            refine lv_if_ge (tgt := 406) hx hb dL_isShot_388 (by decide) (fun _ => ?_) (fun h => absurd c351_27 h)
            refine lv_aload_n hx hb dL_isShot_406 rfl (lv_at hl 10 rfl) ?_
            refine lv_iconst (v := 2) hx hb dL_isShot_407 (by decide) ?_
            refine r_ci w (r_runV (As := [.int 2]) (rest := []) X w (q_count l E A (ob_shoot (wo (ob_speedLeft (ob_would S bl d sg sn 3) bl d sg sn) bl d sg sn 6) (1 - (an_count S 2)) bl d sg sn) 2 ) ck_L_15 ⟨Nat.le_of_ble_eq_true rfl, Nat.le_of_ble_eq_true rfl⟩ isA (hcR_2 (E := E)) nd_A (k0 := 0) CL6 rfl hl.1 (Nat.le_of_ble_eq_true rfl) rfl dL_isShot_408 ⟨Nat.le_of_ble_eq_true rfl, Nat.le_of_ble_eq_true rfl⟩) (wOb E A (ob_shoot (wo (ob_speedLeft (ob_would S bl d sg sn 3) bl d sg sn) bl d sg sn 6) (1 - (an_count S 2)) bl d sg sn) ++ wOb E B (ob_shoot (wo (ob_speedLeft T bl (fL_way d) sg sn) bl (fL_way d) sg sn 6) (1 - (an_count S 2)) bl (fL_way d) sg sn)) isA (hcR_2 (E := E)) nd_A (haR_2 (E := E)) (hwR_2 (E := E)) (fun H locs w => ?_)
            refine lv_iload hx hb dL_isShot_411 (lv_at hl 5 rfl) ?_
            refine lv_icmp_ne (tgt := 420) hx hb dL_isShot_413 (by decide) (fun h => absurd (by rw [ct_2 hB9.2.1.1, ct_2 hI.2.1.1]; exact ((e3 (nlt_ge c274_25)).2.resolve_left (fun q => nlt_ge c351_27 (by rw [e0]; exact q.1))).2.2.2) h) (fun _ => ?_)
            refine lv_iconst (v := 1) hx hb dL_isShot_416 (by decide) ?_
            refine lv_goto (tgt := 421) hx hb dL_isShot_417 (by decide) ?_
            exact r_eret X w hr (Or.inr rfl) ⟨rfl, _, _, _, hB9, rfl⟩ (haR_4 (E := E)) dL_isShot_421
          · refine lv_iconst (v := 0) hx hb dL_isShot_354 (by decide) ?_
            refine lv_goto (tgt := 359) hx hb dL_isShot_355 (by decide) ?_
            refine lv_isub hx hb dL_isShot_359 ?_
            refine lv_icmp_ne (tgt := 420) hx hb dL_isShot_360 (by decide) (fun h => absurd (by rw [ct_0 hB9.2.1.1, ct_0 b1.1, ((e3 (nlt_ge c274_25)).2.resolve_right (fun q => q.1 (by rw [← e0]; exact lt_nge c351_27))).2.2.1]; exact (Int32.sub_zero _).symm) h) (fun _ => ?_)
            refine lv_iload hx hb dL_isShot_363 (lv_at hl 4 rfl) ?_
            refine lv_if_ge (tgt := 372) hx hb dL_isShot_365 (by decide) (fun h => absurd h c351_27) (fun _ => ?_)
            refine lv_iconst (v := 1) hx hb dL_isShot_368 (by decide) ?_
            refine lv_goto (tgt := 373) hx hb dL_isShot_369 (by decide) ?_
            refine lv_iload hx hb dL_isShot_373 (lv_at hl 1 rfl) ?_
            refine lv_if_ne (tgt := 382) hx hb dL_isShot_375 (by decide) (fun h => absurd ((e3 (nlt_ge c274_25)).2.resolve_right (fun q => q.1 (by rw [← e0]; exact lt_nge c351_27))).2.1 h) (fun _ => ?_)
            refine lv_iconst (v := 1) hx hb dL_isShot_378 (by decide) ?_
            refine lv_goto (tgt := 383) hx hb dL_isShot_379 (by decide) ?_
            refine lv_icmp_ne (tgt := 420) hx hb dL_isShot_383 (by decide) (fun h => absurd h (by decide)) (fun _ => ?_)
            refine lv_iload hx hb dL_isShot_386 (lv_at hl 4 rfl) ?_
            refine lv_if_ge (tgt := 406) hx hb dL_isShot_388 (by decide) (fun h => absurd h c351_27) (fun _ => ?_)
            refine lv_aload_n hx hb dL_isShot_391 rfl (lv_at hl 10 rfl) ?_
            refine lv_iconst (v := 2) hx hb dL_isShot_392 (by decide) ?_
            refine r_ci w (r_runV (As := [.int 2]) (rest := []) X w (q_count l E A (ob_shoot (wo (ob_speedLeft (ob_would S bl d sg sn 3) bl d sg sn) bl d sg sn 6) (1 - (an_count S 2)) bl d sg sn) 2 ) ck_L_15 ⟨Nat.le_of_ble_eq_true rfl, Nat.le_of_ble_eq_true rfl⟩ isA (hcR_2 (E := E)) nd_A (k0 := 0) CL6 rfl hl.1 (Nat.le_of_ble_eq_true rfl) rfl dL_isShot_393 ⟨Nat.le_of_ble_eq_true rfl, Nat.le_of_ble_eq_true rfl⟩) (wOb E A (ob_shoot (wo (ob_speedLeft (ob_would S bl d sg sn 3) bl d sg sn) bl d sg sn 6) (1 - (an_count S 2)) bl d sg sn) ++ wOb E B (ob_shoot (wo (ob_speedLeft T bl (fL_way d) sg sn) bl (fL_way d) sg sn 6) (1 - (an_count S 2)) bl (fL_way d) sg sn)) isA (hcR_2 (E := E)) nd_A (haR_2 (E := E)) (hwR_2 (E := E)) (fun H locs w => ?_)
            refine lv_iconst (v := 1) hx hb dL_isShot_396 (by decide) ?_
            refine lv_iload hx hb dL_isShot_397 (lv_at hl 5 rfl) ?_
            refine lv_isub hx hb dL_isShot_399 ?_
            refine lv_icmp_ne (tgt := 420) hx hb dL_isShot_400 (by decide) (fun h => absurd (by rw [ct_2 hB9.2.1.1, ct_2 hI.2.1.1]; exact ((e3 (nlt_ge c274_25)).2.resolve_right (fun q => q.1 (by rw [← e0]; exact lt_nge c351_27))).2.2.2) h) (fun _ => ?_)
            refine lv_goto (tgt := 416) hx hb dL_isShot_403 (by decide) ?_
            refine lv_iconst (v := 1) hx hb dL_isShot_416 (by decide) ?_
            refine lv_goto (tgt := 421) hx hb dL_isShot_417 (by decide) ?_
            exact r_eret X w hr (Or.inr rfl) ⟨rfl, _, _, _, hB9, rfl⟩ (haR_4 (E := E)) dL_isShot_421
        · refine lv_iload hx hb dL_isShot_277 (lv_at hl 0 rfl) ?_
          refine lv_if_eq (tgt := 316) hx hb dL_isShot_279 (by decide) (fun h => absurd h (by decide)) (fun _ => ?_)
          refine lv_iload hx hb dL_isShot_282 (lv_at hl 1 rfl) ?_
          refine lv_iconst (v := (-1)) hx hb dL_isShot_284 (by decide) ?_
          refine lv_icmp_ne (tgt := 298) hx hb dL_isShot_285 (by decide) (fun c285_34 => ?_) (fun c285_34 => ?_)
          · refine lv_iload hx hb dL_isShot_298 (lv_at hl 1 rfl) ?_
            refine lv_bipush (v := (-4)) hx hb dL_isShot_300 (by decide) ?_
            refine lv_icmp_ne (tgt := 316) hx hb dL_isShot_302 (by decide) (fun h => absurd ((e2 (lt_nge c274_25)).2 c285_34).1 h) (fun _ => ?_)
            refine lv_iload hx hb dL_isShot_305 (lv_at hl 6 rfl) ?_
            refine lv_iload hx hb dL_isShot_307 (lv_at hl 5 rfl) ?_
            refine lv_icmp_eq (tgt := 316) hx hb dL_isShot_309 (by decide) (fun h => absurd h (fun q => ((e2 (lt_nge c274_25)).2 c285_34).2 (q.trans (ct_2 hI.2.1.1)))) (fun _ => ?_)
            refine lv_iconst (v := 1) hx hb dL_isShot_312 (by decide) ?_
            refine lv_goto (tgt := 317) hx hb dL_isShot_313 (by decide) ?_
            exact r_eret X w hr (Or.inr rfl) ⟨rfl, _, _, _, hB9, rfl⟩ (haR_4 (E := E)) dL_isShot_317
          · refine lv_iload hx hb dL_isShot_288 (lv_at hl 4 rfl) ?_
            refine lv_iload hx hb dL_isShot_290 (lv_at hl 1 rfl) ?_
            refine lv_icmp_ne (tgt := 316) hx hb dL_isShot_292 (by decide) (fun h => absurd (e0.trans ((e2 (lt_nge c274_25)).1 c285_34)) h) (fun _ => ?_)
            refine lv_goto (tgt := 312) hx hb dL_isShot_295 (by decide) ?_
            refine lv_iconst (v := 1) hx hb dL_isShot_312 (by decide) ?_
            refine lv_goto (tgt := 317) hx hb dL_isShot_313 (by decide) ?_
            exact r_eret X w hr (Or.inr rfl) ⟨rfl, _, _, _, hB9, rfl⟩ (haR_4 (E := E)) dL_isShot_317
      | succ n ih =>
        intro k hk_k H locs w ls hl
        have hkN : k < 6 := by omega
        refine lv_iload hx hb dL_isShot_140 (lv_at hl 0 rfl) ?_
        refine lv_bipush (v := 6) hx hb dL_isShot_142 (by decide) ?_
        refine lv_icmp_ge (tgt := 224) hx hb dL_isShot_144 (by decide) (fun h => absurd h (nI_ge (b := 6) hkN (by decide))) (fun _ => ?_)
        refine lv_aload_n hx hb dL_isShot_147 rfl (lv_at hl 10 rfl) ?_
        refine lv_iload_n hx hb dL_isShot_148 rfl (lv_at hl 12 rfl) ?_
        refine lv_iload hx hb dL_isShot_149 (lv_at hl 9 rfl) ?_
        refine lv_iload hx hb dL_isShot_151 (lv_at hl 8 rfl) ?_
        refine lv_iload hx hb dL_isShot_153 (lv_at hl 7 rfl) ?_
        refine lv_iload hx hb dL_isShot_155 (lv_at hl 0 rfl) ?_
        refine r_ci w (r_runV (As := [.int bl, .int d, .int sg, .int sn, .int (nI k)]) (rest := []) X w (q_would l E A (wo (ob_speedLeft (ob_would S bl d sg sn 3) bl d sg sn) bl d sg sn k) bl d sg sn (nI k) (SB_gs hB2.1 (wo_BI (b := bl) hB2 hM hd hf k (by omega)).2.1)) ck_L_70 ⟨Nat.le_of_ble_eq_true rfl, Nat.le_of_ble_eq_true rfl⟩ isA (hcR_2 (E := E)) nd_A (k0 := 0) CL6 rfl hl.1 (Nat.le_of_ble_eq_true rfl) rfl dL_isShot_157 ⟨Nat.le_of_ble_eq_true rfl, Nat.le_of_ble_eq_true rfl⟩) (wOb E A (ob_would (wo (ob_speedLeft (ob_would S bl d sg sn 3) bl d sg sn) bl d sg sn k) bl d sg sn (nI k)) ++ wOb E B (wo (ob_speedLeft T bl (fL_way d) sg sn) bl (fL_way d) sg sn k)) isA (hcR_2 (E := E)) nd_A (haR_2 (E := E)) (hwR_2 (E := E)) (fun H locs w => ?_)
        refine lv_istore (lv' := [(15, .int (an_would (wo (ob_speedLeft (ob_would S bl d sg sn 3) bl d sg sn) bl d sg sn k) bl d sg sn (nI k))), (14, .int (nI k)), (13, .int 1), (12, .int (an_count (ob_would S bl d sg sn 3) 0)), (11, .int ((an_count (ob_would S bl d sg sn 3) 3) + (an_count (ob_would S bl d sg sn 3) 4))), (10, .int (an_would S bl d sg sn 3)), (9, .int (an_count S 2)), (8, .int (1 - (an_count S 2))), (7, .int sn), (6, .int sg), (5, .int d), (0, .ref (adH A)), (1, .ref (adH B)), (2, .int bl), (3, .int vx), (4, .int vy)]) hx hb dL_isShot_160 hl (by decide) rfl (fun ls hl => ?_)
        refine lv_aload_n hx hb dL_isShot_162 rfl (lv_at hl 12 rfl) ?_
        refine lv_iload_n hx hb dL_isShot_163 rfl (lv_at hl 13 rfl) ?_
        refine lv_iload hx hb dL_isShot_164 (lv_at hl 10 rfl) ?_
        refine r_ci w (r_runS (As := [.int d]) (rest := [.int bl, .ref (adH B)]) X w (kL_way l E d ) ck_L_78 ⟨Nat.le_of_ble_eq_true rfl, Nat.le_of_ble_eq_true rfl⟩ [] rfl (by decide +kernel) hl.1 (Nat.le_of_ble_eq_true rfl) rfl dL_isShot_166 ⟨Nat.le_of_ble_eq_true rfl, Nat.le_of_ble_eq_true rfl⟩) (wOb E A (ob_would (wo (ob_speedLeft (ob_would S bl d sg sn 3) bl d sg sn) bl d sg sn k) bl d sg sn (nI k)) ++ wOb E B (wo (ob_speedLeft T bl (fL_way d) sg sn) bl (fL_way d) sg sn k)) [] rfl (by decide +kernel) rfl rfl (fun H locs w => ?_)
        refine lv_iload hx hb dL_isShot_169 (lv_at hl 9 rfl) ?_
        refine lv_iload hx hb dL_isShot_171 (lv_at hl 8 rfl) ?_
        refine lv_iload hx hb dL_isShot_173 (lv_at hl 1 rfl) ?_
        refine r_ci w (r_runV (As := [.int bl, .int (fL_way d), .int sg, .int sn, .int (nI k)]) (rest := []) X w (q_would l E B (wo (ob_speedLeft T bl (fL_way d) sg sn) bl (fL_way d) sg sn k) bl (fL_way d) sg sn (nI k) (SB_gs2 hB2.1 (wo_BI (b := bl) hB2 hM hd hf k (by omega)).2.2)) ck_L_70 ⟨Nat.le_of_ble_eq_true rfl, Nat.le_of_ble_eq_true rfl⟩ isB (hcR_3 (E := E)) nd_B (k0 := 0) CL6 rfl hl.1 (Nat.le_of_ble_eq_true rfl) rfl dL_isShot_175 ⟨Nat.le_of_ble_eq_true rfl, Nat.le_of_ble_eq_true rfl⟩) (wOb E A (ob_would (wo (ob_speedLeft (ob_would S bl d sg sn 3) bl d sg sn) bl d sg sn k) bl d sg sn (nI k)) ++ wOb E B (ob_would (wo (ob_speedLeft T bl (fL_way d) sg sn) bl (fL_way d) sg sn k) bl (fL_way d) sg sn (nI k))) isB (hcR_3 (E := E)) nd_B (haR_3 (E := E)) (hwR_3 (E := E)) (fun H locs w => ?_)
        refine lv_istore (lv' := [(16, .int (an_would (wo (ob_speedLeft T bl (fL_way d) sg sn) bl (fL_way d) sg sn k) bl (fL_way d) sg sn (nI k))), (15, .int (an_would (wo (ob_speedLeft (ob_would S bl d sg sn 3) bl d sg sn) bl d sg sn k) bl d sg sn (nI k))), (14, .int (nI k)), (13, .int 1), (12, .int (an_count (ob_would S bl d sg sn 3) 0)), (11, .int ((an_count (ob_would S bl d sg sn 3) 3) + (an_count (ob_would S bl d sg sn 3) 4))), (10, .int (an_would S bl d sg sn 3)), (9, .int (an_count S 2)), (8, .int (1 - (an_count S 2))), (7, .int sn), (6, .int sg), (5, .int d), (0, .ref (adH A)), (1, .ref (adH B)), (2, .int bl), (3, .int vx), (4, .int vy)]) hx hb dL_isShot_178 hl (by decide) rfl (fun ls hl => ?_)
        refine lv_iload hx hb dL_isShot_180 (lv_at hl 3 rfl) ?_
        refine lv_if_eq (tgt := 215) hx hb dL_isShot_182 (by decide) (fun h => absurd h (by decide)) (fun _ => ?_)
        refine lv_iload hx hb dL_isShot_185 (lv_at hl 2 rfl) ?_
        refine lv_iconst (v := 4) hx hb dL_isShot_187 (by decide) ?_
        refine lv_icmp_ne (tgt := 204) hx hb dL_isShot_188 (by decide) (fun c188_39 => ?_) (fun c188_39 => ?_)
        · refine lv_iload hx hb dL_isShot_204 (lv_at hl 1 rfl) ?_
          refine lv_iload hx hb dL_isShot_206 (lv_at hl 0 rfl) ?_
          refine lv_icmp_ne (tgt := 215) hx hb dL_isShot_208 (by decide) (fun h => absurd (wo_n (wo_BI (b := bl) hB2 hM hd hf k (by omega)) hM hd hf (vp_in_nI (by omega) (by decide)) c188_39) h) (fun _ => ?_)
          refine lv_iconst (v := 1) hx hb dL_isShot_211 (by decide) ?_
          refine lv_goto (tgt := 216) hx hb dL_isShot_212 (by decide) ?_
          refine lv_istore (lv' := [(13, .int 1), (16, .int (an_would (wo (ob_speedLeft T bl (fL_way d) sg sn) bl (fL_way d) sg sn k) bl (fL_way d) sg sn (nI k))), (15, .int (an_would (wo (ob_speedLeft (ob_would S bl d sg sn 3) bl d sg sn) bl d sg sn k) bl d sg sn (nI k))), (14, .int (nI k)), (12, .int (an_count (ob_would S bl d sg sn 3) 0)), (11, .int ((an_count (ob_would S bl d sg sn 3) 3) + (an_count (ob_would S bl d sg sn 3) 4))), (10, .int (an_would S bl d sg sn 3)), (9, .int (an_count S 2)), (8, .int (1 - (an_count S 2))), (7, .int sn), (6, .int sg), (5, .int d), (0, .ref (adH A)), (1, .ref (adH B)), (2, .int bl), (3, .int vx), (4, .int vy)]) hx hb dL_isShot_216 hl (by decide) rfl (fun ls hl => ?_)
          refine lv_iinc (v := (nI k) + 1) (lv' := [(14, .int ((nI k) + 1)), (13, .int 1), (16, .int (an_would (wo (ob_speedLeft T bl (fL_way d) sg sn) bl (fL_way d) sg sn k) bl (fL_way d) sg sn (nI k))), (15, .int (an_would (wo (ob_speedLeft (ob_would S bl d sg sn 3) bl d sg sn) bl d sg sn k) bl d sg sn (nI k))), (12, .int (an_count (ob_would S bl d sg sn 3) 0)), (11, .int ((an_count (ob_would S bl d sg sn 3) 3) + (an_count (ob_would S bl d sg sn 3) 4))), (10, .int (an_would S bl d sg sn 3)), (9, .int (an_count S 2)), (8, .int (1 - (an_count S 2))), (7, .int sn), (6, .int sg), (5, .int d), (0, .ref (adH A)), (1, .ref (adH B)), (2, .int bl), (3, .int vx), (4, .int vy)]) hx hb dL_isShot_218 hl (k := 3) rfl (by first | rfl | decide) (by decide) rfl (fun ls hl => ?_)
          refine lv_goto (tgt := 140) hx hb dL_isShot_221 (by decide) ?_
          have e0 : nI k + 1 = nI (k + 1) := nI_1 k
          rw [e0] at hl
          exact ih (k + 1) (by omega) _ _ w ls (lv_sub hl [0, 1, 4, 5, 6, 7, 8, 9, 10, 11, 12, 13, 14, 15, 16] rfl)
        · refine lv_iload hx hb dL_isShot_191 (lv_at hl 1 rfl) ?_
          refine r_ci w (r_runS (As := [.int (an_would (wo (ob_speedLeft (ob_would S bl d sg sn 3) bl d sg sn) bl d sg sn k) bl d sg sn (nI k))]) (rest := []) X w (kL_there l E (an_would (wo (ob_speedLeft (ob_would S bl d sg sn 3) bl d sg sn) bl d sg sn k) bl d sg sn (nI k)) ) ck_L_31 ⟨Nat.le_of_ble_eq_true rfl, Nat.le_of_ble_eq_true rfl⟩ [] rfl (by decide +kernel) hl.1 (Nat.le_of_ble_eq_true rfl) rfl dL_isShot_193 ⟨Nat.le_of_ble_eq_true rfl, Nat.le_of_ble_eq_true rfl⟩) (wOb E A (ob_would (wo (ob_speedLeft (ob_would S bl d sg sn 3) bl d sg sn) bl d sg sn k) bl d sg sn (nI k)) ++ wOb E B (ob_would (wo (ob_speedLeft T bl (fL_way d) sg sn) bl (fL_way d) sg sn k) bl (fL_way d) sg sn (nI k))) [] rfl (by decide +kernel) rfl rfl (fun H locs w => ?_)
          refine lv_iload hx hb dL_isShot_196 (lv_at hl 0 rfl) ?_
          refine lv_icmp_ne (tgt := 215) hx hb dL_isShot_198 (by decide) (fun h => absurd (wo_4 (wo_BI (b := bl) hB2 hM hd hf k (by omega)) hM hd hf (vp_in_nI (by omega) (by decide)) c188_39) h) (fun _ => ?_)
          refine lv_goto (tgt := 211) hx hb dL_isShot_201 (by decide) ?_
          refine lv_iconst (v := 1) hx hb dL_isShot_211 (by decide) ?_
          refine lv_goto (tgt := 216) hx hb dL_isShot_212 (by decide) ?_
          refine lv_istore (lv' := [(13, .int 1), (16, .int (an_would (wo (ob_speedLeft T bl (fL_way d) sg sn) bl (fL_way d) sg sn k) bl (fL_way d) sg sn (nI k))), (15, .int (an_would (wo (ob_speedLeft (ob_would S bl d sg sn 3) bl d sg sn) bl d sg sn k) bl d sg sn (nI k))), (14, .int (nI k)), (12, .int (an_count (ob_would S bl d sg sn 3) 0)), (11, .int ((an_count (ob_would S bl d sg sn 3) 3) + (an_count (ob_would S bl d sg sn 3) 4))), (10, .int (an_would S bl d sg sn 3)), (9, .int (an_count S 2)), (8, .int (1 - (an_count S 2))), (7, .int sn), (6, .int sg), (5, .int d), (0, .ref (adH A)), (1, .ref (adH B)), (2, .int bl), (3, .int vx), (4, .int vy)]) hx hb dL_isShot_216 hl (by decide) rfl (fun ls hl => ?_)
          refine lv_iinc (v := (nI k) + 1) (lv' := [(14, .int ((nI k) + 1)), (13, .int 1), (16, .int (an_would (wo (ob_speedLeft T bl (fL_way d) sg sn) bl (fL_way d) sg sn k) bl (fL_way d) sg sn (nI k))), (15, .int (an_would (wo (ob_speedLeft (ob_would S bl d sg sn 3) bl d sg sn) bl d sg sn k) bl d sg sn (nI k))), (12, .int (an_count (ob_would S bl d sg sn 3) 0)), (11, .int ((an_count (ob_would S bl d sg sn 3) 3) + (an_count (ob_would S bl d sg sn 3) 4))), (10, .int (an_would S bl d sg sn 3)), (9, .int (an_count S 2)), (8, .int (1 - (an_count S 2))), (7, .int sn), (6, .int sg), (5, .int d), (0, .ref (adH A)), (1, .ref (adH B)), (2, .int bl), (3, .int vx), (4, .int vy)]) hx hb dL_isShot_218 hl (k := 3) rfl (by first | rfl | decide) (by decide) rfl (fun ls hl => ?_)
          refine lv_goto (tgt := 140) hx hb dL_isShot_221 (by decide) ?_
          have e0 : nI k + 1 = nI (k + 1) := nI_1 k
          rw [e0] at hl
          exact ih (k + 1) (by omega) _ _ w ls (lv_sub hl [0, 1, 4, 5, 6, 7, 8, 9, 10, 11, 12, 13, 14, 15, 16] rfl)
    exact loop 6 0 (by omega) _ _ w ls (lv_sub hl [0, 1, 2, 3, 4, 5, 6, 7, 8, 9, 10, 11, 12, 13, 14] rfl)
