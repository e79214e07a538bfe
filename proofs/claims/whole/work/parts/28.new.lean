/-! the reference's constructor (printed by wip/whole/gen/p28.py) -/
def rI (k : Nat) : Int32 := Int32.ofNat k - 4
theorem rI_1 (k : Nat) : rI k + 1 = rI (k + 1) := by
  unfold rI
  rw [show Int32.ofNat (k + 1) = Int32.ofNat k + 1 from (nI_1 k).symm, Int32.sub_eq_add_neg, Int32.sub_eq_add_neg, Int32.add_assoc, Int32.add_assoc, Int32.add_comm (-4) 1]
/-- how many of the first k places are cells -/
def cN (k : Nat) : Nat := ([0, 0, 0, 0, 0, 1, 2, 3, 4, 5, 5, 5, 5, 6, 7, 8, 9, 10, 11, 11, 11, 12, 13, 14, 15, 16, 17, 18, 18, 19, 20, 21, 22, 23, 24, 25, 26, 27, 28, 29, 30, 31, 32, 33, 34, 35, 36, 37, 38, 39, 40, 41, 42, 43, 43, 44, 45, 46, 47, 48, 49, 50, 50, 50, 51, 52, 53, 54, 55, 56, 56, 56, 56, 57, 58, 59, 60, 61, 61, 61, 61, 61] : List Nat).getD k 0
/-- the tables after k places -/
def mI (k : Nat) : N2 := fun i j => if i = 7 then (if j < k then tAt j else 0) else if i = 5 then (if j < cN k then tQ j else 0) else if i = 6 then (if j < cN k then tR j else 0) else 0
/-- the first row, k balls away -/
def mF (k : Nat) : N2 := fun i j => if i = 0 then (if j = 0 then 90 else if j = 1 then 80 else if j = 2 then 70 else if j = 3 then 63 else if 13 ≤ j ∧ j < 13 + k then (-5) else 0) else mI 81 i j
def isC (i j : Nat) : Int32 := fX7_in ((rI j) + (rI i)).toInt64 (-4) 4
theorem fin_A : ∀ i : Fin 9, ∀ j : Fin 9, (((9 * ((rI i.val) + 4)) + (rI j.val)) + 4).toNatClampNeg = 9 * i.val + j.val ∧ ¬ ((((9 * ((rI i.val) + 4)) + (rI j.val)) + 4) < 0) := by decide +kernel
theorem fin_B : ∀ i : Fin 9, ∀ j : Fin 9, if isC i.val j.val = 0 then tAt (9 * i.val + j.val) = (-5) ∧ cN (9 * i.val + j.val + 1) = cN (9 * i.val + j.val) else tAt (9 * i.val + j.val) = nI (cN (9 * i.val + j.val)) ∧ cN (9 * i.val + j.val + 1) = cN (9 * i.val + j.val) + 1 ∧ tQ (cN (9 * i.val + j.val)) = rI j.val ∧ tR (cN (9 * i.val + j.val)) = rI i.val ∧ cN (9 * i.val + j.val) < 61 := by decide +kernel
theorem ix_A {i j : Nat} (hi : i < 9) (hj : j < 9) : (((9 * ((rI i) + 4)) + (rI j)) + 4).toNatClampNeg = 9 * i + j ∧ vp_in (((9 * ((rI i) + 4)) + (rI j)) + 4) 81 := by
  have h := fin_A ⟨i, hi⟩ ⟨j, hj⟩
  refine ⟨h.1, fun q => ?_⟩
  rcases q with q | q
  · exact h.2 q
  · have h1 : 81 ≤ (((9 * ((rI i) + 4)) + (rI j)) + 4).toNatClampNeg := q
    rw [h.1] at h1
    have : 81 ≤ 9 * i + j := h1
    omega
theorem cl_C {i j : Nat} (hi : i < 9) (hj : j < 9) (h : ¬ fX7_in ((rI j) + (rI i)).toInt64 (-4) 4 = 0) : tAt (9 * i + j) = nI (cN (9 * i + j)) ∧ cN (9 * i + j + 1) = cN (9 * i + j) + 1 ∧ tQ (cN (9 * i + j)) = rI j ∧ tR (cN (9 * i + j)) = rI i ∧ cN (9 * i + j) < 61 := by
  have h2 := fin_B ⟨i, hi⟩ ⟨j, hj⟩
  rw [if_neg (show ¬ isC i j = 0 from h)] at h2
  exact h2
theorem cl_N {i j : Nat} (hi : i < 9) (hj : j < 9) (h : fX7_in ((rI j) + (rI i)).toInt64 (-4) 4 = 0) : tAt (9 * i + j) = (-5) ∧ cN (9 * i + j + 1) = cN (9 * i + j) := by
  have h2 := fin_B ⟨i, hi⟩ ⟨j, hj⟩
  rw [if_pos (show isC i j = 0 from h)] at h2
  exact h2
theorem u2_get {μ : N2} {a b i j : Nat} {v : Int32} : u2 μ a b v i j = if i = a ∧ j = b then v else μ i j := by
  by_cases h : i = a
  · subst h
    rw [u2_at]
    by_cases h2 : j = b
    · rw [if_pos h2, if_pos ⟨rfl, h2⟩]
    · rw [if_neg h2, if_neg (fun q => h2 q.2)]
  · rw [u2_row h, if_neg (fun q => h q.1)]
theorem mI_N {i j : Nat} (hi : i < 9) (hj : j < 9) (h : fX7_in ((rI j) + (rI i)).toInt64 (-4) 4 = 0) : u2 (mI (9 * i + j)) 7 (((9 * ((rI i) + 4)) + (rI j)) + 4).toNatClampNeg (-5) = mI (9 * i + (j + 1)) := by
  obtain ⟨h1, h2⟩ := cl_N hi hj h
  rw [(ix_A hi hj).1, show 9 * i + (j + 1) = 9 * i + j + 1 from rfl]
  generalize 9 * i + j = k at h1 h2 ⊢
  funext a b
  rw [u2_get]
  unfold mI
  rw [h2]
  by_cases ha : a = 7
  · subst ha
    by_cases hb : b = k
    · subst hb
      simp [h1]
    · simp [hb]
      by_cases hl : b < k
      · rw [if_pos hl, if_pos (by omega)]
      · rw [if_neg hl, if_neg (by omega)]
  · simp [ha]
theorem mI_C {i j : Nat} (hi : i < 9) (hj : j < 9) (h : ¬ fX7_in ((rI j) + (rI i)).toInt64 (-4) 4 = 0) : u2 (u2 (u2 (mI (9 * i + j)) 7 (((9 * ((rI i) + 4)) + (rI j)) + 4).toNatClampNeg (nI (cN (9 * i + j)))) 5 (nI (cN (9 * i + j))).toNatClampNeg (rI j)) 6 (nI (cN (9 * i + j))).toNatClampNeg (rI i) = mI (9 * i + (j + 1)) := by
  obtain ⟨h1, h2, h3, h4, h5⟩ := cl_C hi hj h
  rw [(ix_A hi hj).1, show 9 * i + (j + 1) = 9 * i + j + 1 from rfl]
  generalize 9 * i + j = k at h1 h2 h3 h4 h5 ⊢
  rw [nI_clamp (show cN k < 2 ^ 31 by omega)]
  funext a b
  rw [u2_get, u2_get, u2_get]
  unfold mI
  rw [h2]
  by_cases h6 : a = 6
  · subst h6
    by_cases hb : b = cN k
    · subst hb
      simp [h4]
    · simp [hb]
      by_cases hl : b < cN k
      · rw [if_pos hl, if_pos (by omega)]
      · rw [if_neg hl, if_neg (by omega)]
  · by_cases h7 : a = 5
    · subst h7
      by_cases hb : b = cN k
      · subst hb
        simp [h3]
      · simp [hb]
        by_cases hl : b < cN k
        · rw [if_pos hl, if_pos (by omega)]
        · rw [if_neg hl, if_neg (by omega)]
    · by_cases ha : a = 7
      · subst ha
        by_cases hb : b = k
        · subst hb
          simp [h1]
        · simp [hb]
          by_cases hl : b < k
          · rw [if_pos hl, if_pos (by omega)]
          · rw [if_neg hl, if_neg (by omega)]
      · simp [ha, h6, h7]
theorem mI_0 : mI 0 = tgI := by
  have h0 : cN 0 = 0 := rfl
  funext a b
  unfold mI tgI
  rw [h0]
  simp
theorem mF_0 : u2 (u2 (u2 (u2 (mI 81) 0 (0 : Int32).toNatClampNeg 90) 0 (1 : Int32).toNatClampNeg 80) 0 (2 : Int32).toNatClampNeg 70) 0 (3 : Int32).toNatClampNeg 63 = mF 0 := by
  have e0 : (0 : Int32).toNatClampNeg = 0 := rfl
  have e1 : (1 : Int32).toNatClampNeg = 1 := rfl
  have e2 : (2 : Int32).toNatClampNeg = 2 := rfl
  have e3 : (3 : Int32).toNatClampNeg = 3 := rfl
  rw [e0, e1, e2, e3]
  funext a b
  rw [u2_get, u2_get, u2_get, u2_get]
  unfold mF
  by_cases ha : a = 0
  · subst ha
    by_cases h3 : b = 3
    · subst h3; simp
    · by_cases h2 : b = 2
      · subst h2; simp
      · by_cases h1 : b = 1
        · subst h1; simp
        · by_cases h0 : b = 0
          · subst h0; simp
          · simp [h0, h1, h2, h3]
            unfold mI
            simp
  · simp [ha]
theorem mF_1 {k : Nat} (hk : k < 12) : u2 (mF k) 0 (13 + nI k).toNatClampNeg (-5) = mF (k + 1) := by
  have e : (13 + nI k).toNatClampNeg = 13 + k := (row_ix ⟨k, hk⟩).1
  rw [e]
  funext a b
  rw [u2_get]
  unfold mF
  by_cases ha : a = 0
  · subst ha
    by_cases hb : b = 13 + k
    · subst hb
      simp [show ¬ 13 + k = 0 by omega, show ¬ 13 + k = 1 by omega, show ¬ 13 + k = 2 by omega, show ¬ 13 + k = 3 by omega]
    · simp [hb]
      have e2 : (13 ≤ b ∧ b < 13 + (k + 1)) ↔ (13 ≤ b ∧ b < 13 + k) := by omega
      simp [e2]
  · simp [ha]
theorem mF_tab : gTab (mF 12) := by
  have h81 : cN 81 = 61 := rfl
  refine ⟨fun c hc => ?_, fun c hc => ?_, fun i hi => ?_⟩
  · unfold mF mI
    simp [h81, hc]
  · unfold mF mI
    simp [h81, hc]
  · unfold mF mI
    simp [hi]
theorem rI_le {i : Nat} (hi : i < 9) : ¬ 4 < rI i := by
  have h : ∀ i : Fin 9, ¬ 4 < rI i.val := by decide +kernel
  exact h ⟨i, hi⟩
theorem cN_in {i j : Nat} (hi : i < 9) (hj : j < 9) (h : ¬ fX7_in ((rI j) + (rI i)).toInt64 (-4) 4 = 0) : vp_in (nI (cN (9 * i + j))) 61 := vp_in_nI (cl_C hi hj h).2.2.2.2 (by decide)
theorem row_v {k : Nat} (hk : k < 12) : vp_in (13 + nI k) 73 := by
  have h : ∀ k : Fin 12, ¬ ((13 + nI k.val) < 0 ∨ 73 ≤ (13 + nI k.val).toNatClampNeg) := by decide +kernel
  exact h ⟨k, hk⟩
theorem dX7_init_0 : decode cX7_init 0 = .ok (.aload_n 0, 1) := by decide +kernel
theorem dX7_init_1 : decode cX7_init 1 = .ok (.invokespecial 1, 3) := by decide +kernel
theorem dX7_init_4 : decode cX7_init 4 = .ok (.aload_n 0, 1) := by decide +kernel
theorem dX7_init_5 : decode cX7_init 5 = .ok (.bipush 73, 2) := by decide +kernel
theorem dX7_init_7 : decode cX7_init 7 = .ok (.newarray .int, 2) := by decide +kernel
theorem dX7_init_9 : decode cX7_init 9 = .ok (.putfield 7, 3) := by decide +kernel
theorem dX7_init_12 : decode cX7_init 12 = .ok (.aload_n 0, 1) := by decide +kernel
theorem dX7_init_13 : decode cX7_init 13 = .ok (.bipush 73, 2) := by decide +kernel
theorem dX7_init_15 : decode cX7_init 15 = .ok (.newarray .int, 2) := by decide +kernel
theorem dX7_init_17 : decode cX7_init 17 = .ok (.putfield 13, 3) := by decide +kernel
theorem dX7_init_20 : decode cX7_init 20 = .ok (.aload_n 0, 1) := by decide +kernel
theorem dX7_init_21 : decode cX7_init 21 = .ok (.bipush 73, 2) := by decide +kernel
theorem dX7_init_23 : decode cX7_init 23 = .ok (.newarray .int, 2) := by decide +kernel
theorem dX7_init_25 : decode cX7_init 25 = .ok (.putfield 16, 3) := by decide +kernel
theorem dX7_init_28 : decode cX7_init 28 = .ok (.aload_n 0, 1) := by decide +kernel
theorem dX7_init_29 : decode cX7_init 29 = .ok (.sipush 292, 3) := by decide +kernel
theorem dX7_init_32 : decode cX7_init 32 = .ok (.newarray .int, 2) := by decide +kernel
theorem dX7_init_34 : decode cX7_init 34 = .ok (.putfield 19, 3) := by decide +kernel
theorem dX7_init_37 : decode cX7_init 37 = .ok (.aload_n 0, 1) := by decide +kernel
theorem dX7_init_38 : decode cX7_init 38 = .ok (.bipush 73, 2) := by decide +kernel
theorem dX7_init_40 : decode cX7_init 40 = .ok (.newarray .int, 2) := by decide +kernel
theorem dX7_init_42 : decode cX7_init 42 = .ok (.putfield 22, 3) := by decide +kernel
theorem dX7_init_45 : decode cX7_init 45 = .ok (.aload_n 0, 1) := by decide +kernel
theorem dX7_init_46 : decode cX7_init 46 = .ok (.bipush 61, 2) := by decide +kernel
theorem dX7_init_48 : decode cX7_init 48 = .ok (.newarray .int, 2) := by decide +kernel
theorem dX7_init_50 : decode cX7_init 50 = .ok (.putfield 25, 3) := by decide +kernel
theorem dX7_init_53 : decode cX7_init 53 = .ok (.aload_n 0, 1) := by decide +kernel
theorem dX7_init_54 : decode cX7_init 54 = .ok (.bipush 61, 2) := by decide +kernel
theorem dX7_init_56 : decode cX7_init 56 = .ok (.newarray .int, 2) := by decide +kernel
theorem dX7_init_58 : decode cX7_init 58 = .ok (.putfield 28, 3) := by decide +kernel
theorem dX7_init_61 : decode cX7_init 61 = .ok (.aload_n 0, 1) := by decide +kernel
theorem dX7_init_62 : decode cX7_init 62 = .ok (.bipush 81, 2) := by decide +kernel
theorem dX7_init_64 : decode cX7_init 64 = .ok (.newarray .int, 2) := by decide +kernel
theorem dX7_init_66 : decode cX7_init 66 = .ok (.putfield 31, 3) := by decide +kernel
theorem dX7_init_69 : decode cX7_init 69 = .ok (.aload_n 0, 1) := by decide +kernel
theorem dX7_init_70 : decode cX7_init 70 = .ok (.bipush 60, 2) := by decide +kernel
theorem dX7_init_72 : decode cX7_init 72 = .ok (.newarray .int, 2) := by decide +kernel
theorem dX7_init_74 : decode cX7_init 74 = .ok (.putfield 34, 3) := by decide +kernel
theorem dX7_init_77 : decode cX7_init 77 = .ok (.iconst 0, 1) := by decide +kernel
theorem dX7_init_78 : decode cX7_init 78 = .ok (.istore_n 1, 1) := by decide +kernel
theorem dX7_init_79 : decode cX7_init 79 = .ok (.bipush (-4), 2) := by decide +kernel
theorem dX7_init_81 : decode cX7_init 81 = .ok (.istore_n 2, 1) := by decide +kernel
theorem dX7_init_82 : decode cX7_init 82 = .ok (.iload_n 2, 1) := by decide +kernel
theorem dX7_init_83 : decode cX7_init 83 = .ok (.iconst 4, 1) := by decide +kernel
theorem dX7_init_84 : decode cX7_init 84 = .ok (.if_icmp .gt 86, 3) := by decide +kernel
theorem dX7_init_87 : decode cX7_init 87 = .ok (.bipush (-4), 2) := by decide +kernel
theorem dX7_init_89 : decode cX7_init 89 = .ok (.istore_n 3, 1) := by decide +kernel
theorem dX7_init_90 : decode cX7_init 90 = .ok (.iload_n 3, 1) := by decide +kernel
theorem dX7_init_91 : decode cX7_init 91 = .ok (.iconst 4, 1) := by decide +kernel
theorem dX7_init_92 : decode cX7_init 92 = .ok (.if_icmp .gt 72, 3) := by decide +kernel
theorem dX7_init_95 : decode cX7_init 95 = .ok (.iload_n 3, 1) := by decide +kernel
theorem dX7_init_96 : decode cX7_init 96 = .ok (.iload_n 2, 1) := by decide +kernel
theorem dX7_init_97 : decode cX7_init 97 = .ok (.iadd, 1) := by decide +kernel
theorem dX7_init_98 : decode cX7_init 98 = .ok (.i2l, 1) := by decide +kernel
theorem dX7_init_99 : decode cX7_init 99 = .ok (.ldc2_w 37, 3) := by decide +kernel
theorem dX7_init_102 : decode cX7_init 102 = .ok (.ldc2_w 39, 3) := by decide +kernel
theorem dX7_init_105 : decode cX7_init 105 = .ok (.invokestatic 41, 3) := by decide +kernel
theorem dX7_init_108 : decode cX7_init 108 = .ok (.istore 4, 2) := by decide +kernel
theorem dX7_init_110 : decode cX7_init 110 = .ok (.aload_n 0, 1) := by decide +kernel
theorem dX7_init_111 : decode cX7_init 111 = .ok (.getfield 31, 3) := by decide +kernel
theorem dX7_init_114 : decode cX7_init 114 = .ok (.bipush 9, 2) := by decide +kernel
theorem dX7_init_116 : decode cX7_init 116 = .ok (.iload_n 2, 1) := by decide +kernel
theorem dX7_init_117 : decode cX7_init 117 = .ok (.iconst 4, 1) := by decide +kernel
theorem dX7_init_118 : decode cX7_init 118 = .ok (.iadd, 1) := by decide +kernel
theorem dX7_init_119 : decode cX7_init 119 = .ok (.imul, 1) := by decide +kernel
theorem dX7_init_120 : decode cX7_init 120 = .ok (.iload_n 3, 1) := by decide +kernel
theorem dX7_init_121 : decode cX7_init 121 = .ok (.iadd, 1) := by decide +kernel
theorem dX7_init_122 : decode cX7_init 122 = .ok (.iconst 4, 1) := by decide +kernel
theorem dX7_init_123 : decode cX7_init 123 = .ok (.iadd, 1) := by decide +kernel
theorem dX7_init_124 : decode cX7_init 124 = .ok (.iload 4, 2) := by decide +kernel
theorem dX7_init_126 : decode cX7_init 126 = .ok (.ifCond .eq 7, 3) := by decide +kernel
theorem dX7_init_129 : decode cX7_init 129 = .ok (.iload_n 1, 1) := by decide +kernel
theorem dX7_init_130 : decode cX7_init 130 = .ok (.goto 5, 3) := by decide +kernel
theorem dX7_init_133 : decode cX7_init 133 = .ok (.bipush (-5), 2) := by decide +kernel
theorem dX7_init_135 : decode cX7_init 135 = .ok (.iastore, 1) := by decide +kernel
theorem dX7_init_136 : decode cX7_init 136 = .ok (.iload 4, 2) := by decide +kernel
theorem dX7_init_138 : decode cX7_init 138 = .ok (.ifCond .eq 20, 3) := by decide +kernel
theorem dX7_init_141 : decode cX7_init 141 = .ok (.aload_n 0, 1) := by decide +kernel
theorem dX7_init_142 : decode cX7_init 142 = .ok (.getfield 25, 3) := by decide +kernel
theorem dX7_init_145 : decode cX7_init 145 = .ok (.iload_n 1, 1) := by decide +kernel
theorem dX7_init_146 : decode cX7_init 146 = .ok (.iload_n 3, 1) := by decide +kernel
theorem dX7_init_147 : decode cX7_init 147 = .ok (.iastore, 1) := by decide +kernel
theorem dX7_init_148 : decode cX7_init 148 = .ok (.aload_n 0, 1) := by decide +kernel
theorem dX7_init_149 : decode cX7_init 149 = .ok (.getfield 28, 3) := by decide +kernel
theorem dX7_init_152 : decode cX7_init 152 = .ok (.iload_n 1, 1) := by decide +kernel
theorem dX7_init_153 : decode cX7_init 153 = .ok (.iload_n 2, 1) := by decide +kernel
theorem dX7_init_154 : decode cX7_init 154 = .ok (.iastore, 1) := by decide +kernel
theorem dX7_init_155 : decode cX7_init 155 = .ok (.iinc 1 1, 3) := by decide +kernel
theorem dX7_init_158 : decode cX7_init 158 = .ok (.iinc 3 1, 3) := by decide +kernel
theorem dX7_init_161 : decode cX7_init 161 = .ok (.goto (-71), 3) := by decide +kernel
theorem dX7_init_164 : decode cX7_init 164 = .ok (.iinc 2 1, 3) := by decide +kernel
theorem dX7_init_167 : decode cX7_init 167 = .ok (.goto (-85), 3) := by decide +kernel
theorem dX7_init_170 : decode cX7_init 170 = .ok (.aload_n 0, 1) := by decide +kernel
theorem dX7_init_171 : decode cX7_init 171 = .ok (.getfield 7, 3) := by decide +kernel
theorem dX7_init_174 : decode cX7_init 174 = .ok (.iconst 0, 1) := by decide +kernel
theorem dX7_init_175 : decode cX7_init 175 = .ok (.bipush 90, 2) := by decide +kernel
theorem dX7_init_177 : decode cX7_init 177 = .ok (.iastore, 1) := by decide +kernel
theorem dX7_init_178 : decode cX7_init 178 = .ok (.aload_n 0, 1) := by decide +kernel
theorem dX7_init_179 : decode cX7_init 179 = .ok (.getfield 7, 3) := by decide +kernel
theorem dX7_init_182 : decode cX7_init 182 = .ok (.iconst 1, 1) := by decide +kernel
theorem dX7_init_183 : decode cX7_init 183 = .ok (.bipush 80, 2) := by decide +kernel
theorem dX7_init_185 : decode cX7_init 185 = .ok (.iastore, 1) := by decide +kernel
theorem dX7_init_186 : decode cX7_init 186 = .ok (.aload_n 0, 1) := by decide +kernel
theorem dX7_init_187 : decode cX7_init 187 = .ok (.getfield 7, 3) := by decide +kernel
theorem dX7_init_190 : decode cX7_init 190 = .ok (.iconst 2, 1) := by decide +kernel
theorem dX7_init_191 : decode cX7_init 191 = .ok (.bipush 70, 2) := by decide +kernel
theorem dX7_init_193 : decode cX7_init 193 = .ok (.iastore, 1) := by decide +kernel
theorem dX7_init_194 : decode cX7_init 194 = .ok (.aload_n 0, 1) := by decide +kernel
theorem dX7_init_195 : decode cX7_init 195 = .ok (.getfield 7, 3) := by decide +kernel
theorem dX7_init_198 : decode cX7_init 198 = .ok (.iconst 3, 1) := by decide +kernel
theorem dX7_init_199 : decode cX7_init 199 = .ok (.bipush 63, 2) := by decide +kernel
theorem dX7_init_201 : decode cX7_init 201 = .ok (.iastore, 1) := by decide +kernel
theorem dX7_init_202 : decode cX7_init 202 = .ok (.iconst 0, 1) := by decide +kernel
theorem dX7_init_203 : decode cX7_init 203 = .ok (.istore_n 2, 1) := by decide +kernel
theorem dX7_init_204 : decode cX7_init 204 = .ok (.iload_n 2, 1) := by decide +kernel
theorem dX7_init_205 : decode cX7_init 205 = .ok (.bipush 12, 2) := by decide +kernel
theorem dX7_init_207 : decode cX7_init 207 = .ok (.if_icmp .ge 20, 3) := by decide +kernel
theorem dX7_init_210 : decode cX7_init 210 = .ok (.aload_n 0, 1) := by decide +kernel
theorem dX7_init_211 : decode cX7_init 211 = .ok (.getfield 7, 3) := by decide +kernel
theorem dX7_init_214 : decode cX7_init 214 = .ok (.bipush 13, 2) := by decide +kernel
theorem dX7_init_216 : decode cX7_init 216 = .ok (.iload_n 2, 1) := by decide +kernel
theorem dX7_init_217 : decode cX7_init 217 = .ok (.iadd, 1) := by decide +kernel
theorem dX7_init_218 : decode cX7_init 218 = .ok (.bipush (-5), 2) := by decide +kernel
theorem dX7_init_220 : decode cX7_init 220 = .ok (.iastore, 1) := by decide +kernel
theorem dX7_init_221 : decode cX7_init 221 = .ok (.iinc 2 1, 3) := by decide +kernel
theorem dX7_init_224 : decode cX7_init 224 = .ok (.goto (-20), 3) := by decide +kernel
theorem dX7_init_227 : decode cX7_init 227 = .ok (.return_, 1) := by decide +kernel
theorem ax_111 {E : Ev} {a0 : Nat → Nat} {σ0 : N2} {v0 : UInt32} {i x : Int32} : (wMd E a0 σ0 v0).set 8 (a0 8, .inl (E.2.1.1, 81, .inl (upd (σ0 7) i.toNatClampNeg x))) = wMd E a0 (u2 σ0 7 i.toNatClampNeg x) v0 := rfl
theorem ax_112 {E : Ev} {a0 : Nat → Nat} {σ0 : N2} {v0 : UInt32} {i x : Int32} : (wMd E a0 σ0 v0).set 6 (a0 6, .inl (E.2.1.1, 61, .inl (upd (σ0 5) i.toNatClampNeg x))) = wMd E a0 (u2 σ0 5 i.toNatClampNeg x) v0 := rfl
theorem ax_113 {E : Ev} {a0 : Nat → Nat} {σ0 : N2} {v0 : UInt32} {i x : Int32} : (wMd E a0 σ0 v0).set 7 (a0 7, .inl (E.2.1.1, 61, .inl (upd (σ0 6) i.toNatClampNeg x))) = wMd E a0 (u2 σ0 6 i.toNatClampNeg x) v0 := rfl
set_option maxHeartbeats 4000000 in
set_option maxRecDepth 100000 in
theorem kX7_init (l : Launch) (E : Ev) (b : Nat) : KN l yX7_init cX7_init 5 3 100 9 847 E [.ref b] [(b, .inr (6, [.null, .null, .null, .null, .int 0, .null, .int 0, .null, .null, .null, .int 0, .int 0, .int 0, .int 0, .float 0, .int 0, .int 0, .int 0, .int 0, .null, .int 0, .int 0, .int 0, .int 0, .int 0]))] (fun w2 => ∃ a : Nat → Nat, a 0 = b ∧ w2 = wMd E a (mF 12) 0) := by
  refine KN.mk RX7 rfl (by decide +kernel) (Nat.le_of_ble_eq_true rfl) ?_
  intro p e s m below meth c ls X hnm hAO hr w hl
  have hin : meth.name = "<init>" := hnm
  have hx := X.1
  have hb := X.2.1
  have hA : ∀ q : Nat, s.heap.size ≤ q → va_A [(b, .inr (6, [.null, .null, .null, .null, .int 0, .null, .int 0, .null, .null, .null, .int 0, .int 0, .int 0, .int 0, .float 0, .int 0, .int 0, .int 0, .int 0, .null, .int 0, .int 0, .int 0, .int 0, .int 0]))] s.heap.size q := fun q h => Or.inr h
  have hl : lv_has ls 5 [(0, .ref b)] := hl
  refine lv_aload_n hx hb dX7_init_0 rfl (lv_at hl 0 rfl) ?_
  refine r_obj X wm_X7_1 hl.1 dX7_init_1 (Nat.le_of_ble_eq_true rfl) (Nat.le_of_ble_eq_true rfl) ?_
  refine lv_aload_n hx hb dX7_init_4 rfl (lv_at hl 0 rfl) ?_
  refine lv_bipush (v := 73) hx hb dX7_init_5 (by decide) ?_
  refine r_newa X w hA (N := 73) (by decide) rfl (Nat.le_of_ble_eq_true rfl) (Nat.le_of_ble_eq_true rfl) (Nat.le_of_ble_eq_true rfl) dX7_init_7 (fun q1 H w => ?_)
  have w : Wd E (va_A [(b, .inr (6, [.null, .null, .null, .null, .int 0, .null, .int 0, .null, .null, .null, .int 0, .int 0, .int 0, .int 0, .float 0, .int 0, .int 0, .int 0, .int 0, .null, .int 0, .int 0, .int 0, .int 0, .int 0]))] s.heap.size) s [(b, .inr (6, [.null, .null, .null, .null, .int 0, .null, .int 0, .null, .null, .null, .int 0, .int 0, .int 0, .int 0, .float 0, .int 0, .int 0, .int 0, .int 0, .null, .int 0, .int 0, .int 0, .int 0, .int 0])), (q1, .inl (E.2.1.1, 73, .inl (fun _ => 0)))] H _ := w
  refine r_putF X w [(b, .inr (6, [.ref q1, .null, .null, .null, .int 0, .null, .int 0, .null, .null, .null, .int 0, .int 0, .int 0, .int 0, .float 0, .int 0, .int 0, .int 0, .int 0, .null, .int 0, .int 0, .int 0, .int 0, .int 0])), (q1, .inl (E.2.1.1, 73, .inl (fun _ => 0)))] CL7 0 (by decide) wf_X7_7 0 rfl rfl hin rfl rfl rfl (Nat.le_of_ble_eq_true rfl) rfl dX7_init_9 (fun H locs w => ?_)
  refine lv_aload_n hx hb dX7_init_12 rfl (lv_at hl 0 rfl) ?_
  refine lv_bipush (v := 73) hx hb dX7_init_13 (by decide) ?_
  refine r_newa X w hA (N := 73) (by decide) rfl (Nat.le_of_ble_eq_true rfl) (Nat.le_of_ble_eq_true rfl) (Nat.le_of_ble_eq_true rfl) dX7_init_15 (fun q2 H w => ?_)
  have w : Wd E (va_A [(b, .inr (6, [.null, .null, .null, .null, .int 0, .null, .int 0, .null, .null, .null, .int 0, .int 0, .int 0, .int 0, .float 0, .int 0, .int 0, .int 0, .int 0, .null, .int 0, .int 0, .int 0, .int 0, .int 0]))] s.heap.size) s [(b, .inr (6, [.ref q1, .null, .null, .null, .int 0, .null, .int 0, .null, .null, .null, .int 0, .int 0, .int 0, .int 0, .float 0, .int 0, .int 0, .int 0, .int 0, .null, .int 0, .int 0, .int 0, .int 0, .int 0])), (q1, .inl (E.2.1.1, 73, .inl (fun _ => 0))), (q2, .inl (E.2.1.1, 73, .inl (fun _ => 0)))] H _ := w
  refine r_putF X w [(b, .inr (6, [.ref q1, .ref q2, .null, .null, .int 0, .null, .int 0, .null, .null, .null, .int 0, .int 0, .int 0, .int 0, .float 0, .int 0, .int 0, .int 0, .int 0, .null, .int 0, .int 0, .int 0, .int 0, .int 0])), (q1, .inl (E.2.1.1, 73, .inl (fun _ => 0))), (q2, .inl (E.2.1.1, 73, .inl (fun _ => 0)))] CL7 1 (by decide) wf_X7_13 0 rfl rfl hin rfl rfl rfl (Nat.le_of_ble_eq_true rfl) rfl dX7_init_17 (fun H locs w => ?_)
  refine lv_aload_n hx hb dX7_init_20 rfl (lv_at hl 0 rfl) ?_
  refine lv_bipush (v := 73) hx hb dX7_init_21 (by decide) ?_
  refine r_newa X w hA (N := 73) (by decide) rfl (Nat.le_of_ble_eq_true rfl) (Nat.le_of_ble_eq_true rfl) (Nat.le_of_ble_eq_true rfl) dX7_init_23 (fun q3 H w => ?_)
  have w : Wd E (va_A [(b, .inr (6, [.null, .null, .null, .null, .int 0, .null, .int 0, .null, .null, .null, .int 0, .int 0, .int 0, .int 0, .float 0, .int 0, .int 0, .int 0, .int 0, .null, .int 0, .int 0, .int 0, .int 0, .int 0]))] s.heap.size) s [(b, .inr (6, [.ref q1, .ref q2, .null, .null, .int 0, .null, .int 0, .null, .null, .null, .int 0, .int 0, .int 0, .int 0, .float 0, .int 0, .int 0, .int 0, .int 0, .null, .int 0, .int 0, .int 0, .int 0, .int 0])), (q1, .inl (E.2.1.1, 73, .inl (fun _ => 0))), (q2, .inl (E.2.1.1, 73, .inl (fun _ => 0))), (q3, .inl (E.2.1.1, 73, .inl (fun _ => 0)))] H _ := w
  refine r_putF X w [(b, .inr (6, [.ref q1, .ref q2, .ref q3, .null, .int 0, .null, .int 0, .null, .null, .null, .int 0, .int 0, .int 0, .int 0, .float 0, .int 0, .int 0, .int 0, .int 0, .null, .int 0, .int 0, .int 0, .int 0, .int 0])), (q1, .inl (E.2.1.1, 73, .inl (fun _ => 0))), (q2, .inl (E.2.1.1, 73, .inl (fun _ => 0))), (q3, .inl (E.2.1.1, 73, .inl (fun _ => 0)))] CL7 2 (by decide) wf_X7_16 0 rfl rfl hin rfl rfl rfl (Nat.le_of_ble_eq_true rfl) rfl dX7_init_25 (fun H locs w => ?_)
  refine lv_aload_n hx hb dX7_init_28 rfl (lv_at hl 0 rfl) ?_
  refine lv_sipush (v := 292) hx hb dX7_init_29 (by decide) ?_
  refine r_newa X w hA (N := 292) (by decide) rfl (Nat.le_of_ble_eq_true rfl) (Nat.le_of_ble_eq_true rfl) (Nat.le_of_ble_eq_true rfl) dX7_init_32 (fun q4 H w => ?_)
  have w : Wd E (va_A [(b, .inr (6, [.null, .null, .null, .null, .int 0, .null, .int 0, .null, .null, .null, .int 0, .int 0, .int 0, .int 0, .float 0, .int 0, .int 0, .int 0, .int 0, .null, .int 0, .int 0, .int 0, .int 0, .int 0]))] s.heap.size) s [(b, .inr (6, [.ref q1, .ref q2, .ref q3, .null, .int 0, .null, .int 0, .null, .null, .null, .int 0, .int 0, .int 0, .int 0, .float 0, .int 0, .int 0, .int 0, .int 0, .null, .int 0, .int 0, .int 0, .int 0, .int 0])), (q1, .inl (E.2.1.1, 73, .inl (fun _ => 0))), (q2, .inl (E.2.1.1, 73, .inl (fun _ => 0))), (q3, .inl (E.2.1.1, 73, .inl (fun _ => 0))), (q4, .inl (E.2.1.1, 292, .inl (fun _ => 0)))] H _ := w
  refine r_putF X w [(b, .inr (6, [.ref q1, .ref q2, .ref q3, .ref q4, .int 0, .null, .int 0, .null, .null, .null, .int 0, .int 0, .int 0, .int 0, .float 0, .int 0, .int 0, .int 0, .int 0, .null, .int 0, .int 0, .int 0, .int 0, .int 0])), (q1, .inl (E.2.1.1, 73, .inl (fun _ => 0))), (q2, .inl (E.2.1.1, 73, .inl (fun _ => 0))), (q3, .inl (E.2.1.1, 73, .inl (fun _ => 0))), (q4, .inl (E.2.1.1, 292, .inl (fun _ => 0)))] CL7 3 (by decide) wf_X7_19 0 rfl rfl hin rfl rfl rfl (Nat.le_of_ble_eq_true rfl) rfl dX7_init_34 (fun H locs w => ?_)
  refine lv_aload_n hx hb dX7_init_37 rfl (lv_at hl 0 rfl) ?_
  refine lv_bipush (v := 73) hx hb dX7_init_38 (by decide) ?_
  refine r_newa X w hA (N := 73) (by decide) rfl (Nat.le_of_ble_eq_true rfl) (Nat.le_of_ble_eq_true rfl) (Nat.le_of_ble_eq_true rfl) dX7_init_40 (fun q5 H w => ?_)
  have w : Wd E (va_A [(b, .inr (6, [.null, .null, .null, .null, .int 0, .null, .int 0, .null, .null, .null, .int 0, .int 0, .int 0, .int 0, .float 0, .int 0, .int 0, .int 0, .int 0, .null, .int 0, .int 0, .int 0, .int 0, .int 0]))] s.heap.size) s [(b, .inr (6, [.ref q1, .ref q2, .ref q3, .ref q4, .int 0, .null, .int 0, .null, .null, .null, .int 0, .int 0, .int 0, .int 0, .float 0, .int 0, .int 0, .int 0, .int 0, .null, .int 0, .int 0, .int 0, .int 0, .int 0])), (q1, .inl (E.2.1.1, 73, .inl (fun _ => 0))), (q2, .inl (E.2.1.1, 73, .inl (fun _ => 0))), (q3, .inl (E.2.1.1, 73, .inl (fun _ => 0))), (q4, .inl (E.2.1.1, 292, .inl (fun _ => 0))), (q5, .inl (E.2.1.1, 73, .inl (fun _ => 0)))] H _ := w
  refine r_putF X w [(b, .inr (6, [.ref q1, .ref q2, .ref q3, .ref q4, .int 0, .ref q5, .int 0, .null, .null, .null, .int 0, .int 0, .int 0, .int 0, .float 0, .int 0, .int 0, .int 0, .int 0, .null, .int 0, .int 0, .int 0, .int 0, .int 0])), (q1, .inl (E.2.1.1, 73, .inl (fun _ => 0))), (q2, .inl (E.2.1.1, 73, .inl (fun _ => 0))), (q3, .inl (E.2.1.1, 73, .inl (fun _ => 0))), (q4, .inl (E.2.1.1, 292, .inl (fun _ => 0))), (q5, .inl (E.2.1.1, 73, .inl (fun _ => 0)))] CL7 5 (by decide) wf_X7_22 0 rfl rfl hin rfl rfl rfl (Nat.le_of_ble_eq_true rfl) rfl dX7_init_42 (fun H locs w => ?_)
  refine lv_aload_n hx hb dX7_init_45 rfl (lv_at hl 0 rfl) ?_
  refine lv_bipush (v := 61) hx hb dX7_init_46 (by decide) ?_
  refine r_newa X w hA (N := 61) (by decide) rfl (Nat.le_of_ble_eq_true rfl) (Nat.le_of_ble_eq_true rfl) (Nat.le_of_ble_eq_true rfl) dX7_init_48 (fun q6 H w => ?_)
  have w : Wd E (va_A [(b, .inr (6, [.null, .null, .null, .null, .int 0, .null, .int 0, .null, .null, .null, .int 0, .int 0, .int 0, .int 0, .float 0, .int 0, .int 0, .int 0, .int 0, .null, .int 0, .int 0, .int 0, .int 0, .int 0]))] s.heap.size) s [(b, .inr (6, [.ref q1, .ref q2, .ref q3, .ref q4, .int 0, .ref q5, .int 0, .null, .null, .null, .int 0, .int 0, .int 0, .int 0, .float 0, .int 0, .int 0, .int 0, .int 0, .null, .int 0, .int 0, .int 0, .int 0, .int 0])), (q1, .inl (E.2.1.1, 73, .inl (fun _ => 0))), (q2, .inl (E.2.1.1, 73, .inl (fun _ => 0))), (q3, .inl (E.2.1.1, 73, .inl (fun _ => 0))), (q4, .inl (E.2.1.1, 292, .inl (fun _ => 0))), (q5, .inl (E.2.1.1, 73, .inl (fun _ => 0))), (q6, .inl (E.2.1.1, 61, .inl (fun _ => 0)))] H _ := w
  refine r_putF X w [(b, .inr (6, [.ref q1, .ref q2, .ref q3, .ref q4, .int 0, .ref q5, .int 0, .ref q6, .null, .null, .int 0, .int 0, .int 0, .int 0, .float 0, .int 0, .int 0, .int 0, .int 0, .null, .int 0, .int 0, .int 0, .int 0, .int 0])), (q1, .inl (E.2.1.1, 73, .inl (fun _ => 0))), (q2, .inl (E.2.1.1, 73, .inl (fun _ => 0))), (q3, .inl (E.2.1.1, 73, .inl (fun _ => 0))), (q4, .inl (E.2.1.1, 292, .inl (fun _ => 0))), (q5, .inl (E.2.1.1, 73, .inl (fun _ => 0))), (q6, .inl (E.2.1.1, 61, .inl (fun _ => 0)))] CL7 7 (by decide) wf_X7_25 0 rfl rfl hin rfl rfl rfl (Nat.le_of_ble_eq_true rfl) rfl dX7_init_50 (fun H locs w => ?_)
  refine lv_aload_n hx hb dX7_init_53 rfl (lv_at hl 0 rfl) ?_
  refine lv_bipush (v := 61) hx hb dX7_init_54 (by decide) ?_
  refine r_newa X w hA (N := 61) (by decide) rfl (Nat.le_of_ble_eq_true rfl) (Nat.le_of_ble_eq_true rfl) (Nat.le_of_ble_eq_true rfl) dX7_init_56 (fun q7 H w => ?_)
  have w : Wd E (va_A [(b, .inr (6, [.null, .null, .null, .null, .int 0, .null, .int 0, .null, .null, .null, .int 0, .int 0, .int 0, .int 0, .float 0, .int 0, .int 0, .int 0, .int 0, .null, .int 0, .int 0, .int 0, .int 0, .int 0]))] s.heap.size) s [(b, .inr (6, [.ref q1, .ref q2, .ref q3, .ref q4, .int 0, .ref q5, .int 0, .ref q6, .null, .null, .int 0, .int 0, .int 0, .int 0, .float 0, .int 0, .int 0, .int 0, .int 0, .null, .int 0, .int 0, .int 0, .int 0, .int 0])), (q1, .inl (E.2.1.1, 73, .inl (fun _ => 0))), (q2, .inl (E.2.1.1, 73, .inl (fun _ => 0))), (q3, .inl (E.2.1.1, 73, .inl (fun _ => 0))), (q4, .inl (E.2.1.1, 292, .inl (fun _ => 0))), (q5, .inl (E.2.1.1, 73, .inl (fun _ => 0))), (q6, .inl (E.2.1.1, 61, .inl (fun _ => 0))), (q7, .inl (E.2.1.1, 61, .inl (fun _ => 0)))] H _ := w
  refine r_putF X w [(b, .inr (6, [.ref q1, .ref q2, .ref q3, .ref q4, .int 0, .ref q5, .int 0, .ref q6, .ref q7, .null, .int 0, .int 0, .int 0, .int 0, .float 0, .int 0, .int 0, .int 0, .int 0, .null, .int 0, .int 0, .int 0, .int 0, .int 0])), (q1, .inl (E.2.1.1, 73, .inl (fun _ => 0))), (q2, .inl (E.2.1.1, 73, .inl (fun _ => 0))), (q3, .inl (E.2.1.1, 73, .inl (fun _ => 0))), (q4, .inl (E.2.1.1, 292, .inl (fun _ => 0))), (q5, .inl (E.2.1.1, 73, .inl (fun _ => 0))), (q6, .inl (E.2.1.1, 61, .inl (fun _ => 0))), (q7, .inl (E.2.1.1, 61, .inl (fun _ => 0)))] CL7 8 (by decide) wf_X7_28 0 rfl rfl hin rfl rfl rfl (Nat.le_of_ble_eq_true rfl) rfl dX7_init_58 (fun H locs w => ?_)
  refine lv_aload_n hx hb dX7_init_61 rfl (lv_at hl 0 rfl) ?_
  refine lv_bipush (v := 81) hx hb dX7_init_62 (by decide) ?_
  refine r_newa X w hA (N := 81) (by decide) rfl (Nat.le_of_ble_eq_true rfl) (Nat.le_of_ble_eq_true rfl) (Nat.le_of_ble_eq_true rfl) dX7_init_64 (fun q8 H w => ?_)
  have w : Wd E (va_A [(b, .inr (6, [.null, .null, .null, .null, .int 0, .null, .int 0, .null, .null, .null, .int 0, .int 0, .int 0, .int 0, .float 0, .int 0, .int 0, .int 0, .int 0, .null, .int 0, .int 0, .int 0, .int 0, .int 0]))] s.heap.size) s [(b, .inr (6, [.ref q1, .ref q2, .ref q3, .ref q4, .int 0, .ref q5, .int 0, .ref q6, .ref q7, .null, .int 0, .int 0, .int 0, .int 0, .float 0, .int 0, .int 0, .int 0, .int 0, .null, .int 0, .int 0, .int 0, .int 0, .int 0])), (q1, .inl (E.2.1.1, 73, .inl (fun _ => 0))), (q2, .inl (E.2.1.1, 73, .inl (fun _ => 0))), (q3, .inl (E.2.1.1, 73, .inl (fun _ => 0))), (q4, .inl (E.2.1.1, 292, .inl (fun _ => 0))), (q5, .inl (E.2.1.1, 73, .inl (fun _ => 0))), (q6, .inl (E.2.1.1, 61, .inl (fun _ => 0))), (q7, .inl (E.2.1.1, 61, .inl (fun _ => 0))), (q8, .inl (E.2.1.1, 81, .inl (fun _ => 0)))] H _ := w
  refine r_putF X w [(b, .inr (6, [.ref q1, .ref q2, .ref q3, .ref q4, .int 0, .ref q5, .int 0, .ref q6, .ref q7, .ref q8, .int 0, .int 0, .int 0, .int 0, .float 0, .int 0, .int 0, .int 0, .int 0, .null, .int 0, .int 0, .int 0, .int 0, .int 0])), (q1, .inl (E.2.1.1, 73, .inl (fun _ => 0))), (q2, .inl (E.2.1.1, 73, .inl (fun _ => 0))), (q3, .inl (E.2.1.1, 73, .inl (fun _ => 0))), (q4, .inl (E.2.1.1, 292, .inl (fun _ => 0))), (q5, .inl (E.2.1.1, 73, .inl (fun _ => 0))), (q6, .inl (E.2.1.1, 61, .inl (fun _ => 0))), (q7, .inl (E.2.1.1, 61, .inl (fun _ => 0))), (q8, .inl (E.2.1.1, 81, .inl (fun _ => 0)))] CL7 9 (by decide) wf_X7_31 0 rfl rfl hin rfl rfl rfl (Nat.le_of_ble_eq_true rfl) rfl dX7_init_66 (fun H locs w => ?_)
  refine lv_aload_n hx hb dX7_init_69 rfl (lv_at hl 0 rfl) ?_
  refine lv_bipush (v := 60) hx hb dX7_init_70 (by decide) ?_
  refine r_newa X w hA (N := 60) (by decide) rfl (Nat.le_of_ble_eq_true rfl) (Nat.le_of_ble_eq_true rfl) (Nat.le_of_ble_eq_true rfl) dX7_init_72 (fun q9 H w => ?_)
  have w : Wd E (va_A [(b, .inr (6, [.null, .null, .null, .null, .int 0, .null, .int 0, .null, .null, .null, .int 0, .int 0, .int 0, .int 0, .float 0, .int 0, .int 0, .int 0, .int 0, .null, .int 0, .int 0, .int 0, .int 0, .int 0]))] s.heap.size) s [(b, .inr (6, [.ref q1, .ref q2, .ref q3, .ref q4, .int 0, .ref q5, .int 0, .ref q6, .ref q7, .ref q8, .int 0, .int 0, .int 0, .int 0, .float 0, .int 0, .int 0, .int 0, .int 0, .null, .int 0, .int 0, .int 0, .int 0, .int 0])), (q1, .inl (E.2.1.1, 73, .inl (fun _ => 0))), (q2, .inl (E.2.1.1, 73, .inl (fun _ => 0))), (q3, .inl (E.2.1.1, 73, .inl (fun _ => 0))), (q4, .inl (E.2.1.1, 292, .inl (fun _ => 0))), (q5, .inl (E.2.1.1, 73, .inl (fun _ => 0))), (q6, .inl (E.2.1.1, 61, .inl (fun _ => 0))), (q7, .inl (E.2.1.1, 61, .inl (fun _ => 0))), (q8, .inl (E.2.1.1, 81, .inl (fun _ => 0))), (q9, .inl (E.2.1.1, 60, .inl (fun _ => 0)))] H _ := w
  refine r_putF X w [(b, .inr (6, [.ref q1, .ref q2, .ref q3, .ref q4, .int 0, .ref q5, .int 0, .ref q6, .ref q7, .ref q8, .int 0, .int 0, .int 0, .int 0, .float 0, .int 0, .int 0, .int 0, .int 0, .ref q9, .int 0, .int 0, .int 0, .int 0, .int 0])), (q1, .inl (E.2.1.1, 73, .inl (fun _ => 0))), (q2, .inl (E.2.1.1, 73, .inl (fun _ => 0))), (q3, .inl (E.2.1.1, 73, .inl (fun _ => 0))), (q4, .inl (E.2.1.1, 292, .inl (fun _ => 0))), (q5, .inl (E.2.1.1, 73, .inl (fun _ => 0))), (q6, .inl (E.2.1.1, 61, .inl (fun _ => 0))), (q7, .inl (E.2.1.1, 61, .inl (fun _ => 0))), (q8, .inl (E.2.1.1, 81, .inl (fun _ => 0))), (q9, .inl (E.2.1.1, 60, .inl (fun _ => 0)))] CL7 19 (by decide) wf_X7_34 0 rfl rfl hin rfl rfl rfl (Nat.le_of_ble_eq_true rfl) rfl dX7_init_74 (fun H locs w => ?_)
  obtain ⟨a, ha⟩ : ∃ a : Nat → Nat, a = adL [b, q1, q2, q3, q4, q5, q6, q7, q8, q9] := ⟨_, rfl⟩
  have ha0 : a 0 = b := by rw [ha]; rfl
  have w : Wd E (va_A [(b, .inr (6, [.null, .null, .null, .null, .int 0, .null, .int 0, .null, .null, .null, .int 0, .int 0, .int 0, .int 0, .float 0, .int 0, .int 0, .int 0, .int 0, .null, .int 0, .int 0, .int 0, .int 0, .int 0]))] s.heap.size) s (wMd E a (mI 0) 0) H locs := by rw [ha, mI_0]; exact w
  have hl : lv_has ls 5 [(0, .ref (a 0))] := by rw [ha]; exact hl
  generalize hAe : (va_A [(b, .inr (6, [.null, .null, .null, .null, .int 0, .null, .int 0, .null, .null, .null, .int 0, .int 0, .int 0, .int 0, .float 0, .int 0, .int 0, .int 0, .int 0, .null, .int 0, .int 0, .int 0, .int 0, .int 0]))] s.heap.size) = A at X w hA ⊢
  refine lv_iconst (v := 0) hx hb dX7_init_77 (by decide) ?_
  refine lv_istore_n (lv' := [(1, .int 0), (0, .ref (a 0))]) hx hb dX7_init_78 rfl hl (by decide) rfl (fun ls hl => ?_)
  refine lv_bipush (v := (-4)) hx hb dX7_init_79 (by decide) ?_
  refine lv_istore_n (lv' := [(2, .int (-4)), (1, .int 0), (0, .ref (a 0))]) hx hb dX7_init_81 rfl hl (by decide) rfl (fun ls hl => ?_)
  have loop : ∀ (n i1 : Nat), i1 + n = 9 → ∀ (H : Heap) (locs : List Loc), Wd E A s (wMd E a (mI (9 * i1)) 0) H locs → ∀ (ls : Array Slot), lv_has ls 5 [(2, .int (rI i1)), (1, .int (nI (cN (9 * i1)))), (0, .ref (a 0))] → W p l e { frames := 3, cells := 9, slots := 847, locals := 100 } s m ([.ref b] : List Value).toArray below meth c H locs 9 847 (MQ below (QN E [(b, .inr (6, [.null, .null, .null, .null, .int 0, .null, .int 0, .null, .null, .null, .int 0, .int 0, .int 0, .int 0, .float 0, .int 0, .int 0, .int 0, .int 0, .null, .int 0, .int 0, .int 0, .int 0, .int 0]))] s.heap.size (fun w2 => ∃ a : Nat → Nat, a 0 = b ∧ w2 = wMd E a (mF 12) 0)) ([.ref b] : List Value).toArray s 9 847 A) (F0 m 82 ls []) := by
    intro n
    induction n with
    | zero =>
      intro i1 hk_i1 H locs w ls hl
      obtain rfl : i1 = 9 := by omega
      refine lv_iload_n hx hb dX7_init_82 rfl (lv_at hl 0 rfl) ?_
      refine lv_iconst (v := 4) hx hb dX7_init_83 (by decide) ?_
      refine lv_icmp_gt (tgt := 170) hx hb dX7_init_84 (by decide) (fun _ => ?_) (fun h => absurd (by decide +kernel : 4 < rI 9) h)
      refine lv_aload_n hx hb dX7_init_170 rfl (lv_at hl 2 rfl) ?_
      refine r_get X w CL7 0 (by decide) wf_X7_7 0 rfl rfl dX7_init_171 ?_
      refine lv_iconst (v := 0) hx hb dX7_init_174 (by decide) ?_
      refine lv_bipush (v := 90) hx hb dX7_init_175 (by decide) ?_
      refine r_iast X w (wMd E a (u2 (mI (9 * 9)) 0 (0 : Int32).toNatClampNeg 90) 0) 1 rfl (vin_c rfl) (ax_82 (E := E)) dX7_init_177 (fun H locs w => ?_)
      refine lv_aload_n hx hb dX7_init_178 rfl (lv_at hl 2 rfl) ?_
      refine r_get X w CL7 0 (by decide) wf_X7_7 0 rfl rfl dX7_init_179 ?_
      refine lv_iconst (v := 1) hx hb dX7_init_182 (by decide) ?_
      refine lv_bipush (v := 80) hx hb dX7_init_183 (by decide) ?_
      refine r_iast X w (wMd E a (u2 (u2 (mI (9 * 9)) 0 (0 : Int32).toNatClampNeg 90) 0 (1 : Int32).toNatClampNeg 80) 0) 1 rfl (vin_c rfl) (ax_82 (E := E)) dX7_init_185 (fun H locs w => ?_)
      refine lv_aload_n hx hb dX7_init_186 rfl (lv_at hl 2 rfl) ?_
      refine r_get X w CL7 0 (by decide) wf_X7_7 0 rfl rfl dX7_init_187 ?_
      refine lv_iconst (v := 2) hx hb dX7_init_190 (by decide) ?_
      refine lv_bipush (v := 70) hx hb dX7_init_191 (by decide) ?_
      refine r_iast X w (wMd E a (u2 (u2 (u2 (mI (9 * 9)) 0 (0 : Int32).toNatClampNeg 90) 0 (1 : Int32).toNatClampNeg 80) 0 (2 : Int32).toNatClampNeg 70) 0) 1 rfl (vin_c rfl) (ax_82 (E := E)) dX7_init_193 (fun H locs w => ?_)
      refine lv_aload_n hx hb dX7_init_194 rfl (lv_at hl 2 rfl) ?_
      refine r_get X w CL7 0 (by decide) wf_X7_7 0 rfl rfl dX7_init_195 ?_
      refine lv_iconst (v := 3) hx hb dX7_init_198 (by decide) ?_
      refine lv_bipush (v := 63) hx hb dX7_init_199 (by decide) ?_
      refine r_iast X w (wMd E a (u2 (u2 (u2 (u2 (mI (9 * 9)) 0 (0 : Int32).toNatClampNeg 90) 0 (1 : Int32).toNatClampNeg 80) 0 (2 : Int32).toNatClampNeg 70) 0 (3 : Int32).toNatClampNeg 63) 0) 1 rfl (vin_c rfl) (ax_82 (E := E)) dX7_init_201 (fun H locs w => ?_)
      refine lv_iconst (v := 0) hx hb dX7_init_202 (by decide) ?_
      refine lv_istore_n (lv' := [(2, .int 0), (1, .int (nI (cN (9 * 9)))), (0, .ref (a 0))]) hx hb dX7_init_203 rfl hl (by decide) rfl (fun ls hl => ?_)
      have e3 : u2 (u2 (u2 (u2 (mI (9 * 9)) 0 (0 : Int32).toNatClampNeg 90) 0 (1 : Int32).toNatClampNeg 80) 0 (2 : Int32).toNatClampNeg 70) 0 (3 : Int32).toNatClampNeg 63 = mF 0 := mF_0
      rw [e3] at w
      have loop3 : ∀ (n3 k3 : Nat), k3 + n3 = 12 → ∀ (H : Heap) (locs : List Loc), Wd E A s (wMd E a (mF k3) 0) H locs → ∀ (ls : Array Slot), lv_has ls 5 [(2, .int (nI k3)), (0, .ref (a 0))] → W p l e { frames := 3, cells := 9, slots := 847, locals := 100 } s m ([.ref b] : List Value).toArray below meth c H locs 9 847 (MQ below (QN E [(b, .inr (6, [.null, .null, .null, .null, .int 0, .null, .int 0, .null, .null, .null, .int 0, .int 0, .int 0, .int 0, .float 0, .int 0, .int 0, .int 0, .int 0, .null, .int 0, .int 0, .int 0, .int 0, .int 0]))] s.heap.size (fun w2 => ∃ a : Nat → Nat, a 0 = b ∧ w2 = wMd E a (mF 12) 0)) ([.ref b] : List Value).toArray s 9 847 A) (F0 m 204 ls []) := by
        intro n3
        induction n3 with
        | zero =>
          intro k3 hk_k3 H locs w ls hl
          obtain rfl : k3 = 12 := by omega
          refine lv_iload_n hx hb dX7_init_204 rfl (lv_at hl 0 rfl) ?_
          refine lv_bipush (v := 12) hx hb dX7_init_205 (by decide) ?_
          refine lv_icmp_ge (tgt := 227) hx hb dX7_init_207 (by decide) (fun _ => ?_) (fun h => absurd (by decide : (12 : Int32) ≤ nI 12) h)
          subst hAe
          exact r_nret X w hr ⟨a, ha0, rfl⟩ (Nat.le_of_ble_eq_true rfl) (Nat.le_of_ble_eq_true rfl) dX7_init_227
        | succ n3 ih3 =>
          intro k3 hk_k3 H locs w ls hl
          have hkNn3 : k3 < 12 := by omega
          refine lv_iload_n hx hb dX7_init_204 rfl (lv_at hl 0 rfl) ?_
          refine lv_bipush (v := 12) hx hb dX7_init_205 (by decide) ?_
          refine lv_icmp_ge (tgt := 227) hx hb dX7_init_207 (by decide) (fun h => absurd h (nI_ge (b := 12) hkNn3 (by decide))) (fun _ => ?_)
          refine lv_aload_n hx hb dX7_init_210 rfl (lv_at hl 1 rfl) ?_
          refine r_get X w CL7 0 (by decide) wf_X7_7 0 rfl rfl dX7_init_211 ?_
          refine lv_bipush (v := 13) hx hb dX7_init_214 (by decide) ?_
          refine lv_iload_n hx hb dX7_init_216 rfl (lv_at hl 0 rfl) ?_
          refine lv_iadd hx hb dX7_init_217 ?_
          refine lv_bipush (v := (-5)) hx hb dX7_init_218 (by decide) ?_
          refine r_iast X w (wMd E a (u2 (mF k3) 0 (13 + (nI k3)).toNatClampNeg (-5)) 0) 1 rfl (show vp_in (13 + nI k3) 73 from row_v hkNn3) (ax_82 (E := E)) dX7_init_220 (fun H locs w => ?_)
          refine lv_iinc (v := (nI k3) + 1) (lv' := [(2, .int ((nI k3) + 1)), (0, .ref (a 0))]) hx hb dX7_init_221 hl (k := 0) rfl (by first | rfl | decide) (by decide) rfl (fun ls hl => ?_)
          refine lv_goto (tgt := 204) hx hb dX7_init_224 (by decide) ?_
          have e0 : nI k3 + 1 = nI (k3 + 1) := nI_1 k3
          rw [e0] at hl
          have e4 : u2 (mF k3) 0 (13 + (nI k3)).toNatClampNeg (-5) = mF (k3 + 1) := mF_1 hkNn3
          rw [e4] at w
          exact ih3 (k3 + 1) (by omega) _ _ w ls (lv_sub hl [0, 1] rfl)
      exact loop3 12 0 (by omega) _ _ w ls (lv_sub hl [0, 2] rfl)
    | succ n ih =>
      intro i1 hk_i1 H locs w ls hl
      have hkN : i1 < 9 := by omega
      refine lv_iload_n hx hb dX7_init_82 rfl (lv_at hl 0 rfl) ?_
      refine lv_iconst (v := 4) hx hb dX7_init_83 (by decide) ?_
      refine lv_icmp_gt (tgt := 170) hx hb dX7_init_84 (by decide) (fun h => absurd h (rI_le hkN)) (fun _ => ?_)
      refine lv_bipush (v := (-4)) hx hb dX7_init_87 (by decide) ?_
      refine lv_istore_n (lv' := [(3, .int (-4)), (2, .int (rI i1)), (1, .int (nI (cN (9 * i1)))), (0, .ref (a 0))]) hx hb dX7_init_89 rfl hl (by decide) rfl (fun ls hl => ?_)
      have loop2 : ∀ (n2 j1 : Nat), j1 + n2 = 9 → ∀ (H : Heap) (locs : List Loc), Wd E A s (wMd E a (mI (9 * i1 + j1)) 0) H locs → ∀ (ls : Array Slot), lv_has ls 5 [(3, .int (rI j1)), (2, .int (rI i1)), (1, .int (nI (cN (9 * i1 + j1)))), (0, .ref (a 0))] → W p l e { frames := 3, cells := 9, slots := 847, locals := 100 } s m ([.ref b] : List Value).toArray below meth c H locs 9 847 (MQ below (QN E [(b, .inr (6, [.null, .null, .null, .null, .int 0, .null, .int 0, .null, .null, .null, .int 0, .int 0, .int 0, .int 0, .float 0, .int 0, .int 0, .int 0, .int 0, .null, .int 0, .int 0, .int 0, .int 0, .int 0]))] s.heap.size (fun w2 => ∃ a : Nat → Nat, a 0 = b ∧ w2 = wMd E a (mF 12) 0)) ([.ref b] : List Value).toArray s 9 847 A) (F0 m 90 ls []) := by
        intro n2
        induction n2 with
        | zero =>
          intro j1 hk_j1 H locs w ls hl
          obtain rfl : j1 = 9 := by omega
          refine lv_iload_n hx hb dX7_init_90 rfl (lv_at hl 0 rfl) ?_
          refine lv_iconst (v := 4) hx hb dX7_init_91 (by decide) ?_
          refine lv_icmp_gt (tgt := 164) hx hb dX7_init_92 (by decide) (fun _ => ?_) (fun h => absurd (by decide +kernel : 4 < rI 9) h)
          refine lv_iinc (v := (rI i1) + 1) (lv' := [(2, .int ((rI i1) + 1)), (3, .int (rI 9)), (1, .int (nI (cN (9 * i1 + 9)))), (0, .ref (a 0))]) hx hb dX7_init_164 hl (k := 1) rfl (by first | rfl | decide) (by decide) rfl (fun ls hl => ?_)
          refine lv_goto (tgt := 82) hx hb dX7_init_167 (by decide) ?_
          have e0 : rI i1 + 1 = rI (i1 + 1) := rI_1 i1
          rw [e0] at hl
          rw [show 9 * i1 + 9 = 9 * (i1 + 1) by omega] at w hl
          exact ih (i1 + 1) (by omega) _ _ w ls (lv_sub hl [0, 2, 3] rfl)
        | succ n2 ih2 =>
          intro j1 hk_j1 H locs w ls hl
          have hkNn2 : j1 < 9 := by omega
          refine lv_iload_n hx hb dX7_init_90 rfl (lv_at hl 0 rfl) ?_
          refine lv_iconst (v := 4) hx hb dX7_init_91 (by decide) ?_
          refine lv_icmp_gt (tgt := 164) hx hb dX7_init_92 (by decide) (fun h => absurd h (rI_le hkNn2)) (fun _ => ?_)
          refine lv_iload_n hx hb dX7_init_95 rfl (lv_at hl 0 rfl) ?_
          refine lv_iload_n hx hb dX7_init_96 rfl (lv_at hl 1 rfl) ?_
          refine lv_iadd hx hb dX7_init_97 ?_
          refine lv_i2l hx hb dX7_init_98 rfl ?_
          refine r_ldcl X wk_X7_37 dX7_init_99 ?_
          refine r_ldcl X wk_X7_39 dX7_init_102 ?_
          refine r_ci w (r_runS (As := [.long (((rI j1) + (rI i1)).toInt64), .long (-4), .long 4]) (rest := []) X w (kX7_in l E (((rI j1) + (rI i1)).toInt64) (-4) 4 ) ck_X7_41 ⟨Nat.le_of_ble_eq_true rfl, Nat.le_of_ble_eq_true rfl⟩ [] rfl (by decide +kernel) hl.1 (Nat.le_of_ble_eq_true rfl) rfl dX7_init_105 ⟨Nat.le_of_ble_eq_true rfl, Nat.le_of_ble_eq_true rfl⟩) (wMd E a (mI (9 * i1 + j1)) 0) [] rfl (by decide +kernel) rfl rfl (fun H locs w => ?_)
          refine lv_istore (lv' := [(4, .int (fX7_in (((rI j1) + (rI i1)).toInt64) (-4) 4)), (3, .int (rI j1)), (2, .int (rI i1)), (1, .int (nI (cN (9 * i1 + j1)))), (0, .ref (a 0))]) hx hb dX7_init_108 hl (by decide) rfl (fun ls hl => ?_)
          refine lv_aload_n hx hb dX7_init_110 rfl (lv_at hl 4 rfl) ?_
          refine r_get X w CL7 9 (by decide) wf_X7_31 0 rfl rfl dX7_init_111 ?_
          refine lv_bipush (v := 9) hx hb dX7_init_114 (by decide) ?_
          refine lv_iload_n hx hb dX7_init_116 rfl (lv_at hl 2 rfl) ?_
          refine lv_iconst (v := 4) hx hb dX7_init_117 (by decide) ?_
          refine lv_iadd hx hb dX7_init_118 ?_
          refine lv_imul hx hb dX7_init_119 ?_
          refine lv_iload_n hx hb dX7_init_120 rfl (lv_at hl 1 rfl) ?_
          refine lv_iadd hx hb dX7_init_121 ?_
          refine lv_iconst (v := 4) hx hb dX7_init_122 (by decide) ?_
          refine lv_iadd hx hb dX7_init_123 ?_
          refine lv_iload hx hb dX7_init_124 (lv_at hl 0 rfl) ?_
          refine lv_if_eq (tgt := 133) hx hb dX7_init_126 (by decide) (fun c126_7 => ?_) (fun c126_7 => ?_)
          · refine lv_bipush (v := (-5)) hx hb dX7_init_133 (by decide) ?_
            refine r_iast X w (wMd E a (u2 (mI (9 * i1 + j1)) 7 (((9 * ((rI i1) + 4)) + (rI j1)) + 4).toNatClampNeg (-5)) 0) 8 rfl (ix_A hkN hkNn2).2 (ax_111 (E := E)) dX7_init_135 (fun H locs w => ?_)
            refine lv_iload hx hb dX7_init_136 (lv_at hl 0 rfl) ?_
            refine lv_if_eq (tgt := 158) hx hb dX7_init_138 (by decide) (fun _ => ?_) (fun h => absurd c126_7 h)
            refine lv_iinc (v := (rI j1) + 1) (lv' := [(3, .int ((rI j1) + 1)), (4, .int (fX7_in (((rI j1) + (rI i1)).toInt64) (-4) 4)), (2, .int (rI i1)), (1, .int (nI (cN (9 * i1 + j1)))), (0, .ref (a 0))]) hx hb dX7_init_158 hl (k := 1) rfl (by first | rfl | decide) (by decide) rfl (fun ls hl => ?_)
            refine lv_goto (tgt := 90) hx hb dX7_init_161 (by decide) ?_
            have e0 : rI j1 + 1 = rI (j1 + 1) := rI_1 j1
            rw [e0] at hl
            have e1 : u2 (mI (9 * i1 + j1)) 7 (((9 * ((rI i1) + 4)) + (rI j1)) + 4).toNatClampNeg (-5) = mI (9 * i1 + (j1 + 1)) := mI_N hkN hkNn2 c126_7
            rw [e1] at w
            have e2 : cN (9 * i1 + j1) = cN (9 * i1 + (j1 + 1)) := (cl_N hkN hkNn2 c126_7).2.symm
            rw [e2] at hl
            exact ih2 (j1 + 1) (by omega) _ _ w ls (lv_sub hl [0, 2, 3, 4] rfl)
          · refine lv_iload_n hx hb dX7_init_129 rfl (lv_at hl 3 rfl) ?_
            refine lv_goto (tgt := 135) hx hb dX7_init_130 (by decide) ?_
            refine r_iast X w (wMd E a (u2 (mI (9 * i1 + j1)) 7 (((9 * ((rI i1) + 4)) + (rI j1)) + 4).toNatClampNeg (nI (cN (9 * i1 + j1)))) 0) 8 rfl (ix_A hkN hkNn2).2 (ax_111 (E := E)) dX7_init_135 (fun H locs w => ?_)
            refine lv_iload hx hb dX7_init_136 (lv_at hl 0 rfl) ?_
            refine lv_if_eq (tgt := 158) hx hb dX7_init_138 (by decide) (fun h => absurd h c126_7) (fun _ => ?_)
            refine lv_aload_n hx hb dX7_init_141 rfl (lv_at hl 4 rfl) ?_
            refine r_get X w CL7 7 (by decide) wf_X7_25 0 rfl rfl dX7_init_142 ?_
            refine lv_iload_n hx hb dX7_init_145 rfl (lv_at hl 3 rfl) ?_
            refine lv_iload_n hx hb dX7_init_146 rfl (lv_at hl 1 rfl) ?_
            refine r_iast X w (wMd E a (u2 (u2 (mI (9 * i1 + j1)) 7 (((9 * ((rI i1) + 4)) + (rI j1)) + 4).toNatClampNeg (nI (cN (9 * i1 + j1)))) 5 (nI (cN (9 * i1 + j1))).toNatClampNeg (rI j1)) 0) 6 rfl (cN_in hkN hkNn2 c126_7) (ax_112 (E := E)) dX7_init_147 (fun H locs w => ?_)
            refine lv_aload_n hx hb dX7_init_148 rfl (lv_at hl 4 rfl) ?_
            refine r_get X w CL7 8 (by decide) wf_X7_28 0 rfl rfl dX7_init_149 ?_
            refine lv_iload_n hx hb dX7_init_152 rfl (lv_at hl 3 rfl) ?_
            refine lv_iload_n hx hb dX7_init_153 rfl (lv_at hl 2 rfl) ?_
            refine r_iast X w (wMd E a (u2 (u2 (u2 (mI (9 * i1 + j1)) 7 (((9 * ((rI i1) + 4)) + (rI j1)) + 4).toNatClampNeg (nI (cN (9 * i1 + j1)))) 5 (nI (cN (9 * i1 + j1))).toNatClampNeg (rI j1)) 6 (nI (cN (9 * i1 + j1))).toNatClampNeg (rI i1)) 0) 7 rfl (cN_in hkN hkNn2 c126_7) (ax_113 (E := E)) dX7_init_154 (fun H locs w => ?_)
            refine lv_iinc (v := (nI (cN (9 * i1 + j1))) + 1) (lv' := [(1, .int ((nI (cN (9 * i1 + j1))) + 1)), (4, .int (fX7_in (((rI j1) + (rI i1)).toInt64) (-4) 4)), (3, .int (rI j1)), (2, .int (rI i1)), (0, .ref (a 0))]) hx hb dX7_init_155 hl (k := 3) rfl (by first | rfl | decide) (by decide) rfl (fun ls hl => ?_)
            refine lv_iinc (v := (rI j1) + 1) (lv' := [(3, .int ((rI j1) + 1)), (1, .int ((nI (cN (9 * i1 + j1))) + 1)), (4, .int (fX7_in (((rI j1) + (rI i1)).toInt64) (-4) 4)), (2, .int (rI i1)), (0, .ref (a 0))]) hx hb dX7_init_158 hl (k := 2) rfl (by first | rfl | decide) (by decide) rfl (fun ls hl => ?_)
            refine lv_goto (tgt := 90) hx hb dX7_init_161 (by decide) ?_
            have e0 : rI j1 + 1 = rI (j1 + 1) := rI_1 j1
            rw [e0] at hl
            have e1 : u2 (u2 (u2 (mI (9 * i1 + j1)) 7 (((9 * ((rI i1) + 4)) + (rI j1)) + 4).toNatClampNeg (nI (cN (9 * i1 + j1)))) 5 (nI (cN (9 * i1 + j1))).toNatClampNeg (rI j1)) 6 (nI (cN (9 * i1 + j1))).toNatClampNeg (rI i1) = mI (9 * i1 + (j1 + 1)) := mI_C hkN hkNn2 c126_7
            rw [e1] at w
            have e2 : nI (cN (9 * i1 + j1)) + 1 = nI (cN (9 * i1 + (j1 + 1))) := by rw [show cN (9 * i1 + (j1 + 1)) = cN (9 * i1 + j1) + 1 from (cl_C hkN hkNn2 c126_7).2.1]; exact nI_1 _
            rw [e2] at hl
            exact ih2 (j1 + 1) (by omega) _ _ w ls (lv_sub hl [0, 3, 1, 4] rfl)
      exact loop2 9 0 (by omega) _ _ w ls (lv_sub hl [0, 1, 2, 3] rfl)
  exact loop 9 0 (by omega) _ _ w ls (lv_sub hl [0, 1, 2] rfl)
