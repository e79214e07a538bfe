/-! p24: balls and cells tell one another; totals (wip/p24/p53.lean) -/
/-- what is told of the balls that are there, in all -/
def bkN (f : N1) (o : Nat) : Nat → Int32
  | 0 => 0
  | k + 1 => bkN f o k + (if f (13 + k) = (-5) then 0 else f (o + k))
def bsN : Nat → Int32
  | 0 => 0
  | k + 1 => bsN k + fX1_cellsBeside (nI k)
theorem bsN_61 : bsN 61 = 312 := by decide +kernel
theorem tot_le {f g : N1} {o : Nat} (hg : ∀ b, b < 12 → g b = f (o + b)) (hb : ∀ b, b < 12 → 0 ≤ (f (o + b)).toInt ∧ (f (o + b)).toInt ≤ 100000000) : ∀ n, n ≤ 12 → (0 ≤ (bkN f o n).toInt ∧ (bkN f o n).toInt ≤ (fX4_totalN g n).toInt) ∧ (fX4_totalN g n).toInt ≤ 100000000 * (n : Int) := by
  intro n
  induction n with
  | zero =>
    intro _
    exact ⟨⟨(by decide : 0 ≤ (0 : Int32).toInt), (by decide : (0 : Int32).toInt ≤ (0 : Int32).toInt)⟩, (by decide : (0 : Int32).toInt ≤ 100000000 * ((0 : Nat) : Int))⟩
  | succ n ih =>
    intro hn
    obtain ⟨⟨h1, h2⟩, h3⟩ := ih (by omega)
    have h4 := hb n (by omega)
    unfold bkN fX4_totalN
    rw [nI_c (show n < 1000 by omega), hg n (by omega)]
    have e1 : (fX4_totalN g n + f (o + n)).toInt = (fX4_totalN g n).toInt + (f (o + n)).toInt := ti_add (by omega) (by omega)
    rw [e1]
    by_cases h5 : f (13 + n) = (-5)
    · rw [if_pos h5, Int32.add_zero]
      omega
    · rw [if_neg h5, ti_add (by omega) (by omega)]
      omega
theorem tot_more {f g : N1} {o : Nat} (hg : ∀ b, b < 12 → g b = f (o + b)) (hb : ∀ b, b < 12 → 0 ≤ (f (o + b)).toInt ∧ (f (o + b)).toInt ≤ 100000000) {e : Nat} (he : e ≤ 12) : ∀ n, e ≤ n → n ≤ 12 → (fX4_totalN g e).toInt ≤ (fX4_totalN g n).toInt := by
  intro n
  induction n with
  | zero => intro h _; rw [show e = 0 by omega]; exact Int.le_refl _
  | succ n ih =>
    intro h1 h2
    by_cases h3 : e = n + 1
    · rw [h3]; exact Int.le_refl _
    · have h4 := ih (by omega) (by omega)
      have h5 := hb n (by omega)
      have h6 := (tot_le hg hb n (by omega)).2
      have h7 := (tot_le hg hb n (by omega)).1
      have e1 : (fX4_totalN g (n + 1)).toInt = (fX4_totalN g n).toInt + (f (o + n)).toInt := by
        show (fX4_totalN g n + g (nI n).toNatClampNeg).toInt = _
        rw [nI_c (show n < 1000 by omega), hg n (by omega)]
        exact ti_add (by omega) (by omega)
      rw [e1]
      omega
theorem not_gt {x y : Int32} (h : y.toInt ≤ x.toInt) : ¬ x < y := by
  rw [Int32.lt_iff_toInt_lt]
  omega
section
variable {S : So} {f : N1} {M : Nat}
theorem wl_tot {o q : Nat} (hG : gG M f) (hM : M ≤ 100) {e : Nat} (he : e ≤ 12) (ho : o = 49 ∨ o = 61) (hq : ∀ b, b < 12 → cls f q b = f (o + b)) : ¬ fX4_total (cls f q) < bkN f o e := by
  have hb : ∀ b, b < 12 → 0 ≤ (f (o + b)).toInt ∧ (f (o + b)).toInt ≤ 100000000 := fun b hb => by
    have := hG.2.2.2.1 (o + b) (by omega) (by omega)
    omega
  refine not_gt ?_
  have h1 := (tot_le hq hb e he).1
  have h2 := tot_more hq hb he 12 he (Nat.le_refl 12)
  show (bkN f o e).toInt ≤ (fX4_totalN (cls f q) 12).toInt
  omega
theorem wl_8 (hG : gG M f) (hM : M ≤ 100) (hS : oS S = cls f) {e : Nat} (he : e ≤ 12) : ¬ an_count S 8 < bkN f 49 e := by
  rw [ct_8 hS]
  exact wl_tot hG hM he (Or.inl rfl) (fun b hb => cls_3 hb)
theorem wl_9 (hG : gG M f) (hM : M ≤ 100) (hS : oS S = cls f) {e : Nat} (he : e ≤ 12) : ¬ an_count S 9 < bkN f 61 e := by
  rw [ct_9 hS]
  exact wl_tot hG hM he (Or.inr rfl) (fun b hb => cls_4 hb)
theorem on_e (hF : gF f) {e : Nat} (he : e ≤ 12) (h12 : f 12 = nI e) : onN f e = onN f 12 := by
  have h : ∀ n, e + n ≤ 12 → onN f (e + n) = onN f e := by
    intro n
    induction n with
    | zero => intro _; rfl
    | succ n ih =>
      intro hn
      show onN f (e + n) + (if f (13 + (e + n)) = (-5) then 0 else 1) = onN f e
      rw [if_pos (hF.2.2.1 (e + n) (by omega) (by rw [h12, toI (by omega)]; omega)), ih (by omega), Nat.add_zero]
  have := h (12 - e) (by omega)
  rw [show e + (12 - e) = 12 by omega] at this
  exact this.symm
theorem wl_on (hG : gG M f) (hS : oS S = cls f) {e : Nat} (he : e ≤ 12) (h12 : f 12 = nI e) : nI (onN f e) = an_count S 0 := by
  rw [ct_0 hS, on_e hG.1 he h12]
theorem wl_76 (hG : gG M f) (hS : oS S = cls f) : ¬ an_count S 6 < an_count S 7 := by
  rw [ct_6 hS, ct_7 hS]
  exact not_gt hG.2.2.2.2.2.2.2.1
theorem wl_57 (hG : gG M f) (hS : oS S = cls f) : ¬ an_count S 7 < an_count S 5 := by
  rw [ct_5 hS, ct_7 hS]
  exact not_gt hG.2.2.2.2.2.2.1
theorem wl_71 (hG : gG M f) (hS : oS S = cls f) {e : Nat} (he : e ≤ 12) (h12 : f 12 = nI e) : ¬ an_count S 1 - nI (onN f e) < an_count S 7 := by
  rw [ct_1 hS, ct_7 hS, h12]
  have h1 := onN_le f e
  have h5 := hG.2.2.2.2.2.2.2.2.2.1
  rw [h12, ← on_e hG.1 he h12] at h5
  have e1 := toI (show e < 1000 by omega)
  have e2 := toI (show onN f e < 1000 by omega)
  refine not_gt ?_
  rw [ti_sub (by omega) (by omega)]
  omega
theorem wl_n {k : Nat} (hG : gG M f) (hS : oS S = cls f) (hk : k < 12) : 0 ≤ an_ball S (nI k) 0 ↔ ¬ f (13 + k) = (-5) := by
  constructor
  · intro h h5
    rw [bal_no hS (no_b hk h5)] at h
    exact absurd h (by decide)
  · intro h5
    rw [bal_0 hS hk h5]
    obtain ⟨c, hc, e⟩ := vin_nI ((hG.1.1.2.1 k hk).resolve_right h5)
    rw [e, Int32.le_iff_toInt_le, toI (by omega), Int32.toInt_zero]
    omega
theorem wl_un {k : Nat} {wt : Int32} (hG : gG M f) (hS : oS S = cls f) (hk : k < 12) (h : ¬ 0 ≤ an_ball S (nI k) 0) : an_ball S (nI k) wt = (-1) := by
  by_cases h5 : f (13 + k) = (-5)
  · exact bal_no hS (no_b hk h5)
  · exact absurd ((wl_n hG hS hk).mpr h5) h
theorem wl_at {k : Nat} (hG : gG M f) (hS : oS S = cls f) (hk : k < 12) (h : 0 ≤ an_ball S (nI k) 0) : an_ofCell S (an_ball S (nI k) 0) 2 = nI k := by
  have h5 := (wl_n hG hS hk).mp h
  obtain ⟨c, hc, e⟩ := vin_nI ((hG.1.1.2.1 k hk).resolve_right h5)
  rw [bal_0 hS hk h5, e, ofc_2 hS hc, bo_one hG.1.2.1 hc hk e]
theorem wl_ev {k : Nat} (hG : gG M f) (hk : k < 12) (h5 : ¬ f (13 + k) = (-5)) : (k : Int) < (f 12).toInt := by
  obtain ⟨c, hc, e⟩ := vin_nI ((hG.1.1.2.1 k hk).resolve_right h5)
  exact ever_lt hG.1.2.2.1 hk hc e
theorem wl_v {k : Nat} (hG : gG M f) (hS : oS S = cls f) (hk : k < 12) (h : 0 ≤ an_ball S (nI k) 0) : ¬ an_ball S (nI k) 1 < 1 ∧ ¬ 20 < an_ball S (nI k) 1 := by
  have h5 := (wl_n hG hS hk).mp h
  rw [bal_1 hS hk h5]
  have h6 := (hG.2.2.2.2.1 k hk).1 (wl_ev hG hk h5)
  have e1 : (1 : Int32).toInt = 1 := rfl
  have e2 : (20 : Int32).toInt = 20 := rfl
  exact ⟨not_gt (by rw [e1]; exact h6.1), not_gt (by rw [e2]; exact h6.2)⟩
/-- the sums of the balls that are there grow -/
theorem ac_y {k : Nat} (hG : gG M f) (hS : oS S = cls f) (hk : k < 12) (h : 0 ≤ an_ball S (nI k) 0) : nI (onN f k) + 1 = nI (onN f (k + 1)) ∧ bkN f 49 k + an_ball S (nI k) 3 = bkN f 49 (k + 1) ∧ bkN f 61 k + an_ball S (nI k) 4 = bkN f 61 (k + 1) := by
  have h5 := (wl_n hG hS hk).mp h
  have h1 := onN_le f k
  rw [bal_3 hS hk h5, bal_4 hS hk h5]
  refine ⟨?_, ?_, ?_⟩
  · show _ = nI (onN f k + (if f (13 + k) = (-5) then 0 else 1))
    rw [if_neg h5]
    exact nI_s (by omega)
  · show _ = bkN f 49 k + (if f (13 + k) = (-5) then 0 else f (49 + k))
    rw [if_neg h5]
  · show _ = bkN f 61 k + (if f (13 + k) = (-5) then 0 else f (61 + k))
    rw [if_neg h5]
theorem ac_n {k : Nat} (hG : gG M f) (hS : oS S = cls f) (hk : k < 12) (h : ¬ 0 ≤ an_ball S (nI k) 0) : nI (onN f k) + 0 = nI (onN f (k + 1)) ∧ bkN f 49 k + 0 = bkN f 49 (k + 1) ∧ bkN f 61 k + 0 = bkN f 61 (k + 1) := by
  have h5 : f (13 + k) = (-5) := Classical.byContradiction fun q => h ((wl_n hG hS hk).mpr q)
  refine ⟨?_, ?_, ?_⟩
  · show _ = nI (onN f k + (if f (13 + k) = (-5) then 0 else 1))
    rw [if_pos h5, Int32.add_zero]
    rfl
  · show _ = bkN f 49 k + (if f (13 + k) = (-5) then 0 else f (49 + k))
    rw [if_pos h5]
  · show _ = bkN f 61 k + (if f (13 + k) = (-5) then 0 else f (61 + k))
    rw [if_pos h5]
/-! cells -/
theorem fin_w : ∀ c : Fin 61, fX1_cellAt (fX1_columnOf (nI c.val) + 4 - 4) (fX1_rowOf (nI c.val) + 4 - 4) = nI c.val ∧ ¬ 5 ≤ (fX1_columnOf (nI c.val) + 4 - 4) + (fX1_rowOf (nI c.val) + 4 - 4) ∧ ¬ (fX1_columnOf (nI c.val) + 4 - 4) + (fX1_rowOf (nI c.val) + 4 - 4) ≤ (-5) ∧ (fX1_cornerOf (nI c.val) < 0 ∧ ¬ fX1_cellsBeside (nI c.val) = 3 ∨ ¬ fX1_cornerOf (nI c.val) < 0 ∧ fX1_cellsBeside (nI c.val) = 3) := by decide +kernel
theorem wc_cell {k : Nat} (hk : k < 61) : an_cell S (an_ofCell S (nI k) 0 - 4) (an_ofCell S (nI k) 1 - 4) = nI k := by
  rw [ofc_0 hk, ofc_1 hk]
  exact (fin_w ⟨k, hk⟩).1
theorem wc_s1 {k : Nat} (hk : k < 61) : ¬ 5 ≤ (an_ofCell S (nI k) 0 - 4) + (an_ofCell S (nI k) 1 - 4) := by
  rw [ofc_0 hk, ofc_1 hk]
  exact (fin_w ⟨k, hk⟩).2.1
theorem wc_s2 {k : Nat} (hk : k < 61) : ¬ (an_ofCell S (nI k) 0 - 4) + (an_ofCell S (nI k) 1 - 4) ≤ (-5) := by
  rw [ofc_0 hk, ofc_1 hk]
  exact (fin_w ⟨k, hk⟩).2.2.1
theorem wc_3n {k : Nat} (hk : k < 61) (h : an_ofCell S (nI k) 3 < 0) : ¬ an_ofCell S (nI k) 4 = 3 := by
  rw [ofc_3 hk] at h
  rw [ofc_4 hk]
  rcases (fin_w ⟨k, hk⟩).2.2.2 with q | q
  · exact q.2
  · exact absurd h q.1
theorem wc_3y {k : Nat} (hk : k < 61) (h : ¬ an_ofCell S (nI k) 3 < 0) : an_ofCell S (nI k) 4 = 3 := by
  rw [ofc_3 hk] at h
  rw [ofc_4 hk]
  rcases (fin_w ⟨k, hk⟩).2.2.2 with q | q
  · exact absurd q.1 h
  · exact q.2
theorem wc_on {k : Nat} (hS : oS S = cls f) (hk : k < 61) (h : ¬ an_ofCell S (nI k) 2 < 0) : an_ball S (an_ofCell S (nI k) 2) 0 = nI k := by
  rw [ofc_2 hS hk] at h ⊢
  rcases bo_spec f k with ⟨h1, -⟩ | ⟨j, h1, h2, h3⟩
  · rw [h1] at h
    exact absurd (by decide) h
  · rw [h2, bal_0 hS h1 (by rw [h3]; exact nI_no (by omega)), h3]
theorem wc_b {k : Nat} (hk : k < 61) : bsN k + an_ofCell S (nI k) 4 = bsN (k + 1) := by
  rw [ofc_4 hk]
  rfl
end
