/-! along and best, side by side (wip/whole/gen/p38.lean) -/
def rvN (w : Nat) : Nat := (w + 3) % 6
/-- a cell further: the cell and the direction -/
def nxP (s : Nat × Nat) : Nat × Nat := if ahC (nI s.1) (nI s.2) = (-5) then ((ahC (nI s.1) (tuC (nI s.1) (nI s.2))).toNatClampNeg, (tuC (nI s.1) (nI s.2)).toNatClampNeg) else ((ahC (nI s.1) (nI s.2)).toNatClampNeg, s.2)
def itr : Nat → Nat × Nat → Nat × Nat
  | 0, s => s
  | k + 1, s => nxP (itr k s)
theorem itr_front : ∀ (k : Nat) (s : Nat × Nat), itr (k + 1) s = itr k (nxP s) := by
  intro k
  induction k with
  | zero => intro s; rfl
  | succ k ih =>
    intro s
    show nxP (itr (k + 1) s) = nxP (itr k (nxP s))
    rw [ih]
def okP (s : Nat × Nat) : Prop := s.1 < 61 ∧ s.2 < 6
theorem tu_ah {c w : Nat} (hc : c < 61) (hw : w < 6) (h : ahC (nI c) (nI w) = (-5)) : ¬ ahC (nI c) (tuC (nI c) (nI w)) = (-5) := (fin_tu ⟨c, hc⟩ ⟨w, hw⟩ h).2
/-- a step, with its numbers -/
theorem nxP_cases {s : Nat × Nat} (h : okP s) : (ahC (nI s.1) (nI s.2) = (-5) ∧ ∃ v c2, v < 6 ∧ c2 < 61 ∧ tuC (nI s.1) (nI s.2) = nI v ∧ ahC (nI s.1) (nI v) = nI c2 ∧ nxP s = (c2, v)) ∨ (¬ ahC (nI s.1) (nI s.2) = (-5) ∧ ∃ c2, c2 < 61 ∧ ahC (nI s.1) (nI s.2) = nI c2 ∧ nxP s = (c2, s.2)) := by
  unfold nxP
  by_cases h1 : ahC (nI s.1) (nI s.2) = (-5)
  · obtain ⟨v, hv, ev⟩ := vin_nI (tu_vin h.1 h.2 h1)
    have h3 := tu_ah h.1 h.2 h1
    rw [ev] at h3
    obtain ⟨c2, hc2, ec⟩ := vin_nI (ah_in h.1 hv h3)
    refine Or.inl ⟨h1, v, c2, hv, hc2, ev, ec, ?_⟩
    rw [if_pos h1, ev, ec, nI_c (by omega), nI_c (by omega)]
  · obtain ⟨c2, hc2, ec⟩ := vin_nI (ah_in h.1 h.2 h1)
    refine Or.inr ⟨h1, c2, hc2, ec, ?_⟩
    rw [if_neg h1, ec, nI_c (by omega)]
theorem nxP_ok {s : Nat × Nat} (h : okP s) : okP (nxP s) := by
  rcases nxP_cases h with ⟨-, v, c2, hv, hc2, -, -, e⟩ | ⟨-, c2, hc2, -, e⟩
  · rw [e]; exact ⟨hc2, hv⟩
  · rw [e]; exact ⟨hc2, h.2⟩
theorem itr_ok {s : Nat × Nat} (h : okP s) : ∀ k, okP (itr k s) := by
  intro k
  induction k with
  | zero => exact h
  | succ k ih => exact nxP_ok ih
theorem wk_one {d : N1} {s : Nat × Nat} (h : dW d s.1 s.2) (hs : okP s) : dW (if fX5_cellAhead d = (-5) then fX5_stepAhead (fX5_turnAtBank d) else fX5_stepAhead d) (nxP s).1 (nxP s).2 := by
  rw [dW_ahead h hs.1 hs.2]
  rcases nxP_cases hs with ⟨h1, v, c2, hv, hc2, ev, ec, e⟩ | ⟨h1, c2, hc2, ec, e⟩
  · rw [if_pos h1, e]
    have hb := dW_bank h hs.1 hs.2 h1
    rw [ev, nI_c (by omega)] at hb
    have h4 := dW_step hb hs.1 hv (by rw [ec]; exact nI_no (by omega))
    rw [ec, nI_c (by omega)] at h4
    exact h4
  · rw [if_neg h1, e]
    have h4 := dW_step h hs.1 hs.2 h1
    rw [ec, nI_c (by omega)] at h4
    exact h4
theorem wkN_s {d : N1} {k : Nat} : wkN d (k + 1) = if fX5_cellAhead (wkN d k) = (-5) then fX5_stepAhead (fX5_turnAtBank (wkN d k)) else fX5_stepAhead (wkN d k) := rfl
theorem wk_all {d : N1} {s : Nat × Nat} (h : dW d s.1 s.2) (hs : okP s) : ∀ k, dW (wkN d k) (itr k s).1 (itr k s).2 := by
  intro k
  induction k with
  | zero => exact h
  | succ k ih =>
    rw [wkN_s]
    exact wk_one ih (itr_ok hs k)
theorem fin_rvN : ∀ w : Fin 6, ((nI w.val + 3) - (nI w.val + 3) / 6 * 6) = nI (rvN w.val) ∧ fX1_turned (nI w.val) 3 = nI (rvN w.val) ∧ rvN w.val < 6 := by decide +kernel
theorem fin_back : ∀ c : Fin 61, fX1_cellAt (tQ c.val) (tR c.val) = nI c.val := by decide +kernel
theorem fin_100 : ∀ s : Fin 100, ((1 : Int32) * nI s.val).toNatClampNeg = s.val ∧ ((2 : Int32) * nI s.val).toNatClampNeg = s.val + s.val := by decide +kernel
/-- the reference's step, without a turn -/
theorem al_one {μ : N2} {sp : UInt32} {qs : Int32} {n k : Nat} {s : Nat × Nat} (hT : gTab μ) (hs : okP s) : (if fX7_ahead μ sp (nI s.1) (nI s.2) = (-5) then alN μ sp qs n (k + 1) (fX7_ahead μ sp (nI s.1) (fX7_turned μ sp (nI s.1) (nI s.2))) (fX7_turned μ sp (nI s.1) (nI s.2)) else alN μ sp qs n (k + 1) (fX7_ahead μ sp (nI s.1) (nI s.2)) (nI s.2)) = alN μ sp qs n (k + 1) (nI (nxP s).1) (nI (nxP s).2) := by
  have v1 := vp_in_nI hs.1 (by decide)
  rw [ahead_tab hT v1 (vp_in_nI hs.2 (by decide)), turned_tab hT v1]
  rcases nxP_cases hs with ⟨h1, v, c2, hv, hc2, ev, ec, e⟩ | ⟨h1, c2, hc2, ec, e⟩
  · rw [if_pos h1, ev, ahead_tab hT v1 (vp_in_nI hv (by decide)), ec, e]
  · rw [if_neg h1, ec, e]
theorem alN_s {μ : N2} {sp : UInt32} {qs c d : Int32} {n k : Nat} : alN μ sp qs (n + 1) k c d = if nI k = qs then (if fX7_ahead μ sp c ((d + 3) - (d + 3) / 6 * 6) = (-5) then alN μ sp qs n (k + 1) (fX7_ahead μ sp c (fX7_turned μ sp c ((d + 3) - (d + 3) / 6 * 6))) (fX7_turned μ sp c ((d + 3) - (d + 3) / 6 * 6)) else alN μ sp qs n (k + 1) (fX7_ahead μ sp c ((d + 3) - (d + 3) / 6 * 6)) ((d + 3) - (d + 3) / 6 * 6)) else (if fX7_ahead μ sp c d = (-5) then alN μ sp qs n (k + 1) (fX7_ahead μ sp c (fX7_turned μ sp c d)) (fX7_turned μ sp c d) else alN μ sp qs n (k + 1) (fX7_ahead μ sp c d) d) := rfl
theorem al_run {μ : N2} {sp : UInt32} {qs : Int32} (hT : gTab μ) : ∀ (a b k : Nat) (s : Nat × Nat), okP s → (∀ i, i < a → ¬ nI (k + i) = qs) → alN μ sp qs (a + b) k (nI s.1) (nI s.2) = alN μ sp qs b (k + a) (nI (itr a s).1) (nI (itr a s).2) := by
  intro a
  induction a with
  | zero => intro b k s hs h; rw [Nat.zero_add]; rfl
  | succ a ih =>
    intro b k s hs h
    rw [show a + 1 + b = (a + b) + 1 by omega]
    rw [alN_s, if_neg (show ¬ nI k = qs from h 0 (by omega)), al_one hT hs, ih b (k + 1) (nxP s) (nxP_ok hs) (fun i hi => by rw [show k + 1 + i = k + (i + 1) by omega]; exact h (i + 1) (by omega)), show k + 1 + a = k + (a + 1) by omega, itr_front]
section SM
variable {hs : Int32} {σ σn : N2} {n : Int32} {o : Nat} {η : Nat → N2} {t μ : N2} {sp : UInt32}
theorem s_along {z d : N1} {sp2 : UInt32} {ce di se bk : Int32} (R : REL hs σ σn n o η t μ) : (fX6_along hs z sp2 d ce di se bk).1 = fX7_along μ sp ce di se bk := by
  have hT := R.2.2.1
  have e0 : (0 : Int64).toInt = 0 := rfl
  have e99 : (99 : Int64).toInt = 99 := rfl
  have f99 : (99 : Int32).toInt = 99 := rfl
  unfold fX6_along fX7_along
  by_cases h1 : fX1_isCell ce = 0
  · rw [if_pos h1, if_pos (cell_eq.mpr h1)]
  rw [if_neg h1, if_neg (fun q => h1 (cell_eq.mp q))]
  obtain ⟨c, hc, rfl⟩ := cell_nI h1
  by_cases h2 : fX1_isDirection di = 0
  · rw [if_pos h2, if_pos (dir7_iff.mpr (dir_iff.mp h2))]
  rw [if_neg h2, if_neg (fun q => h2 (dir_iff.mpr (dir7_iff.mp q)))]
  obtain ⟨w, hw, rfl⟩ : ∃ w, w < 6 ∧ di = nI w := by
    rw [dir_iff] at h2
    exact vin_nI (vp_in_iff.mpr ⟨by omega, by omega⟩)
  by_cases h3 : se < 0
  · have q : fX7_in se.toInt64 0 99 = 0 := by rw [in_iff, e0, e99]; rw [Int32.lt_iff_toInt_lt, Int32.toInt_zero] at h3; omega
    rw [if_pos h3, if_pos q]
  rw [if_neg h3]
  by_cases h4 : se ≤ 99
  · have q : ¬ fX7_in se.toInt64 0 99 = 0 := by rw [in_iff, e0, e99]; rw [Int32.lt_iff_toInt_lt, Int32.toInt_zero] at h3; rw [Int32.le_iff_toInt_le, f99] at h4; omega
    rw [if_pos h4, if_neg q]
    obtain ⟨s, hs9, rfl⟩ : ∃ s, s < 100 ∧ se = nI s := by
      rw [Int32.lt_iff_toInt_lt, Int32.toInt_zero] at h3
      rw [Int32.le_iff_toInt_le, f99] at h4
      exact vin_nI (vp_in_iff.mpr ⟨by omega, by omega⟩)
    obtain ⟨m1, m2⟩ := fin_100 ⟨s, hs9⟩
    have m1 : ((1 : Int32) * nI s).toNatClampNeg = s := m1
    have m2 : ((2 : Int32) * nI s).toNatClampNeg = s + s := m2
    rw [nI_c (show s < 1000 by omega)]
    have ok : okP (c, w) := ⟨hc, hw⟩
    have d0 := wk_all (d := fX5_startAt d (nI c) (nI w)) (s := (c, w)) (dW_start hc) ok s
    have ok1 := itr_ok ok s
    have run := al_run (sp := sp) (qs := nI s) hT s
    have nle : ∀ i, i < s → ¬ nI (0 + i) = nI s := fun i hi q => by
      have := nI_inj (by omega) (by omega) q
      omega
    by_cases hb : bk = 0
    · rw [if_pos hb]
      unfold alM
      rw [if_pos hb, m1]
      have h5 := run 0 0 (c, w) ok nle
      show fX1_cellAt _ _ = alN μ sp (nI s) s 0 (nI c) (nI w)
      rw [d0.1, d0.2.1]
      refine Eq.trans ?_ h5.symm
      exact fin_back ⟨_, ok1.1⟩
    · rw [if_neg hb]
      unfold alM
      rw [if_neg hb, m2]
      have h5 := run s 0 (c, w) ok nle
      show fX1_cellAt _ _ = alN μ sp (nI s) (s + s) 0 (nI c) (nI w)
      have h5 : alN μ sp (nI s) (s + s) 0 (nI c) (nI w) = alN μ sp (nI s) s (0 + s) (nI (itr s (c, w)).1) (nI (itr s (c, w)).2) := h5
      rw [h5, Nat.zero_add]
      generalize itr s (c, w) = S0 at d0 ok1
      obtain ⟨c1, w1⟩ := S0
      have hc1 : c1 < 61 := ok1.1
      have hw1 : w1 < 6 := ok1.2
      obtain ⟨rv1, rv2, rv3⟩ := fin_rvN ⟨w1, hw1⟩
      have rv1 : (nI w1 + 3) - (nI w1 + 3) / 6 * 6 = nI (rvN w1) := rv1
      have rv2 : fX1_turned (nI w1) 3 = nI (rvN w1) := rv2
      have d1 : dW (upd (wkN (fX5_startAt d (nI c) (nI w)) s) 2 (fX1_turned ((wkN (fX5_startAt d (nI c) (nI w)) s) 2) 3)) c1 (rvN w1) := by
        rw [d0.2.2, rv2]
        exact dW_dir d0
      have ok2 : okP (c1, rvN w1) := ⟨hc1, rv3⟩
      have d2 := wk_all (s := (c1, rvN w1)) d1 ok2 s
      have okE := itr_ok ok2 s
      rw [d2.1, d2.2.1, show fX1_cellAt (tQ (itr s (c1, rvN w1)).1) (tR (itr s (c1, rvN w1)).1) = nI (itr s (c1, rvN w1)).1 from fin_back ⟨_, okE.1⟩]
      cases s with
      | zero => rfl
      | succ m =>
        rw [alN_s, if_pos rfl, rv1]
        have h6 := al_one (sp := sp) (qs := nI (m + 1)) (n := m) (k := m + 1) (s := (c1, rvN w1)) hT ok2
        dsimp only at h6
        rw [h6, itr_front]
        have okN := nxP_ok ok2
        generalize nxP (c1, rvN w1) = S1 at okN
        have h7 := al_run (sp := sp) (qs := nI (m + 1)) hT m 0 (m + 1 + 1) S1 okN (fun i hi q => by
          have := nI_inj (by omega) (by omega) q
          omega)
        exact h7.symm
  · have q : fX7_in se.toInt64 0 99 = 0 := by rw [in_iff, e0, e99]; rw [Int32.le_iff_toInt_le, f99] at h4; omega
    rw [if_neg h4, if_pos q]
end SM

