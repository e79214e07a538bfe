/-! set, undo, keep, restore, texts, and what is told, side by side (wip/whole/gen/p36.lean) -/
section SM
variable {hs : Int32} {σ σn : N2} {n : Int32} {o : Nat} {η : Nat → N2} {t μ : N2} {sp : UInt32}
theorem s_set1 {k : Nat} {vl : Int32} (R : REL hs (cls (μ 0)) σn n o η t μ) (hk : k < 3) (h1 : gK vl) (h2 : k = 1 ∨ ¬ vl = 100) : (if (cls (μ 0) 6 k) = vl then (((-5), (cls (μ 0)), n, o, η) : Int32 × N2 × Int32 × Nat × (Nat → N2)) else (cls (μ 0) 6 k, u2 (cls (μ 0)) 6 k vl, (fX2_record n o η (cls (μ 0))).1, (fX2_record n o η (cls (μ 0))).2.1, (fX2_record n o η (cls (μ 0))).2.2)).1 = (if (μ 0 k) = vl then (((-5), μ) : Int32 × N2) else (((fX7_acted (u2 (fX7_remember μ sp) 0 k vl) sp (μ 0 k)).1, (fX7_acted (u2 (fX7_remember μ sp) 0 k vl) sp (μ 0 k)).2))).1 ∧
    REL hs (if (cls (μ 0) 6 k) = vl then (((-5), (cls (μ 0)), n, o, η) : Int32 × N2 × Int32 × Nat × (Nat → N2)) else (cls (μ 0) 6 k, u2 (cls (μ 0)) 6 k vl, (fX2_record n o η (cls (μ 0))).1, (fX2_record n o η (cls (μ 0))).2.1, (fX2_record n o η (cls (μ 0))).2.2)).2.1 σn (if (cls (μ 0) 6 k) = vl then (((-5), (cls (μ 0)), n, o, η) : Int32 × N2 × Int32 × Nat × (Nat → N2)) else (cls (μ 0) 6 k, u2 (cls (μ 0)) 6 k vl, (fX2_record n o η (cls (μ 0))).1, (fX2_record n o η (cls (μ 0))).2.1, (fX2_record n o η (cls (μ 0))).2.2)).2.2.1 (if (cls (μ 0) 6 k) = vl then (((-5), (cls (μ 0)), n, o, η) : Int32 × N2 × Int32 × Nat × (Nat → N2)) else (cls (μ 0) 6 k, u2 (cls (μ 0)) 6 k vl, (fX2_record n o η (cls (μ 0))).1, (fX2_record n o η (cls (μ 0))).2.1, (fX2_record n o η (cls (μ 0))).2.2)).2.2.2.1 (if (cls (μ 0) 6 k) = vl then (((-5), (cls (μ 0)), n, o, η) : Int32 × N2 × Int32 × Nat × (Nat → N2)) else (cls (μ 0) 6 k, u2 (cls (μ 0)) 6 k vl, (fX2_record n o η (cls (μ 0))).1, (fX2_record n o η (cls (μ 0))).2.1, (fX2_record n o η (cls (μ 0))).2.2)).2.2.2.2 t (if (μ 0 k) = vl then (((-5), μ) : Int32 × N2) else (((fX7_acted (u2 (fX7_remember μ sp) 0 k vl) sp (μ 0 k)).1, (fX7_acted (u2 (fX7_remember μ sp) 0 k vl) sp (μ 0 k)).2))).2 := by
  obtain ⟨hF, hN⟩ := R.2.1
  rw [cls_6 hk]
  by_cases h3 : μ 0 k = vl
  · rw [if_pos h3, if_pos h3]
    exact ⟨rfl, R⟩
  · rw [if_neg h3, if_neg h3, cls_u6 hk]
    exact ⟨rfl, act_u (sp := sp) R (fun i hi => u2_row hi) u2_self ⟨gF_set hF hk h1 h2, gN_upd hN (by omega)⟩⟩
theorem s_set {wh vl : Int32} (R : REL hs σ σn n o η t μ) : (fX6_set hs σ n o η wh vl).1 = (fX7_set μ sp wh vl).1 ∧ REL hs (fX6_set hs σ n o η wh vl).2.1 σn (fX6_set hs σ n o η wh vl).2.2.1 (fX6_set hs σ n o η wh vl).2.2.2.1 (fX6_set hs σ n o η wh vl).2.2.2.2 t (fX7_set μ sp wh vl).2 := by
  have hσ := R.1
  subst hσ
  have e0 : (0 : Int64).toInt = 0 := rfl
  have e2 : (2 : Int64).toInt = 2 := rfl
  have e50 : (50 : Int64).toInt = 50 := rfl
  have e99 : (99 : Int64).toInt = 99 := rfl
  have e100 : (100 : Int64).toInt = 100 := rfl
  have f3 : (3 : Int32).toInt = 3 := rfl
  have f50 : (50 : Int32).toInt = 50 := rfl
  have f99 : (99 : Int32).toInt = 99 := rfl
  have f100 : (100 : Int32).toInt = 100 := rfl
  unfold fX6_set fX7_set
  by_cases h1 : wh < 0
  · have q : fX7_in wh.toInt64 0 2 = 0 := by rw [in_iff, e0, e2]; rw [Int32.lt_iff_toInt_lt, Int32.toInt_zero] at h1; omega
    rw [if_pos h1, if_pos q]
    exact ⟨rfl, R⟩
  · rw [if_neg h1]
    by_cases h2 : wh < 3
    · have q : ¬ fX7_in wh.toInt64 0 2 = 0 := by rw [in_iff, e0, e2]; rw [Int32.lt_iff_toInt_lt, Int32.toInt_zero] at h1; rw [Int32.lt_iff_toInt_lt, f3] at h2; omega
      rw [if_pos h2, if_neg q]
      obtain ⟨k, hk, rfl⟩ : ∃ k, k < 3 ∧ wh = nI k := by
        rw [Int32.lt_iff_toInt_lt, Int32.toInt_zero] at h1
        rw [Int32.lt_iff_toInt_lt, f3] at h2
        exact vin_nI (vp_in_iff.mpr ⟨by omega, by omega⟩)
      rw [nI_c (show k < 1000 by omega)]
      have s0 : sT 0 k = 50 := by
        match k, hk with
        | 0, _ => rfl
        | 1, _ => rfl
        | 2, _ => rfl
      have s1 : sT 1 k = if k = 1 then 100 else 99 := by
        match k, hk with
        | 0, _ => rfl
        | 1, _ => rfl
        | 2, _ => rfl
      have sk : (nI k = 1) = (k = 1) := by
        match k, hk with
        | 0, _ => decide
        | 1, _ => decide
        | 2, _ => decide
      rw [s0, s1]
      simp only [sk]
      by_cases hk1 : k = 1
      · rw [if_pos hk1, if_pos hk1]
        by_cases h3 : vl < 50
        · have q3 : fX7_in vl.toInt64 50 100 = 0 := by rw [in_iff, e50, e100]; rw [Int32.lt_iff_toInt_lt, f50] at h3; omega
          rw [if_pos h3, if_pos q3]
          exact ⟨rfl, R⟩
        · rw [if_neg h3]
          by_cases h4 : vl ≤ 100
          · have q4 : ¬ fX7_in vl.toInt64 50 100 = 0 := by rw [in_iff, e50, e100]; rw [Int32.lt_iff_toInt_lt, f50] at h3; rw [Int32.le_iff_toInt_le, f100] at h4; omega
            rw [if_pos h4, if_neg q4]
            exact s_set1 R hk (by unfold gK; rw [Int32.lt_iff_toInt_lt, f50] at h3; rw [Int32.le_iff_toInt_le, f100] at h4; omega) (Or.inl hk1)
          · have q4 : fX7_in vl.toInt64 50 100 = 0 := by rw [in_iff, e50, e100]; rw [Int32.le_iff_toInt_le, f100] at h4; omega
            rw [if_neg h4, if_pos q4]
            exact ⟨rfl, R⟩
      · rw [if_neg hk1, if_neg hk1]
        by_cases h3 : vl < 50
        · have q3 : fX7_in vl.toInt64 50 99 = 0 := by rw [in_iff, e50, e99]; rw [Int32.lt_iff_toInt_lt, f50] at h3; omega
          rw [if_pos h3, if_pos q3]
          exact ⟨rfl, R⟩
        · rw [if_neg h3]
          by_cases h4 : vl ≤ 99
          · have q4 : ¬ fX7_in vl.toInt64 50 99 = 0 := by rw [in_iff, e50, e99]; rw [Int32.lt_iff_toInt_lt, f50] at h3; rw [Int32.le_iff_toInt_le, f99] at h4; omega
            rw [if_pos h4, if_neg q4]
            refine s_set1 R hk (by unfold gK; rw [Int32.lt_iff_toInt_lt, f50] at h3; rw [Int32.le_iff_toInt_le, f99] at h4; omega) (Or.inr fun q9 => ?_)
            rw [q9, Int32.le_iff_toInt_le, f99, f100] at h4
            omega
          · have q4 : fX7_in vl.toInt64 50 99 = 0 := by rw [in_iff, e50, e99]; rw [Int32.le_iff_toInt_le, f99] at h4; omega
            rw [if_neg h4, if_pos q4]
            exact ⟨rfl, R⟩
    · have q : fX7_in wh.toInt64 0 2 = 0 := by rw [in_iff, e0, e2]; rw [Int32.lt_iff_toInt_lt, f3] at h2; omega
      rw [if_neg h2, if_pos q]
      exact ⟨rfl, R⟩
theorem s_undo (R : REL hs σ σn n o η t μ) : (fX6_undo hs σ n o η).1 = (fX7_undo μ sp).1 ∧ REL hs (fX6_undo hs σ n o η).2.1 σn (fX6_undo hs σ n o η).2.2 o η t (fX7_undo μ sp).2 := by
  obtain ⟨hσ, hG, hT, hh, hS, ⟨hH, hn, hi⟩, hX⟩ := R
  have hq0 := hH.1
  have hq1 := hH.2
  obtain ⟨q, hq, e⟩ : ∃ q : Nat, q ≤ 4 ∧ μ 9 0 = nI q := ⟨(μ 9 0).toInt.toNat, by omega, of_toI (by omega) (by omega)⟩
  have et : (μ 9 0).toInt = (q : Int) := by rw [e, toI (by omega)]
  by_cases hz : q = 0
  · subst hz
    have e6 : fX6_undo hs σ n o η = ((-5), σ, n) := by
      rw [hn, e]
      rfl
    have e7 : fX7_undo μ sp = ((-5), μ) := by
      unfold fX7_undo
      rw [e, if_pos (by rfl)]
    rw [e6, e7]
    exact ⟨rfl, hσ, hG, hT, hh, hS, ⟨hH, hn, hi⟩, hX⟩
  · obtain ⟨p, rfl⟩ : ∃ p, q = p + 1 := ⟨q - 1, by omega⟩
    have em : nI (p + 1) - 1 = nI p := by rw [← nI_1, Int32.add_sub_cancel]
    have hlt : ¬ nI (p + 1) < 1 := by
      rw [Int32.lt_iff_toInt_lt, toI (by omega)]
      have e4 : (1 : Int32).toInt = 1 := rfl
      omega
    have hle : nI (p + 1) ≤ 4 := by
      rw [Int32.le_iff_toInt_le, toI (by omega)]
      have e4 : (4 : Int32).toInt = 4 := rfl
      omega
    have ne0 : ¬ nI (p + 1) = 0 := by
      intro h
      have := congrArg Int32.toInt h
      rw [toI (by omega), Int32.toInt_zero] at this
      omega
    have e6 : fX6_undo hs σ n o η = (nI p, η ((p + o) % 4), nI p) := by
      unfold fX6_undo fX2_takeBack
      rw [hn, e, if_neg hlt, if_pos hle, em, nI_c (by omega)]
      rfl
    have e7 : fX7_undo μ sp = (nI p, udS μ) := by
      unfold fX7_undo
      rw [e, if_neg ne0, em]
    have u0 : ∀ j, j < 73 → hst μ p j = (udS μ) 0 j := by
      intro j hj
      unfold udS hst
      rw [up_at, e, em, nI_c (by omega)]
      unfold udN
      rw [if_pos hj]
    have ur : ∀ i, ¬ i = 0 → ¬ i = 9 → (udS μ) i = μ i := fun i h0 h9 => by
      unfold udS
      rw [up_ne h0, u2_row h9]
    have u9 : ∀ j, ¬ j = 0 → (udS μ) 9 j = μ 9 j := fun j hj => by
      unfold udS
      rw [up_ne (by decide), u2_at, if_neg hj]
    have u90 : (udS μ) 9 0 = nI p := by
      unfold udS
      rw [up_ne (by decide), u2_at, if_pos rfl, e, em]
    have hp := hi p (by rw [et]; omega)
    rw [e6, e7]
    refine ⟨rfl, hp.1.trans (cls_same u0), gM_same u0 hp.2, ?_, ?_, ?_, ⟨?_, u90.symm, fun i h => ?_⟩, ?_⟩
    · show gTab (udS μ)
      unfold gTab
      rw [ur 5 (by decide) (by decide), ur 6 (by decide) (by decide), ur 7 (by decide) (by decide)]
      exact hT
    · show hs = (udS μ) 9 1
      rw [u9 1 (by decide)]
      exact hh
    · show (0 ≤ ((udS μ) 4 12).toInt ∧ ((udS μ) 4 12).toInt ≤ 12) ∧ (¬ (udS μ) 9 1 = 0 → σn = cls ((udS μ) 4) ∧ gM ((udS μ) 4))
      rw [u9 1 (by decide), ur 4 (by decide) (by decide)]
      exact hS
    · unfold gH
      show 0 ≤ ((udS μ) 9 0).toInt ∧ ((udS μ) 9 0).toInt ≤ 4
      rw [u90, toI (by omega)]
      omega
    · have h : (i : Int) < ((udS μ) 9 0).toInt := h
      rw [u90, toI (by omega)] at h
      have eh : hst (udS μ) i = hst μ i := by
        unfold hst
        rw [ur 3 (by decide) (by decide)]
      show η ((i + o) % 4) = cls (hst (udS μ) i) ∧ gM (hst (udS μ) i)
      rw [eh]
      exact hi i (by rw [et]; omega)
    · show RTx t (udS μ)
      unfold RTx gT
      rw [u9 10 (by decide), ur 8 (by decide) (by decide)]
      exact hX
theorem felt_le {f : N1} : ∀ k : Nat, k ≤ 12 → fX4_feltN (cls f) k = ofN f k := by
  intro k
  induction k with
  | zero => intro _; rfl
  | succ k ih =>
    intro hk
    unfold fX4_feltN ofN
    rw [nI_c (by omega), cls_0 (show k < 12 by omega), ix13 (show k < 12 by omega), ih (by omega), Int32.add_zero]
theorem felt_gt {f : N1} (hR : gR f) : ∀ j : Nat, ∀ k : Nat, (f 12).toInt ≤ (k : Int) → k + j ≤ 12 → ofN f (k + j) = ofN f k := by
  intro j
  induction j with
  | zero => intro k _ _; rfl
  | succ j ih =>
    intro k h1 h2
    show (if f (13 + nI (k + j)).toNatClampNeg = (-5) then ofN f (k + j) + 0 else ofN f (k + j) + 1) = ofN f k
    rw [ix13 (show k + j < 12 by omega), if_pos (hR (k + j) (by omega) (by omega)), Int32.add_zero]
    exact ih k h1 (by omega)
theorem felt_c {μ : N2} {sp : UInt32} (hF : gF (μ 0)) : fX4_ballsOnFelt (cls (μ 0)) = fX7_onFelt μ sp := by
  have h12 := hF.1.1
  have e : ((μ 0 12).toNatClampNeg : Int) = (μ 0 12).toInt := by
    rw [Int32.toNatClampNeg]
    omega
  unfold fX4_ballsOnFelt fX7_onFelt
  rw [felt_le 12 (by omega)]
  have := felt_gt hF.2.2.1 (12 - (μ 0 12).toNatClampNeg) (μ 0 12).toNatClampNeg (by omega) (by omega)
  rw [show (μ 0 12).toNatClampNeg + (12 - (μ 0 12).toNatClampNeg) = 12 by omega] at this
  exact this
theorem s_keep (R : REL hs σ σn n o η t μ) : (fX6_keep hs σ σn).1 = (fX7_keep μ sp).1 ∧ REL (fX6_keep hs σ σn).2.1 σ (fX6_keep hs σ σn).2.2 n o η t (fX7_keep μ sp).2 := by
  obtain ⟨hσ, hG, hT, hh, hS, ⟨hH, hn, hi⟩, hX⟩ := R
  unfold fX6_keep fX7_keep
  have k0 : (u2 (va_up μ 4 (fX7_copy (μ 0) (μ 4))) 9 1 1) 0 = μ 0 := rfl
  have k4 : (u2 (va_up μ 4 (fX7_copy (μ 0) (μ 4))) 9 1 1) 4 = μ 0 := rfl
  have k3 : (u2 (va_up μ 4 (fX7_copy (μ 0) (μ 4))) 9 1 1) 3 = μ 3 := rfl
  have k5 : (u2 (va_up μ 4 (fX7_copy (μ 0) (μ 4))) 9 1 1) 5 = μ 5 := rfl
  have k6 : (u2 (va_up μ 4 (fX7_copy (μ 0) (μ 4))) 9 1 1) 6 = μ 6 := rfl
  have k7 : (u2 (va_up μ 4 (fX7_copy (μ 0) (μ 4))) 9 1 1) 7 = μ 7 := rfl
  have k8 : (u2 (va_up μ 4 (fX7_copy (μ 0) (μ 4))) 9 1 1) 8 = μ 8 := rfl
  have k90 : (u2 (va_up μ 4 (fX7_copy (μ 0) (μ 4))) 9 1 1) 9 0 = μ 9 0 := by rw [u2_at, if_neg (by decide)]; rfl
  have k91 : (u2 (va_up μ 4 (fX7_copy (μ 0) (μ 4))) 9 1 1) 9 1 = 1 := by rw [u2_at, if_pos rfl]
  have k910 : (u2 (va_up μ 4 (fX7_copy (μ 0) (μ 4))) 9 1 1) 9 10 = μ 9 10 := by rw [u2_at, if_neg (by decide)]; rfl
  generalize u2 (va_up μ 4 (fX7_copy (μ 0) (μ 4))) 9 1 1 = M at k0 k3 k4 k5 k6 k7 k8 k90 k91 k910 ⊢
  refine ⟨?_, ?_⟩
  · show fX4_ballsOnFelt σ = fX7_onFelt M sp
    rw [hσ, ← k0]
    exact felt_c (by rw [k0]; exact hG.1)
  · show REL 1 σ σ n o η t M
    unfold REL RH RTx gH gT gTab hst
    rw [k0, k3, k4, k5, k6, k7, k8, k90, k91, k910]
    exact ⟨hσ, hG, hT, rfl, ⟨hG.1.1.1, fun _ => ⟨hσ, hG⟩⟩, ⟨hH, hn, hi⟩, hX⟩
theorem s_restore (R : REL hs σ σn n o η t μ) : (fX6_restore hs σ σn n o η).1 = (fX7_restore μ sp).1 ∧ REL hs (fX6_restore hs σ σn n o η).2.1 σn (fX6_restore hs σ σn n o η).2.2.1 (fX6_restore hs σ σn n o η).2.2.2.1 (fX6_restore hs σ σn n o η).2.2.2.2 t (fX7_restore μ sp).2 := by
  have hh := R.2.2.2.1
  have hS := R.2.2.2.2.1
  unfold fX6_restore fX7_restore
  by_cases h1 : μ 9 1 = 0
  · rw [if_pos (hh.trans h1), if_pos h1]
    exact ⟨rfl, R⟩
  · rw [if_neg (fun q => h1 (hh.symm.trans q)), if_neg h1]
    obtain ⟨hn4, hG4⟩ := hS.2 h1
    have m0 : (va_up (fX7_remember μ sp) 0 (fX7_copy ((fX7_remember μ sp) 4) ((fX7_remember μ sp) 0))) 0 = μ 4 := rfl
    have mr : ∀ i, ¬ i = 0 → (va_up (fX7_remember μ sp) 0 (fX7_copy ((fX7_remember μ sp) 4) ((fX7_remember μ sp) 0))) i = (fX7_remember μ sp) i := fun i hi => up_ne hi
    generalize va_up (fX7_remember μ sp) 0 (fX7_copy ((fX7_remember μ sp) 4) ((fX7_remember μ sp) 0)) = M at m0 mr ⊢
    refine ⟨?_, ?_⟩
    · show fX4_ballsOnFelt σn = fX7_onFelt M sp
      rw [hn4, ← m0]
      exact felt_c (by rw [m0]; exact hG4.1)
    · show REL hs σn σn _ _ _ t (acS (acH M))
      have ha := act_u (sp := sp) R mr m0 hG4
      rw [← hn4] at ha
      exact ha
theorem s_type {ch : Int32} (R : REL hs σ σn n o η t μ) : (fX6_type hs t ch).1 = (fX7_type μ sp ch).1 ∧ REL hs σ σn n o η (fX6_type hs t ch).2 (fX7_type μ sp ch).2 := by
  obtain ⟨hσ, hG, hT, hh, hS, hH, ⟨x1, x2, x3⟩⟩ := R
  have y0 := x1.1
  have y1 := x1.2
  obtain ⟨q, hq, e⟩ : ∃ q : Nat, q ≤ 60 ∧ μ 9 10 = nI q := ⟨(μ 9 10).toInt.toNat, by omega, of_toI (by omega) (by omega)⟩
  have f60 : (60 : Int32).toInt = 60 := rfl
  have hlt0 : ¬ nI q < 0 := by
    rw [Int32.lt_iff_toInt_lt, toI (by omega), Int32.toInt_zero]
    omega
  unfold fX6_type fX0_append fX7_type
  rw [x2, e, if_neg hlt0]
  by_cases h1 : q = 60
  · subst h1
    have h2 : ¬ nI 60 < 60 := by decide
    rw [if_neg h2, if_pos (show (nI 60 : Int32) = 60 from rfl), if_pos (show ((0 : Int32), t).1 = 0 from rfl)]
    exact ⟨rfl, hσ, hG, hT, hh, hS, hH, x1, x2, x3⟩
  · have h2 : nI q < 60 := by
      rw [Int32.lt_iff_toInt_lt, toI (by omega), f60]
      omega
    have h3 : ¬ nI q = 60 := by
      intro h
      have := congrArg Int32.toInt h
      rw [toI (by omega), f60] at this
      omega
    rw [if_pos h2, if_neg h3, nI_c (by omega)]
    have ta : (u2 t 0 q ch) 3 0 = nI q := by rw [u2_row (by decide), x2, e]
    have ma : (u2 μ 8 q ch) 9 10 = nI q := by rw [u2_row (by decide), e]
    rw [ta, ma, nI_1]
    have hz : ¬ ((1 : Int32), u2 (u2 t 0 q ch) 3 0 (nI (q + 1))).1 = 0 := show ¬ (1 : Int32) = 0 by decide
    rw [if_neg hz]
    have M9 : ∀ j, ¬ j = 10 → (u2 (u2 μ 8 q ch) 9 10 (nI (q + 1))) 9 j = μ 9 j := fun j hj => by rw [u2_at, if_neg hj, u2_row (by decide)]
    have M10 : (u2 (u2 μ 8 q ch) 9 10 (nI (q + 1))) 9 10 = nI (q + 1) := by rw [u2_at, if_pos rfl]
    have Mr : ∀ i, ¬ i = 8 → ¬ i = 9 → (u2 (u2 μ 8 q ch) 9 10 (nI (q + 1))) i = μ i := fun i h8 h9 => by rw [u2_row h9, u2_row h8]
    have M8 : (u2 (u2 μ 8 q ch) 9 10 (nI (q + 1))) 8 = upd (μ 8) q ch := by rw [u2_row (by decide), u2_self]
    have T0e : (u2 (u2 t 0 q ch) 3 0 (nI (q + 1))) 0 = upd (t 0) q ch := by rw [u2_row (by decide), u2_self]
    have T3 : (u2 (u2 t 0 q ch) 3 0 (nI (q + 1))) 3 0 = nI (q + 1) := by rw [u2_at, if_pos rfl]
    refine ⟨?_, ?_⟩
    · show (u2 (u2 t 0 q ch) 3 0 (nI (q + 1))) 3 0 = (u2 (u2 μ 8 q ch) 9 10 (nI (q + 1))) 9 10
      rw [T3, M10]
    · show REL hs σ σn n o η (u2 (u2 t 0 q ch) 3 0 (nI (q + 1))) (u2 (u2 μ 8 q ch) 9 10 (nI (q + 1)))
      generalize u2 (u2 t 0 q ch) 3 0 (nI (q + 1)) = T at T0e T3 ⊢
      generalize u2 (u2 μ 8 q ch) 9 10 (nI (q + 1)) = M at M9 M10 Mr M8 ⊢
      unfold REL RH RTx gH gT gTab hst at *
      rw [Mr 0 (by decide) (by decide), Mr 3 (by decide) (by decide), Mr 4 (by decide) (by decide), Mr 5 (by decide) (by decide), Mr 6 (by decide) (by decide), Mr 7 (by decide) (by decide), M9 0 (by decide), M9 1 (by decide), M10, M8, T0e, T3, toI (by omega)]
      refine ⟨hσ, hG, hT, hh, hS, hH, ⟨by omega, by omega⟩, rfl, fun j hj => ?_⟩
      by_cases hjq : j = q
      · rw [hjq, upd_at, upd_at]
      · rw [upd_ne hjq, upd_ne hjq]
        exact x3 j hj
theorem s_clearText (R : REL hs σ σn n o η t μ) : (fX6_clearText hs t).1 = (fX7_clearText μ sp).1 ∧ REL hs σ σn n o η (fX6_clearText hs t).2 (fX7_clearText μ sp).2 := by
  obtain ⟨hσ, hG, hT, hh, hS, hH, ⟨x1, x2, x3⟩⟩ := R
  refine ⟨x2, ?_⟩
  show REL hs σ σn n o η (u2 t 3 0 0) (u2 μ 9 10 0)
  have M9 : ∀ j, ¬ j = 10 → (u2 μ 9 10 0) 9 j = μ 9 j := fun j hj => by rw [u2_at, if_neg hj]
  have M10 : (u2 μ 9 10 0) 9 10 = 0 := by rw [u2_at, if_pos rfl]
  have Mr : ∀ i, ¬ i = 9 → (u2 μ 9 10 0) i = μ i := fun i h9 => by rw [u2_row h9]
  have T0e : (u2 t 3 0 0) 0 = t 0 := by rw [u2_row (by decide)]
  have T3 : (u2 t 3 0 0) 3 0 = 0 := by rw [u2_at, if_pos rfl]
  generalize u2 t 3 0 0 = T at T0e T3 ⊢
  generalize u2 μ 9 10 0 = M at M9 M10 Mr ⊢
  unfold REL RH RTx gH gT gTab hst at *
  rw [Mr 0 (by decide), Mr 3 (by decide), Mr 4 (by decide), Mr 5 (by decide), Mr 6 (by decide), Mr 7 (by decide), Mr 8 (by decide), M9 0 (by decide), M9 1 (by decide), M10, T0e, T3, Int32.toInt_zero]
  exact ⟨hσ, hG, hT, hh, hS, hH, ⟨by omega, by omega⟩, rfl, x3⟩
/-! what is told -/
theorem out_iff {x : Int32} : (fX1_isOut x = 0) = (-4 ≤ x.toInt ∧ x.toInt ≤ 4) := by
  have e1 : ((-4) : Int32).toInt = -4 := rfl
  have e2 : (4 : Int32).toInt = 4 := rfl
  unfold fX1_isOut
  simp only [Int32.lt_iff_toInt_lt, Int32.le_iff_toInt_le, e1, e2]
  by_cases h1 : x.toInt < -4
  · simp [h1]; omega
  · by_cases h2 : x.toInt ≤ 4
    · simp [h1, h2]; omega
    · simp [h1, h2]
theorem fin_at : ∀ r : Fin 9, ∀ q : Fin 9, fX1_cellAt (rI q.val) (rI r.val) = tAt (((9 * ((rI r.val) + 4)) + (rI q.val)) + 4).toNatClampNeg := by decide +kernel
theorem rI_of {x : Int32} (h : -4 ≤ x.toInt ∧ x.toInt ≤ 4) : ∃ k, k < 9 ∧ x = rI k := by
  have e4 : (4 : Int32).toInt = 4 := rfl
  have e : (x + 4).toInt = x.toInt + 4 := by rw [ti_add (by rw [e4]; omega) (by rw [e4]; omega), e4]
  obtain ⟨k, hk, e2⟩ := vin_nI (x := x + 4) (n := 9) (vp_in_iff.mpr ⟨by rw [e]; omega, by rw [e]; omega⟩)
  refine ⟨k, hk, ?_⟩
  unfold rI
  rw [show Int32.ofNat k = x + 4 from e2.symm, Int32.add_sub_cancel]
theorem s_cell {q r : Int32} (R : REL hs σ σn n o η t μ) : fX6_cell hs q r = fX7_cell μ sp q r := by
  have hT := R.2.2.1
  have e0 : ((-4) : Int64).toInt = -4 := rfl
  have e4 : (4 : Int64).toInt = 4 := rfl
  unfold fX6_cell fX7_cell fX7_cellAt
  by_cases h1 : -4 ≤ q.toInt ∧ q.toInt ≤ 4
  · have q1 : ¬ fX7_in q.toInt64 (-4) 4 = 0 := by rw [in_iff, e0, e4]; omega
    rw [if_neg q1]
    by_cases h2 : -4 ≤ r.toInt ∧ r.toInt ≤ 4
    · have q2 : ¬ fX7_in r.toInt64 (-4) 4 = 0 := by rw [in_iff, e0, e4]; omega
      rw [if_neg q2]
      obtain ⟨a, ha, rfl⟩ := rI_of h1
      obtain ⟨b, hb, rfl⟩ := rI_of h2
      have hx := ix_A hb ha
      rw [hT.2.2 _ (by rw [hx.1]; omega)]
      exact fin_at ⟨b, hb⟩ ⟨a, ha⟩
    · have q2 : fX7_in r.toInt64 (-4) 4 = 0 := by rw [in_iff, e0, e4]; omega
      have q3 : ¬ fX1_isOut r = 0 := by rw [out_iff]; exact h2
      rw [if_pos q2]
      unfold fX1_cellAt
      rw [if_neg q3]
      split <;> rfl
  · have q2 : fX7_in q.toInt64 (-4) 4 = 0 := by rw [in_iff, e0, e4]; omega
    have q3 : ¬ fX1_isOut q = 0 := by rw [out_iff]; exact h1
    rw [if_pos q2]
    unfold fX1_cellAt
    rw [if_neg q3]
theorem fin_bes : ∀ c : Fin 61, fX1_cellsBeside (nI c.val) = bdN tabs 0 (nI c.val) 6 := by decide +kernel
theorem bes_tab {c : Nat} (hT : gTab μ) (hc : c < 61) : ∀ k : Nat, k ≤ 6 → bdN μ sp (nI c) k = bdN tabs 0 (nI c) k := by
  intro k
  induction k with
  | zero => intro _; rfl
  | succ k ih =>
    intro hk
    unfold bdN
    rw [ih (by omega), ahead_tab hT (vp_in_nI hc (by decide)) (vp_in_nI (show k < 6 by omega) (by decide))]
    rfl
theorem s_ofCell {ce wt : Int32} (R : REL hs σ σn n o η t μ) : fX6_ofCell hs σ ce wt = fX7_ofCell μ sp ce wt := by
  have hT := R.2.2.1
  have hF := R.2.1.1
  have hσ := R.1
  subst hσ
  unfold fX6_ofCell fX7_ofCell
  by_cases h1 : fX1_isCell ce = 0
  · rw [if_pos h1, if_pos (cell_eq.mpr h1)]
  · rw [if_neg h1, if_neg (fun q => h1 (cell_eq.mp q))]
    obtain ⟨c, hc, rfl⟩ := cell_nI h1
    have g := gm_start ⟨c, hc⟩
    rw [show fX1_columnOf (nI c) = tQ c from g.1, show fX1_rowOf (nI c) = tR c from g.2, nI_c (by omega), hT.1 c hc, hT.2.1 c hc, ballOn_c hc, bo_ref hF hc, corner_tab hT (vp_in_nI hc (by decide)), show fX1_cornerOf (nI c) = coC (nI c) from gm_corner ⟨c, hc⟩, show fX1_cellsBeside (nI c) = bdN tabs 0 (nI c) 6 from fin_bes ⟨c, hc⟩]
    unfold fX7_besides
    rw [bes_tab hT hc 6 (by omega)]
theorem s_ball {bl wt : Int32} (R : REL hs σ σn n o η t μ) : fX6_ball hs σ bl wt = fX7_ball μ sp bl wt := by
  have hF := R.2.1.1
  have hσ := R.1
  subst hσ
  have e0 : (0 : Int64).toInt = 0 := rfl
  have e4 : (4 : Int64).toInt = 4 := rfl
  unfold fX6_ball fX7_ball
  by_cases h1 : fX4_hasBall (cls (μ 0)) bl = 0
  · rw [if_pos h1, if_pos ((ball_eq hF).mpr h1)]
  · rw [if_neg h1, if_neg (fun q => h1 ((ball_eq hF).mp q))]
    obtain ⟨k, hk, rfl, -⟩ := ball_nI h1
    rw [nI_c (show k < 1000 by omega), cls_0 hk, cls_1 hk, cls_2 hk, cls_3 hk, cls_4 hk]
    by_cases h2 : vp_in wt 5
    · have q2 : ¬ fX7_in wt.toInt64 0 4 = 0 := by rw [in_iff, e0, e4]; rw [vp_in_iff] at h2; omega
      rw [if_neg q2]
      obtain ⟨j, hj, rfl⟩ := vin_nI h2
      have fin : ∀ j : Fin 5, ∀ k : Fin 12, ((13 + (12 * (nI j.val))) + (nI k.val)).toNatClampNeg = 13 + 12 * j.val + k.val := by decide +kernel
      rw [show ((13 + (12 * (nI j))) + (nI k)).toNatClampNeg = 13 + 12 * j + k from fin ⟨j, hj⟩ ⟨k, hk⟩]
      match j, hj with
      | 0, _ => rfl
      | 1, _ => rfl
      | 2, _ => rfl
      | 3, _ => rfl
      | 4, _ => rfl
    · have q2 : fX7_in wt.toInt64 0 4 = 0 := by rw [in_iff, e0, e4]; rw [vp_in_iff] at h2; omega
      rw [if_pos q2]
      have hne : ∀ j : Nat, j < 5 → ¬ wt = nI j := fun j hj q => h2 (by rw [q]; exact vp_in_nI hj (by decide))
      have h0 : ¬ wt = 0 := hne 0 (by decide)
      have h1 : ¬ wt = 1 := hne 1 (by decide)
      have h2 : ¬ wt = 2 := hne 2 (by decide)
      have h3 : ¬ wt = 3 := hne 3 (by decide)
      have h4 : ¬ wt = 4 := hne 4 (by decide)
      rw [if_neg h0, if_neg h1, if_neg h2, if_neg h3, if_neg h4]
theorem s_count {wt : Int32} (R : REL hs σ σn n o η t μ) : fX6_count hs σ n o η t wt = fX7_count μ sp wt := by
  obtain ⟨hσ, ⟨hF, hN⟩, hT, hh, hS, hH, hX⟩ := R
  have hn := hH.2.1
  have hx := hX.2.1
  subst hσ
  unfold fX6_count fX7_count
  rw [cls_80, cls_81, cls_82, cls_83, cls_84, cls_85, cls_7 (show 0 < 2 by decide), cls_7 (show 1 < 2 by decide), cls_6 (show 0 < 3 by decide), cls_6 (show 1 < 3 by decide), cls_6 (show 2 < 3 by decide), felt_c (sp := sp) hF, hN.1, hN.2.1, hn, hx]
  by_cases h0 : wt = 0
  · rw [if_pos h0, if_pos h0]
  rw [if_neg h0, if_neg h0]
  by_cases h1 : wt = 1
  · rw [if_pos h1, if_pos h1]
  rw [if_neg h1, if_neg h1]
  by_cases h2 : wt = 2
  · rw [if_pos h2, if_pos h2]
  rw [if_neg h2, if_neg h2]
  by_cases h3 : wt = 3
  · rw [if_pos h3, if_pos h3]
    subst h3
    exact congrArg (μ 0) (by decide)
  rw [if_neg h3, if_neg h3]
  by_cases h4 : wt = 4
  · rw [if_pos h4, if_pos h4]
    subst h4
    exact congrArg (μ 0) (by decide)
  rw [if_neg h4, if_neg h4]
  by_cases h5 : wt = 5
  · rw [if_pos h5, if_pos h5]
  rw [if_neg h5, if_neg h5]
  by_cases h6 : wt = 6
  · rw [if_pos h6, if_pos h6]
    subst h6
    exact congrArg (μ 0) (by decide)
  rw [if_neg h6, if_neg h6]
  by_cases h7 : wt = 7
  · rw [if_pos h7, if_pos h7]
    subst h7
    exact congrArg (μ 0) (by decide)
  rw [if_neg h7, if_neg h7]
  by_cases h8 : wt = 8
  · rw [if_pos h8, if_pos h8]
    subst h8
    exact congrArg (μ 0) (by decide)
  rw [if_neg h8, if_neg h8]
  by_cases h9 : wt = 9
  · rw [if_pos h9, if_pos h9]
    subst h9
    exact congrArg (μ 0) (by decide)
  rw [if_neg h9, if_neg h9]
  by_cases h10 : wt = 10
  · rw [if_pos h10, if_pos h10]
  rw [if_neg h10, if_neg h10]
  by_cases h11 : wt = 11
  · rw [if_pos h11, if_pos h11]
    subst h11
    exact congrArg (μ 0) (by decide)
  rw [if_neg h11, if_neg h11]
  by_cases h12 : wt = 12
  · rw [if_pos h12, if_pos h12]
    subst h12
    exact congrArg (μ 0) (by decide)
  rw [if_neg h12, if_neg h12]
  by_cases h13 : wt = 13
  · rw [if_pos h13, if_pos h13]
    subst h13
    exact congrArg (μ 0) (by decide)
  rw [if_neg h13, if_neg h13]
end SM

