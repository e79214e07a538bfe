/-! the relation between the two sides (wip/whole/gen/p34.lean) -/
/-- the totals; balls so far have values -/
def gN (f : N1) : Prop := fX4_total (cls f 3) = f 10 ∧ fX4_total (cls f 4) = f 11 ∧ ∀ b : Nat, b < 12 → (b : Int) < (f 12).toInt → ¬ f (25 + b) = 0
def gM (f : N1) : Prop := gF f ∧ gN f
theorem gM_same {f g : N1} (h : ∀ j, j < 73 → f j = g j) (hf : gM f) : gM g := by
  obtain ⟨⟨hA, hD, hR, hU⟩, hN⟩ := hf
  refine ⟨⟨?_, fun a b ha hb => ?_, fun b hb => ?_, ?_⟩, ?_⟩
  · obtain ⟨a1, a2, a3, a4, a5⟩ := hA
    refine ⟨?_, fun b hb => ?_, fun i hi => ?_, ?_, ?_⟩
    · rw [← h 12 (by omega)]; exact a1
    · rw [← h (13 + b) (by omega)]; exact a2 b hb
    · rw [← h i (by omega)]; exact a3 i hi
    · rw [← h 0 (by omega)]; exact a4
    · rw [← h 2 (by omega)]; exact a5
  · rw [← h (13 + a) (by omega), ← h (13 + b) (by omega)]
    exact hD a b ha hb
  · rw [← h 12 (by omega), ← h (13 + b) (by omega)]
    exact hR b hb
  · unfold gU
    rw [← h 4 (by omega)]
    exact hU
  · unfold gN
    rw [← cls_same h, ← h 10 (by omega), ← h 11 (by omega), ← h 12 (by omega)]
    exact ⟨hN.1, hN.2.1, fun b hb hb2 => by rw [← h (25 + b) (by omega)]; exact hN.2.2 b hb hb2⟩
/-- the i-th state of the reference's history -/
def hst (μ : N2) (i : Nat) : N1 := fun k => μ 3 (73 * i + k)
def RH (n : Int32) (o : Nat) (η : Nat → N2) (μ : N2) : Prop := gH μ ∧ n = μ 9 0 ∧ ∀ i : Nat, (i : Int) < (μ 9 0).toInt → η ((i + o) % 4) = cls (hst μ i) ∧ gM (hst μ i)
def RTx (t μ : N2) : Prop := gT μ ∧ t 3 0 = μ 9 10 ∧ ∀ j : Nat, j < 60 → t 0 j = μ 8 j
def REL (hs : Int32) (σ σn : N2) (n : Int32) (o : Nat) (η : Nat → N2) (t : N2) (μ : N2) : Prop := σ = cls (μ 0) ∧ gM (μ 0) ∧ gTab μ ∧ hs = μ 9 1 ∧ ((0 ≤ (μ 4 12).toInt ∧ (μ 4 12).toInt ≤ 12) ∧ (¬ μ 9 1 = 0 → σn = cls (μ 4) ∧ gM (μ 4))) ∧ RH n o η μ ∧ RTx t μ
theorem toI {k : Nat} (h : k < 1000) : (nI k).toInt = (k : Int) := Int32.toInt_ofNat_of_lt (show k < 2147483648 by omega)
theorem of_toI {x : Int32} {k : Nat} (hk : k < 1000) (h : x.toInt = (k : Int)) : x = nI k := Int32.toInt_inj.mp (h.trans (toI hk).symm)
/-- what an acting method does to the history -/
theorem acX {M : N2} : (∀ i, ¬ i = 3 → ¬ i = 9 → (acS (acH M)) i = M i) ∧ ∀ j, ¬ j = 0 → (acS (acH M)) 9 j = M 9 j := by
  have h1 : (∀ i, ¬ i = 3 → ¬ i = 9 → (acH M) i = M i) ∧ ∀ j, ¬ j = 0 → (acH M) 9 j = M 9 j := by
    unfold acH
    split
    · refine ⟨fun i h3 h9 => ?_, fun j hj => ?_⟩
      · rw [u2_row h9]
        simp [va_up, h3]
      · rw [u2_at, if_neg hj]
        rfl
    · exact ⟨fun _ _ _ => rfl, fun _ _ => rfl⟩
  refine ⟨fun i h3 h9 => ?_, fun j hj => ?_⟩
  · unfold acS
    rw [u2_row h9]
    refine Eq.trans ?_ (h1.1 i h3 h9)
    simp [va_up, h3]
  · unfold acS
    rw [u2_at, if_neg hj]
    exact h1.2 j hj
theorem up_ne {α : Type} {η : Nat → α} {i j : Nat} {x : α} (h : ¬ i = j) : va_up η j x i = η i := by simp [va_up, h]
theorem up_at {α : Type} {η : Nat → α} {j : Nat} {x : α} : va_up η j x j = x := by simp [va_up]
theorem rec_c {n : Int32} {o : Nat} {η : Nat → N2} {μ M : N2} {f : N1} (h : RH n o η μ) (h3 : M 3 = μ 3) (h9 : M 9 0 = μ 9 0) (h1 : M 1 = f) (hf : gM f) : RH (fX2_record n o η (cls f)).1 (fX2_record n o η (cls f)).2.1 (fX2_record n o η (cls f)).2.2 (acS (acH M)) := by
  obtain ⟨hH, hn, hi⟩ := h
  have hq0 := hH.1
  have hq1 := hH.2
  obtain ⟨q, hq, e⟩ : ∃ q : Nat, q ≤ 4 ∧ μ 9 0 = nI q := ⟨(μ 9 0).toInt.toNat, by omega, of_toI (by omega) (by omega)⟩
  have et : (μ 9 0).toInt = (q : Int) := by rw [e, toI (by omega)]
  rw [et] at hi
  by_cases h4 : q = 4
  · subst h4
    have eA : acH M = u2 (va_up M 3 (shN (M 3) 219)) 9 0 3 := by
      unfold acH
      rw [h9, e, if_pos (by rfl)]
      rfl
    have e3 : (acS (acH M)) 3 = svN (shN (μ 3) 219) f 219 73 := by
      rw [eA, ← h3, ← h1]
      unfold acS
      rw [u2_row (by decide), up_at, u2_row (by decide), up_at, u2_row (by decide), u2_at, if_pos rfl, up_ne (by decide)]
      rfl
    have e9 : (acS (acH M)) 9 0 = nI 4 := by
      rw [eA]
      unfold acS
      rw [u2_at, if_pos rfl, u2_at, if_pos rfl]
      rfl
    have er : fX2_record n o η (cls f) = (nI 4, o + 1, va_up η ((3 + (o + 1)) % 4) (cls f)) := by
      rw [hn, e]
      rfl
    rw [er]
    refine ⟨?_, e9.symm, fun i hi4 => ?_⟩
    · unfold gH
      rw [e9, toI (by omega)]
      omega
    · rw [e9, toI (by omega)] at hi4
      show va_up η ((3 + (o + 1)) % 4) (cls f) ((i + (o + 1)) % 4) = _ ∧ _
      by_cases hi3 : i = 3
      · subst hi3
        have e5 : ∀ j, j < 73 → f j = hst (acS (acH M)) 3 j := by
          intro j hj
          unfold hst
          rw [e3]
          unfold svN
          rw [if_pos (by omega)]
          rw [show 73 * 3 + j - 219 = j by omega]
        rw [up_at]
        exact ⟨cls_same e5, gM_same e5 hf⟩
      · rw [up_ne (by omega)]
        have e5 : ∀ j, j < 73 → hst μ (i + 1) j = hst (acS (acH M)) i j := by
          intro j hj
          unfold hst
          rw [e3]
          unfold svN
          rw [if_neg (by omega)]
          unfold shN
          rw [if_pos (by omega)]
          congr 1
          omega
        have h5 := hi (i + 1) (by omega)
        rw [show (i + (o + 1)) % 4 = (i + 1 + o) % 4 by omega]
        exact ⟨h5.1.trans (cls_same e5), gM_same e5 h5.2⟩
  · have hq4 : q < 4 := by omega
    have eA : acH M = M := by
      unfold acH
      rw [h9, e, if_neg]
      intro hx
      have := congrArg Int32.toInt hx
      rw [toI (by omega)] at this
      have e4 : (4 : Int32).toInt = 4 := rfl
      omega
    have e3 : (acS (acH M)) 3 = svN (μ 3) f (73 * q) 73 := by
      rw [eA, ← h3, ← h1]
      unfold acS
      rw [u2_row (by decide), up_at, h9, e, nI_c (by omega)]
    have e9 : (acS (acH M)) 9 0 = nI (q + 1) := by
      rw [eA]
      unfold acS
      rw [u2_at, if_pos rfl, h9, e]
      exact nI_1 q
    have hlt : nI q < 4 := by
      rw [Int32.lt_iff_toInt_lt, toI (by omega)]
      have e4 : (4 : Int32).toInt = 4 := rfl
      omega
    have hge : ¬ nI q < 0 := by
      rw [Int32.lt_iff_toInt_lt, toI (by omega), Int32.toInt_zero]
      omega
    have hle : ¬ 4 ≤ nI q := by
      rw [Int32.le_iff_toInt_le, toI (by omega)]
      have e4 : (4 : Int32).toInt = 4 := rfl
      omega
    have er : fX2_record n o η (cls f) = (nI (q + 1), o, va_up η ((q + o) % 4) (cls f)) := by
      rw [hn, e]
      unfold fX2_record
      rw [if_pos hlt, if_neg hge, if_neg hle, nI_c (by omega), nI_1]
    rw [er]
    refine ⟨?_, e9.symm, fun i hi4 => ?_⟩
    · unfold gH
      rw [e9, toI (by omega)]
      omega
    · rw [e9, toI (by omega)] at hi4
      show va_up η ((q + o) % 4) (cls f) ((i + o) % 4) = _ ∧ _
      by_cases hiq : i = q
      · subst hiq
        have e5 : ∀ j, j < 73 → f j = hst (acS (acH M)) i j := by
          intro j hj
          unfold hst
          rw [e3]
          unfold svN
          rw [if_pos (by omega)]
          congr 1
          omega
        rw [up_at]
        exact ⟨cls_same e5, gM_same e5 hf⟩
      · rw [up_ne (by omega)]
        have e5 : ∀ j, j < 73 → hst μ i j = hst (acS (acH M)) i j := by
          intro j hj
          unfold hst
          rw [e3]
          unfold svN
          rw [if_neg (by omega)]
        have h5 := hi i (by omega)
        exact ⟨h5.1.trans (cls_same e5), gM_same e5 h5.2⟩
/-- an acting method, behind it -/
theorem REL_act {hs : Int32} {σ σn : N2} {n : Int32} {o : Nat} {η : Nat → N2} {t μ M : N2} (R : REL hs σ σn n o η t μ) (h1 : M 1 = μ 0) (hr : ∀ i, 3 ≤ i → i < 9 → M i = μ i) (h9 : ∀ j, j < 2 ∨ j = 10 → M 9 j = μ 9 j) (hg : gM (M 0)) : REL hs (cls (M 0)) σn (fX2_record n o η σ).1 (fX2_record n o η σ).2.1 (fX2_record n o η σ).2.2 t (acS (acH M)) := by
  obtain ⟨hσ, hG, hT, hh, hS, hH, hX⟩ := R
  have e0 := (acX (M := M)).1 0 (by decide) (by decide)
  have hrow : ∀ i, 3 < i → i < 9 → (acS (acH M)) i = μ i := fun i h3 h8 => ((acX (M := M)).1 i (by omega) (by omega)).trans (hr i (by omega) h8)
  have e91 := ((acX (M := M)).2 1 (by decide)).trans (h9 1 (by omega))
  have e910 := ((acX (M := M)).2 10 (by decide)).trans (h9 10 (by omega))
  refine ⟨by rw [e0], by rw [e0]; exact hg, ?_, by rw [e91]; exact hh, ?_, ?_, ?_⟩
  · unfold gTab
    rw [hrow 5 (by omega) (by omega), hrow 6 (by omega) (by omega), hrow 7 (by omega) (by omega)]
    exact hT
  · rw [e91, hrow 4 (by omega) (by omega)]
    exact hS
  · rw [hσ]
    exact rec_c hH (hr 3 (by omega) (by omega)) (h9 0 (by omega)) h1 hG
  · obtain ⟨x1, x2, x3⟩ := hX
    unfold RTx gT
    rw [e910, hrow 8 (by omega) (by omega)]
    exact ⟨x1, x2, x3⟩
/-! the same questions -/
theorem cell_iff {ce : Int32} : fX1_isCell ce = 0 ↔ (ce.toInt < 0 ∨ 60 < ce.toInt) := by
  unfold fX1_isCell
  have e61 : (61 : Int32).toInt = 61 := rfl
  by_cases h1 : ce < 0
  · rw [if_pos h1]
    rw [Int32.lt_iff_toInt_lt, Int32.toInt_zero] at h1
    exact ⟨fun _ => Or.inl h1, fun _ => rfl⟩
  · rw [if_neg h1]
    rw [Int32.lt_iff_toInt_lt, Int32.toInt_zero] at h1
    by_cases h2 : 61 ≤ ce
    · rw [if_pos h2]
      rw [Int32.le_iff_toInt_le, e61] at h2
      exact ⟨fun _ => Or.inr (by omega), fun _ => rfl⟩
    · rw [if_neg h2]
      rw [Int32.le_iff_toInt_le, e61] at h2
      exact ⟨fun q => absurd q (by decide), fun q => by omega⟩
theorem cell7_iff {ce : Int32} : fX7_isCell ce = 0 ↔ (ce.toInt < 0 ∨ 60 < ce.toInt) := by
  have e0 : (0 : Int64).toInt = 0 := rfl
  have e60 : (60 : Int64).toInt = 60 := rfl
  unfold fX7_isCell
  rw [in_iff, e0, e60]
theorem cell_eq {ce : Int32} : fX7_isCell ce = 0 ↔ fX1_isCell ce = 0 := by rw [cell_iff, cell7_iff]
theorem cell_nI {ce : Int32} (h : ¬ fX1_isCell ce = 0) : ∃ c, c < 61 ∧ ce = nI c := by
  rw [cell_iff] at h
  exact vin_nI (vp_in_iff.mpr ⟨by omega, by omega⟩)
theorem bn_iff {bl : Int32} : fX4_isBallNumber bl = 0 ↔ (bl.toInt < 0 ∨ 11 < bl.toInt) := by
  unfold fX4_isBallNumber
  have e12 : (12 : Int32).toInt = 12 := rfl
  by_cases h1 : bl < 0
  · rw [if_pos h1]
    rw [Int32.lt_iff_toInt_lt, Int32.toInt_zero] at h1
    exact ⟨fun _ => Or.inl h1, fun _ => rfl⟩
  · rw [if_neg h1]
    rw [Int32.lt_iff_toInt_lt, Int32.toInt_zero] at h1
    by_cases h2 : 12 ≤ bl
    · rw [if_pos h2]
      rw [Int32.le_iff_toInt_le, e12] at h2
      exact ⟨fun _ => Or.inr (by omega), fun _ => rfl⟩
    · rw [if_neg h2]
      rw [Int32.le_iff_toInt_le, e12] at h2
      exact ⟨fun q => absurd q (by decide), fun q => by omega⟩
theorem ev1 {x : Int32} : (x.toInt64 - 1).toInt = x.toInt - 1 := by
  have b1 := Int32.toInt_lt x
  have b2 := Int32.le_toInt x
  rw [Int64.toInt_sub, Int32.toInt_toInt64, show (1 : Int64).toInt = 1 from rfl]
  exact Int.bmod_eq_of_le (by omega) (by omega)
theorem ball_iff {f : N1} {bl : Int32} : fX4_hasBall (cls f) bl = 0 ↔ ¬ ∃ k, k < 12 ∧ bl = nI k ∧ ¬ f (13 + k) = (-5) := by
  unfold fX4_hasBall
  by_cases h : fX4_isBallNumber bl = 0
  · rw [if_pos h]
    refine ⟨fun _ => ?_, fun _ => rfl⟩
    rintro ⟨k, hk, rfl, -⟩
    exact isBN hk h
  · rw [if_neg h]
    rw [bn_iff] at h
    have hv : vp_in bl 12 := vp_in_iff.mpr ⟨by omega, by omega⟩
    obtain ⟨k, hk, rfl⟩ := vin_nI hv
    rw [nI_c (by omega), cls_0 hk]
    by_cases h5 : f (13 + k) = (-5)
    · rw [if_pos h5]
      refine ⟨fun _ => ?_, fun _ => rfl⟩
      rintro ⟨j, hj, e, h6⟩
      rw [nI_inj (by omega) (by omega) e] at h5
      exact h6 h5
    · rw [if_neg h5]
      exact ⟨fun q => absurd q (by decide), fun q => absurd ⟨k, hk, rfl, h5⟩ q⟩
theorem ball7_iff {μ : N2} {sp : UInt32} {bl : Int32} (hF : gF (μ 0)) : fX7_isBall μ sp bl = 0 ↔ ¬ ∃ k, k < 12 ∧ bl = nI k ∧ ¬ μ 0 (13 + k) = (-5) := by
  have e0 : (0 : Int64).toInt = 0 := rfl
  have h12 := hF.1.1
  unfold fX7_isBall
  by_cases h : fX7_in bl.toInt64 0 (((μ 0 12).toInt64) - 1) = 0
  · rw [if_pos h]
    refine ⟨fun _ => ?_, fun _ => rfl⟩
    rintro ⟨k, hk, rfl, h5⟩
    rw [in_iff, e0, ev1, toI (by omega)] at h
    exact h5 (hF.2.2.1 k hk (by omega))
  · rw [if_neg h]
    rw [in_iff, e0, ev1] at h
    have hv : vp_in bl 12 := vp_in_iff.mpr ⟨by omega, by omega⟩
    obtain ⟨k, hk, rfl⟩ := vin_nI hv
    rw [ix13 hk]
    by_cases h5 : μ 0 (13 + k) = (-5)
    · rw [if_pos h5]
      refine ⟨fun _ => ?_, fun _ => rfl⟩
      rintro ⟨j, hj, e, h6⟩
      rw [nI_inj (by omega) (by omega) e] at h5
      exact h6 h5
    · rw [if_neg h5]
      exact ⟨fun q => absurd q (by decide), fun q => absurd ⟨k, hk, rfl, h5⟩ q⟩
theorem ball_eq {μ : N2} {sp : UInt32} {bl : Int32} (hF : gF (μ 0)) : fX7_isBall μ sp bl = 0 ↔ fX4_hasBall (cls (μ 0)) bl = 0 := by rw [ball_iff, ball7_iff hF]
theorem ball_nI {f : N1} {bl : Int32} (h : ¬ fX4_hasBall (cls f) bl = 0) : ∃ k, k < 12 ∧ bl = nI k ∧ ¬ f (13 + k) = (-5) := by
  rw [ball_iff] at h
  exact Classical.not_not.mp h
theorem dir_iff {di : Int32} : fX1_isDirection di = 0 ↔ (di.toInt < 0 ∨ 5 < di.toInt) := by
  unfold fX1_isDirection
  have e6 : (6 : Int32).toInt = 6 := rfl
  by_cases h1 : di < 0
  · rw [if_pos h1]
    rw [Int32.lt_iff_toInt_lt, Int32.toInt_zero] at h1
    exact ⟨fun _ => Or.inl h1, fun _ => rfl⟩
  · rw [if_neg h1]
    rw [Int32.lt_iff_toInt_lt, Int32.toInt_zero] at h1
    by_cases h2 : 6 ≤ di
    · rw [if_pos h2]
      rw [Int32.le_iff_toInt_le, e6] at h2
      exact ⟨fun _ => Or.inr (by omega), fun _ => rfl⟩
    · rw [if_neg h2]
      rw [Int32.le_iff_toInt_le, e6] at h2
      exact ⟨fun q => absurd q (by decide), fun q => by omega⟩
theorem dir7_iff {di : Int32} : fX7_in di.toInt64 0 5 = 0 ↔ (di.toInt < 0 ∨ 5 < di.toInt) := by
  have e0 : (0 : Int64).toInt = 0 := rfl
  have e5 : (5 : Int64).toInt = 5 := rfl
  rw [in_iff, e0, e5]
theorem force_iff {sg sn : Int32} : fX6_isForce sg sn = 0 ↔ (sg.toInt < 10 ∨ 999 < sg.toInt ∨ sn.toInt < 0 ∨ 2 < sn.toInt) := by
  unfold fX6_isForce
  have e1 : (10 : Int32).toInt = 10 := rfl
  have e2 : (999 : Int32).toInt = 999 := rfl
  have e3 : (2 : Int32).toInt = 2 := rfl
  have z : ((1 : Int32) = 0) = False := by simp
  simp only [Int32.lt_iff_toInt_lt, e1, e2, e3, Int32.toInt_zero]
  by_cases h1 : sg.toInt < 10
  · simp [h1]
  · by_cases h2 : 999 < sg.toInt
    · simp [h1, h2]
    · by_cases h3 : sn.toInt < 0
      · simp [h1, h2, h3]
      · by_cases h4 : 2 < sn.toInt
        · simp [h1, h2, h3, h4]
        · simp [h1, h2, h3, h4]
theorem stroke_iff {sg sn : Int32} : fX7_isStroke sg sn = 0 ↔ (sg.toInt < 10 ∨ 999 < sg.toInt ∨ sn.toInt < 0 ∨ 2 < sn.toInt) := by
  have e1 : (10 : Int64).toInt = 10 := rfl
  have e2 : (999 : Int64).toInt = 999 := rfl
  have e3 : (2 : Int64).toInt = 2 := rfl
  have e0 : (0 : Int64).toInt = 0 := rfl
  unfold fX7_isStroke
  by_cases h1 : fX7_in sg.toInt64 10 999 = 0
  · rw [if_pos h1]
    rw [in_iff, e1, e2] at h1
    exact ⟨fun _ => by omega, fun _ => rfl⟩
  · rw [if_neg h1]
    rw [in_iff, e1, e2] at h1
    by_cases h2 : fX7_in sn.toInt64 0 2 = 0
    · rw [if_pos h2]
      rw [in_iff, e0, e3] at h2
      exact ⟨fun _ => by omega, fun _ => rfl⟩
    · rw [if_neg h2]
      rw [in_iff, e0, e3] at h2
      exact ⟨fun q => absurd q (by decide), fun q => by omega⟩
theorem stroke_eq {sg sn : Int32} : fX7_isStroke sg sn = 0 ↔ fX6_isForce sg sn = 0 := by rw [stroke_iff, force_iff]
theorem shot_eq {di sg sn : Int32} : fX7_isShot di sg sn = 0 ↔ fX6_isShot di sg sn = 0 := by
  unfold fX7_isShot fX6_isShot
  by_cases h1 : fX1_isDirection di = 0
  · rw [if_pos h1, if_pos (dir7_iff.mpr (dir_iff.mp h1))]
  · rw [if_neg h1, if_neg (fun q => h1 (dir_iff.mpr (dir7_iff.mp q)))]
    by_cases h2 : fX6_isForce sg sn = 0
    · rw [if_pos h2, if_pos (stroke_eq.mpr h2)]
    · rw [if_neg h2, if_neg (fun q => h2 (stroke_eq.mp q))]
theorem shot_nI {di sg sn : Int32} (h : ¬ fX6_isShot di sg sn = 0) : (∃ w, w < 6 ∧ di = nI w) ∧ 10 ≤ sg.toInt ∧ sg.toInt ≤ 999 := by
  have h2 : ¬ fX7_isShot di sg sn = 0 := fun q => h (shot_eq.mp q)
  obtain ⟨a, b⟩ := shot_ok h2
  exact ⟨vin_nI a, b⟩
theorem pl_eq {pl : Int32} : fX7_isPlayer pl = 0 ↔ fX6_isPlayer pl = 0 := by
  have e0 : (0 : Int32).toInt = 0 := rfl
  have e1 : (1 : Int32).toInt = 1 := rfl
  have e2 : (2 : Int32).toInt = 2 := rfl
  unfold fX7_isPlayer fX6_isPlayer
  by_cases h0 : pl = 0
  · subst h0; decide
  · by_cases h1 : pl = 1
    · subst h1; decide
    · rw [if_neg h0, if_neg h1]
      have n0 : ¬ pl.toInt = 0 := ne_i h0
      have n1 : ¬ pl.toInt = 1 := ne_i h1
      refine ⟨fun _ => ?_, fun _ => rfl⟩
      by_cases h2 : pl < 0
      · rw [if_pos h2]
      · rw [if_neg h2]
        rw [Int32.lt_iff_toInt_lt, e0] at h2
        by_cases h3 : 2 ≤ pl
        · rw [if_pos h3]
        · rw [Int32.le_iff_toInt_le, e2] at h3
          omega

