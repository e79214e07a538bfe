/-! acting methods, side by side (wip/whole/gen/p35.lean) -/
theorem REL_rows {hs : Int32} {σ σn : N2} {n : Int32} {o : Nat} {η : Nat → N2} {t μ M : N2} (R : REL hs σ σn n o η t μ) (h0 : M 0 = μ 0) (hr : ∀ i, 3 ≤ i → i < 9 → M i = μ i) (h9 : ∀ j, j < 2 ∨ j = 10 → M 9 j = μ 9 j) : REL hs σ σn n o η t M := by
  unfold REL RH RTx gH gT gTab hst at R ⊢
  rw [h0, hr 3 (by omega) (by omega), hr 4 (by omega) (by omega), hr 5 (by omega) (by omega), hr 6 (by omega) (by omega), hr 7 (by omega) (by omega), hr 8 (by omega) (by omega), h9 0 (by omega), h9 1 (by omega), h9 10 (by omega)]
  exact R
theorem REL_rem {hs : Int32} {σ σn : N2} {n : Int32} {o : Nat} {η : Nat → N2} {t μ : N2} {sp : UInt32} (R : REL hs σ σn n o η t μ) : REL hs σ σn n o η t (fX7_remember μ sp) :=
  REL_rows R rfl (fun i h _ => up_ne (by omega)) (fun j _ => rfl)
theorem gF_ever {f : N1} {k : Nat} (h : gF f) (hk : k < 12) (e : f 12 = nI k) : gF (upd f 12 (nI (k + 1))) := by
  obtain ⟨⟨a1, a2, a3, a4, a5⟩, hD, hR, hU⟩ := h
  refine ⟨⟨?_, fun b hb => ?_, fun i hi => ?_, ?_, ?_⟩, fun a b ha hb => ?_, fun b hb => ?_, ?_⟩
  · rw [upd_at, toI (by omega)]; omega
  · rw [upd_ne (by omega)]; exact a2 b hb
  · rw [upd_ne (by omega)]; exact a3 i hi
  · rw [upd_ne (by omega)]; exact a4
  · rw [upd_ne (by omega)]; exact a5
  · rw [upd_ne (by omega), upd_ne (by omega)]; exact hD a b ha hb
  · rw [upd_at, upd_ne (by omega), toI (by omega)]
    intro h2
    exact hR b hb (by rw [e, toI (by omega)]; omega)
  · unfold gU; rw [upd_ne (by omega)]; exact hU
theorem gF_oth {f : N1} {j : Nat} {x : Int32} (h : gF f) (hj : j = 3 ∨ (5 ≤ j ∧ j < 12)) : gF (upd f j x) := by
  obtain ⟨⟨a1, a2, a3, a4, a5⟩, hD, hR, hU⟩ := h
  refine ⟨⟨?_, fun b hb => ?_, fun i hi => ?_, ?_, ?_⟩, fun a b ha hb => ?_, fun b hb => ?_, ?_⟩
  · rw [upd_ne (by omega)]; exact a1
  · rw [upd_ne (by omega)]; exact a2 b hb
  · rw [upd_ne (by omega)]; exact a3 i hi
  · rw [upd_ne (by omega)]; exact a4
  · rw [upd_ne (by omega)]; exact a5
  · rw [upd_ne (by omega), upd_ne (by omega)]; exact hD a b ha hb
  · rw [upd_ne (by omega), upd_ne (by omega)]; exact hR b hb
  · unfold gU; rw [upd_ne (by omega)]; exact hU
theorem gF_turn {f : N1} {x : Int32} (h : gF f) (hx : x = 0 ∨ x = 1) : gF (upd f 4 x) := by
  obtain ⟨⟨a1, a2, a3, a4, a5⟩, hD, hR, hU⟩ := h
  refine ⟨⟨?_, fun b hb => ?_, fun i hi => ?_, ?_, ?_⟩, fun a b ha hb => ?_, fun b hb => ?_, ?_⟩
  · rw [upd_ne (by omega)]; exact a1
  · rw [upd_ne (by omega)]; exact a2 b hb
  · rw [upd_ne (by omega)]; exact a3 i hi
  · rw [upd_ne (by omega)]; exact a4
  · rw [upd_ne (by omega)]; exact a5
  · rw [upd_ne (by omega), upd_ne (by omega)]; exact hD a b ha hb
  · rw [upd_ne (by omega), upd_ne (by omega)]; exact hR b hb
  · unfold gU; rw [upd_at]; exact hx
theorem gF_set {f : N1} {k : Nat} {x : Int32} (h : gF f) (hk : k < 3) (h1 : gK x) (h2 : k = 1 ∨ ¬ x = 100) : gF (upd f k x) := by
  obtain ⟨⟨a1, a2, a3, a4, a5⟩, hD, hR, hU⟩ := h
  refine ⟨⟨?_, fun b hb => ?_, fun i hi => ?_, ?_, ?_⟩, fun a b ha hb => ?_, fun b hb => ?_, ?_⟩
  · rw [upd_ne (by omega)]; exact a1
  · rw [upd_ne (by omega)]; exact a2 b hb
  · by_cases hi2 : i = k
    · rw [hi2, upd_at]; exact h1
    · rw [upd_ne hi2]; exact a3 i hi
  · by_cases hi2 : 0 = k
    · rw [hi2, upd_at]; exact h2.resolve_left (by omega)
    · rw [upd_ne hi2]; exact a4
  · by_cases hi2 : 2 = k
    · rw [hi2, upd_at]; exact h2.resolve_left (by omega)
    · rw [upd_ne hi2]; exact a5
  · rw [upd_ne (by omega), upd_ne (by omega)]; exact hD a b ha hb
  · rw [upd_ne (by omega), upd_ne (by omega)]; exact hR b hb
  · unfold gU; rw [upd_ne (by omega)]; exact hU
theorem gN_upd {f : N1} {j : Nat} {x : Int32} (h : gN f) (hj : j < 10 ∨ (13 ≤ j ∧ j < 25) ∨ (37 ≤ j ∧ j < 49)) : gN (upd f j x) := by
  unfold gN at h ⊢
  rw [upd_ne (by omega), upd_ne (by omega), upd_ne (by omega), ← cls_r3 (f := f) (fun b hb => (upd_ne (by omega)).symm), ← cls_r4 (f := f) (fun b hb => (upd_ne (by omega)).symm)]
  exact ⟨h.1, h.2.1, fun b hb hb2 => by rw [upd_ne (by omega)]; exact h.2.2 b hb hb2⟩
theorem gN_put {f : N1} {k : Nat} {x vl : Int32} (h : gN f) (hk : k < 12) (e : f 12 = nI k) (hv : ¬ vl = 0) : gN (upd (upd (upd f 12 (nI (k + 1))) (25 + k) vl) (13 + k) x) := by
  unfold gN at h ⊢
  have c3 : cls (upd (upd (upd f 12 (nI (k + 1))) (25 + k) vl) (13 + k) x) 3 = cls f 3 := cls_r3 fun b hb => by rw [upd_ne (by omega), upd_ne (by omega), upd_ne (by omega)]
  have c4 : cls (upd (upd (upd f 12 (nI (k + 1))) (25 + k) vl) (13 + k) x) 4 = cls f 4 := cls_r4 fun b hb => by rw [upd_ne (by omega), upd_ne (by omega), upd_ne (by omega)]
  rw [c3, c4]
  refine ⟨?_, ?_, fun b hb hb2 => ?_⟩
  · rw [upd_ne (by omega), upd_ne (by omega), upd_ne (by omega)]; exact h.1
  · rw [upd_ne (by omega), upd_ne (by omega), upd_ne (by omega)]; exact h.2.1
  · rw [upd_ne (by omega), upd_ne (by omega), upd_at, toI (by omega)] at hb2
    rw [upd_ne (by omega)]
    by_cases hbk : b = k
    · rw [hbk, upd_at]; exact hv
    · rw [upd_ne (by omega), upd_ne (by omega)]
      exact h.2.2 b hb (by rw [e, toI (by omega)]; omega)
theorem puts_rows {μ : N2} {sp : UInt32} {ce vl : Int32} : ∀ i, ¬ i = 0 → (fX7_puts μ sp ce vl).2 i = μ i := by
  intro i hi
  unfold fX7_puts
  repeat' split
  · rfl
  · show u2 (u2 (u2 μ 0 _ _) 0 _ _) 0 _ _ i = _
    rw [u2_row hi, u2_row hi, u2_row hi]
  · rfl
theorem puts_c {μ : N2} {sp : UInt32} {c : Nat} {vl : Int32} (hM : gM (μ 0)) (hc : c < 61) (hv : ¬ vl = 0) : (fX4_refusalToAdd (cls (μ 0)) (nI c) = (-5) ∧ 0 ≤ (fX7_puts μ sp (nI c) vl).1 ∧ (fX7_puts μ sp (nI c) vl).1 = (fX4_addBall (cls (μ 0)) (nI c) vl).1 ∧ (fX4_addBall (cls (μ 0)) (nI c) vl).2 = cls ((fX7_puts μ sp (nI c) vl).2 0) ∧ gM ((fX7_puts μ sp (nI c) vl).2 0)) ∨ (¬ fX4_refusalToAdd (cls (μ 0)) (nI c) = (-5) ∧ (fX7_puts μ sp (nI c) vl).1 = fX4_refusalToAdd (cls (μ 0)) (nI c) ∧ ¬ 0 ≤ (fX7_puts μ sp (nI c) vl).1 ∧ (fX7_puts μ sp (nI c) vl).2 = μ) := by
  obtain ⟨hF, hN⟩ := hM
  have h12 := hF.1.1
  unfold fX4_refusalToAdd
  rw [ballOn_c hc, cls_80]
  by_cases hb : bo (μ 0) c = (-5)
  · rw [if_pos hb]
    by_cases he : μ 0 12 = 12
    · rw [he, if_pos (by decide)]
      refine Or.inr ?_
      have ep : fX7_puts μ sp (nI c) vl = ((-3), μ) := by
        unfold fX7_puts
        rw [bo_ref hF hc, if_pos hb, if_pos he]
      rw [ep]
      exact ⟨by decide, rfl, show ¬ (0 : Int32) ≤ (-3) by decide, rfl⟩
    · have hne : ¬ (μ 0 12).toInt = 12 := ne_i (k := 12) he
      obtain ⟨k, hk, e⟩ : ∃ k, k < 12 ∧ μ 0 12 = nI k := vin_nI (vp_in_iff.mpr ⟨h12.1, by omega⟩)
      have hle : ¬ (12 : Int32) ≤ μ 0 12 := by
        rw [Int32.le_iff_toInt_le]
        have e12 : (12 : Int32).toInt = 12 := rfl
        omega
      rw [if_neg hle]
      refine Or.inl ⟨rfl, ?_⟩
      have ep : fX7_puts μ sp (nI c) vl = (nI k, u2 (u2 (u2 μ 0 12 (nI (k + 1))) 0 (13 + k) (nI c)) 0 (25 + k) vl) := by
        unfold fX7_puts
        rw [bo_ref hF hc, if_pos hb, if_neg he, e, ix13 hk, ix25 hk, nI_1]
        rfl
      have hn : ∀ j, j < 12 → ¬ (μ 0) (13 + j) = nI c := by
        rcases bo_spec (μ 0) c with ⟨-, h3⟩ | ⟨j, h1, h2, -⟩
        · exact h3
        · exact absurd (h2.symm.trans hb) (nI_no (by omega))
      have hF1 := gF_ever hF hk e
      have hF2 := gF_upd (j := 25 + k) (x := vl) hF1 (by omega)
      have hn2 : ∀ j, j < 12 → ¬ (upd (upd (μ 0) 12 (nI (k + 1))) (25 + k) vl) (13 + j) = nI c := fun j hj => by
        rw [upd_ne (by omega), upd_ne (by omega)]
        exact hn j hj
      have hF3 := gF_put hF2 hk hc (by rw [upd_ne (by omega), upd_at, toI (by omega)]; omega) hn2
      have e0 : (fX7_puts μ sp (nI c) vl).2 0 = upd (upd (upd (μ 0) 12 (nI (k + 1))) (25 + k) vl) (13 + k) (nI c) := by
        rw [ep]
        show u2 (u2 (u2 μ 0 12 (nI (k + 1))) 0 (13 + k) (nI c)) 0 (25 + k) vl 0 = _
        rw [u2_self, u2_self, u2_self, upd_comm (by omega)]
      have ea : fX4_addBall (cls (μ 0)) (nI c) vl = (nI k, cls (upd (upd (upd (μ 0) 12 (nI (k + 1))) (25 + k) vl) (13 + k) (nI c))) := by
        unfold fX4_addBall
        rw [cls_80, e, if_neg (isBN hk), nI_c (by omega), nI_1, cls_u80, cls_u1 hk, place_c hF2.1 hF2.2.1 hk hc hn2]
      rw [e0, ea, ep]
      refine ⟨?_, rfl, rfl, hF3, ?_⟩
      · show (0 : Int32) ≤ nI k
        rw [Int32.le_iff_toInt_le, Int32.toInt_zero, toI (by omega)]
        omega
      · exact gN_put hN hk e hv
  · rw [if_neg hb]
    refine Or.inr ?_
    have ep : fX7_puts μ sp (nI c) vl = ((-4), μ) := by
      unfold fX7_puts
      rw [bo_ref hF hc, if_neg hb]
    rw [ep]
    exact ⟨by decide, rfl, show ¬ (0 : Int32) ≤ (-4) by decide, rfl⟩
section SM
variable {hs : Int32} {σ σn : N2} {n : Int32} {o : Nat} {η : Nat → N2} {t μ : N2} {sp : UInt32}
theorem s_put {ce vl : Int32} (R : REL hs σ σn n o η t μ) : (fX6_put hs σ n o η ce vl).1 = (fX7_put μ sp ce vl).1 ∧ REL hs (fX6_put hs σ n o η ce vl).2.1 σn (fX6_put hs σ n o η ce vl).2.2.1 (fX6_put hs σ n o η ce vl).2.2.2.1 (fX6_put hs σ n o η ce vl).2.2.2.2 t (fX7_put μ sp ce vl).2 := by
  have hσ := R.1
  have hG := R.2.1
  have e1 : (1 : Int64).toInt = 1 := rfl
  have e20 : (20 : Int64).toInt = 20 := rfl
  have f1 : (1 : Int32).toInt = 1 := rfl
  have f20 : (20 : Int32).toInt = 20 := rfl
  unfold fX6_put fX7_put
  by_cases h1 : fX1_isCell ce = 0
  · rw [if_pos h1, if_pos (cell_eq.mpr h1)]
    exact ⟨rfl, R⟩
  · rw [if_neg h1, if_neg (fun q => h1 (cell_eq.mp q))]
    obtain ⟨c, hc, rfl⟩ := cell_nI h1
    by_cases h2 : vl < 1
    · rw [if_pos h2, if_pos (by rw [in_iff, e1, e20]; rw [Int32.lt_iff_toInt_lt, f1] at h2; omega)]
      exact ⟨rfl, R⟩
    · rw [if_neg h2]
      by_cases h3 : vl ≤ 20
      · have q3 : ¬ fX7_in vl.toInt64 1 20 = 0 := by rw [in_iff, e1, e20]; rw [Int32.lt_iff_toInt_lt, f1] at h2; rw [Int32.le_iff_toInt_le, f20] at h3; omega
        rw [if_pos h3, if_neg q3]
        have hG2 : gM ((fX7_remember μ sp) 0) := hG
        have hr := puts_rows (μ := fX7_remember μ sp) (sp := sp) (ce := nI c) (vl := vl)
        have hv0 : ¬ vl = 0 := by
          intro q
          rw [q] at h2
          exact h2 (by decide)
        rcases puts_c (sp := sp) (vl := vl) hG2 hc hv0 with ⟨p1, p2, p3, p4, p5⟩ | ⟨p1, p2, p3, p4⟩
        · have p1 : fX4_refusalToAdd σ (nI c) = (-5) := by rw [hσ]; exact p1
          rw [if_pos p1, if_pos p2]
          refine ⟨?_, ?_⟩
          · show (fX4_addBall σ (nI c) vl).1 = (fX7_puts (fX7_remember μ sp) sp (nI c) vl).1
            rw [p3, hσ]
            rfl
          · have RA := REL_act R (M := (fX7_puts (fX7_remember μ sp) sp (nI c) vl).2) (hr 1 (by decide)) (fun i h _ => (hr i (by omega)).trans (up_ne (by omega))) (fun j _ => by rw [hr 9 (by decide)]; rfl) p5
            rw [← p4] at RA
            have e : cls ((fX7_remember μ sp) 0) = σ := hσ.symm
            rw [e] at RA
            exact RA
        · have p1 : ¬ fX4_refusalToAdd σ (nI c) = (-5) := by rw [hσ]; exact p1
          rw [if_neg p1, if_neg p3]
          refine ⟨?_, ?_⟩
          · show fX4_refusalToAdd σ (nI c) = (fX7_puts (fX7_remember μ sp) sp (nI c) vl).1
            rw [p2, hσ]
            rfl
          · show REL hs σ σn n o η t (fX7_puts (fX7_remember μ sp) sp (nI c) vl).2
            rw [p4]
            exact REL_rem R
      · rw [if_neg h3, if_pos (by rw [in_iff, e1, e20]; rw [Int32.le_iff_toInt_le, f20] at h3; omega)]
        exact ⟨rfl, R⟩
/-- a row of numbers changed, and acted -/
theorem act_u {g : N1} {M : N2} (R : REL hs σ σn n o η t μ) (hM : ∀ i, ¬ i = 0 → M i = (fX7_remember μ sp) i) (h0 : M 0 = g) (hg : gM g) : REL hs (cls g) σn (fX2_record n o η σ).1 (fX2_record n o η σ).2.1 (fX2_record n o η σ).2.2 t (acS (acH M)) := by
  subst h0
  exact REL_act R (hM 1 (by decide)) (fun i h _ => (hM i (by omega)).trans (up_ne (by omega))) (fun j _ => by rw [hM 9 (by decide)]; rfl) hg
theorem s_move {bl ce : Int32} (R : REL hs σ σn n o η t μ) : (fX6_move hs σ n o η bl ce).1 = (fX7_move μ sp bl ce).1 ∧ REL hs (fX6_move hs σ n o η bl ce).2.1 σn (fX6_move hs σ n o η bl ce).2.2.1 (fX6_move hs σ n o η bl ce).2.2.2.1 (fX6_move hs σ n o η bl ce).2.2.2.2 t (fX7_move μ sp bl ce).2 := by
  have hσ := R.1
  obtain ⟨hF, hN⟩ := R.2.1
  subst hσ
  unfold fX6_move fX7_move
  by_cases h1 : fX4_hasBall (cls (μ 0)) bl = 0
  · rw [if_pos h1, if_pos ((ball_eq hF).mpr h1)]
    exact ⟨rfl, R⟩
  · rw [if_neg h1, if_neg (fun q => h1 ((ball_eq hF).mp q))]
    obtain ⟨k, hk, rfl, hk5⟩ := ball_nI h1
    by_cases h2 : fX1_isCell ce = 0
    · rw [if_pos h2, if_pos (cell_eq.mpr h2)]
      exact ⟨rfl, R⟩
    · rw [if_neg h2, if_neg (fun q => h2 (cell_eq.mp q))]
      obtain ⟨c, hc, rfl⟩ := cell_nI h2
      rw [cellOf_c hk, bo_ref hF hc, ballOn_c hc]
      by_cases h3 : μ 0 (13 + k) = nI c
      · rw [if_pos h3, if_pos (bo_one hF.2.1 hc hk h3)]
        exact ⟨rfl, R⟩
      · rw [if_neg h3]
        rcases bo_spec (μ 0) c with ⟨b1, b2⟩ | ⟨j, b1, b2, b3⟩
        · rw [if_pos b1, if_neg (by rw [b1]; exact fun q => nI_no (show k < 1000 by omega) q.symm), if_pos b1]
          refine ⟨?_, ?_⟩
          · show μ 0 (13 + k) = (fX7_remember μ sp) 0 (13 + nI k).toNatClampNeg
            rw [ix13 hk]
            rfl
          · show REL hs (fX4_place (cls (μ 0)) (nI k) (nI c)) σn _ _ _ t (acS (acH (u2 (fX7_remember μ sp) 0 (13 + nI k).toNatClampNeg (nI c))))
            rw [place_c hF.1 hF.2.1 hk hc b2, ix13 hk]
            obtain ⟨c0, hc0, e0⟩ := vin_nI ((hF.1.2.1 k hk).resolve_right hk5)
            exact act_u (sp := sp) R (fun i hi => u2_row hi) u2_self ⟨gF_put hF hk hc (ever_lt hF.2.2.1 hk hc0 e0) b2, gN_upd hN (by omega)⟩
        · have hjk : ¬ j = k := fun q => h3 (q ▸ b3)
          rw [if_neg (by rw [b2]; exact nI_no (by omega)), if_neg (by rw [b2]; exact fun q => hjk (nI_inj (by omega) (by omega) q)), if_neg (by rw [b2]; exact nI_no (by omega))]
          exact ⟨rfl, R⟩
theorem s_takeOff {bl : Int32} (R : REL hs σ σn n o η t μ) : (fX6_takeOff hs σ n o η bl).1 = (fX7_takeOff μ sp bl).1 ∧ REL hs (fX6_takeOff hs σ n o η bl).2.1 σn (fX6_takeOff hs σ n o η bl).2.2.1 (fX6_takeOff hs σ n o η bl).2.2.2.1 (fX6_takeOff hs σ n o η bl).2.2.2.2 t (fX7_takeOff μ sp bl).2 := by
  have hσ := R.1
  obtain ⟨hF, hN⟩ := R.2.1
  subst hσ
  unfold fX6_takeOff fX7_takeOff
  by_cases h1 : fX4_hasBall (cls (μ 0)) bl = 0
  · rw [if_pos h1, if_pos ((ball_eq hF).mpr h1)]
    exact ⟨rfl, R⟩
  · rw [if_neg h1, if_neg (fun q => h1 ((ball_eq hF).mp q))]
    obtain ⟨k, hk, rfl, hk5⟩ := ball_nI h1
    rw [cellOf_c hk, lift_c hF.1 hF.2.1 hk, ix13 hk]
    exact ⟨rfl, act_u (sp := sp) R (fun i hi => u2_row hi) u2_self ⟨gF_away hF hk, gN_upd hN (by omega)⟩⟩
theorem s_setPots {op : Int32} (R : REL hs σ σn n o η t μ) : (fX6_setPots hs σ n o η op).1 = (fX7_setPots μ sp op).1 ∧ REL hs (fX6_setPots hs σ n o η op).2.1 σn (fX6_setPots hs σ n o η op).2.2.1 (fX6_setPots hs σ n o η op).2.2.2.1 (fX6_setPots hs σ n o η op).2.2.2.2 t (fX7_setPots μ sp op).2 := by
  have hσ := R.1
  obtain ⟨hF, hN⟩ := R.2.1
  subst hσ
  have e0 : (0 : Int64).toInt = 0 := rfl
  have e63 : (63 : Int64).toInt = 63 := rfl
  have f63 : (63 : Int32).toInt = 63 := rfl
  unfold fX6_setPots fX7_setPots
  by_cases h1 : op < 0
  · rw [if_pos h1, if_pos (by rw [in_iff, e0, e63]; rw [Int32.lt_iff_toInt_lt, Int32.toInt_zero] at h1; omega)]
    exact ⟨rfl, R⟩
  · rw [if_neg h1]
    by_cases h2 : op ≤ 63
    · have q3 : ¬ fX7_in op.toInt64 0 63 = 0 := by rw [in_iff, e0, e63]; rw [Int32.lt_iff_toInt_lt, Int32.toInt_zero] at h1; rw [Int32.le_iff_toInt_le, f63] at h2; omega
      rw [if_pos h2, if_neg q3, cls_81]
      by_cases h3 : μ 0 3 = op
      · rw [if_pos h3, if_pos h3]
        exact ⟨rfl, R⟩
      · rw [if_neg h3, if_neg h3, cls_u81]
        exact ⟨rfl, act_u (sp := sp) R (fun i hi => u2_row hi) u2_self ⟨gF_oth hF (by omega), gN_upd hN (by omega)⟩⟩
    · rw [if_neg h2, if_pos (by rw [in_iff, e0, e63]; rw [Int32.le_iff_toInt_le, f63] at h2; omega)]
      exact ⟨rfl, R⟩
theorem s_pass {pl : Int32} (R : REL hs σ σn n o η t μ) : (fX6_pass hs σ n o η pl).1 = (fX7_pass μ sp pl).1 ∧ REL hs (fX6_pass hs σ n o η pl).2.1 σn (fX6_pass hs σ n o η pl).2.2.1 (fX6_pass hs σ n o η pl).2.2.2.1 (fX6_pass hs σ n o η pl).2.2.2.2 t (fX7_pass μ sp pl).2 := by
  have hσ := R.1
  obtain ⟨hF, hN⟩ := R.2.1
  subst hσ
  unfold fX6_pass fX7_pass
  by_cases h1 : fX6_isPlayer pl = 0
  · rw [if_pos h1, if_pos (pl_eq.mpr h1)]
    exact ⟨rfl, R⟩
  · rw [if_neg h1, if_neg (fun q => h1 (pl_eq.mp q)), cls_82]
    by_cases h2 : pl = μ 0 4
    · rw [if_pos h2, if_pos h2, cls_83]
      refine ⟨rfl, ?_⟩
      show REL hs (fX4_changeTurn (cls (μ 0))) σn _ _ _ t (acS (acH (fX7_turns (fX7_remember μ sp) sp)))
      have ec : fX4_changeTurn (cls (μ 0)) = cls (upd (upd (μ 0) 4 (1 - μ 0 4)) 5 0) := by
        unfold fX4_changeTurn
        rw [cls_82, cls_u82, cls_u83]
      rw [ec]
      refine act_u (sp := sp) R (fun i hi => ?_) ?_ ⟨gF_oth (gF_turn hF ?_) (by omega), gN_upd (gN_upd hN (by omega)) (by omega)⟩
      · unfold fX7_turns
        rw [u2_row hi, u2_row hi]
      · unfold fX7_turns
        rw [u2_self, u2_self]
        rfl
      · rcases hF.2.2.2 with h4 | h4
        · rw [h4]; exact Or.inr rfl
        · rw [h4]; exact Or.inl rfl
    · rw [if_neg h2, if_neg h2]
      exact ⟨rfl, R⟩
end SM

