/-! p24: pots, settings, passing on both felts (wip/p24/p38.lean) -/
/-- rows that leave balls, totals and scores as they are -/
theorem gG_low {M N : Nat} {f g : N1} (hG : gG M f) (hMN : M ≤ N) (hF : gF g) (hP : gP g) (hS : ∀ i, i < 3 → gK (g i)) (h5 : g 5 = f 5 ∨ g 5 = 0) (h : ∀ j, 6 ≤ j → g j = f j) : gG N g := by
  obtain ⟨-, -, -, hb, hV, c1, c2, c3, c4, c5, c6, c7⟩ := hG
  refine ⟨hF, hP, hS, fun j h1 h2 => ?_, fun b hb2 => ?_, ?_⟩
  · rw [h j (by omega)]
    have := hb j h1 h2
    omega
  · rw [h 12 (by omega), h (25 + b) (by omega), h (37 + b) (by omega)]
    exact hV b hb2
  · have hon : onN g 12 = onN f 12 := onN_congr 12 (Nat.le_refl 12) (fun b hb => by rw [h (13 + b) (by omega)])
    unfold gC
    rw [h 6 (by omega), h 7 (by omega), h 8 (by omega), h 9 (by omega), h 12 (by omega), hon]
    have e0 : (0 : Int32).toInt = 0 := rfl
    rcases h5 with q | q
    · rw [q]
      exact ⟨c1, c2, c3, by omega, c5, by omega, by omega⟩
    · rw [q, e0]
      exact ⟨by omega, by omega, c3, by omega, c5, by omega, by omega⟩
theorem gF_low {f g : N1} (hF : gF f) (hU : gU g) (h : ∀ j, 12 ≤ j → g j = f j) : gF g := by
  obtain ⟨⟨a1, a2, -⟩, hD, hR, -⟩ := hF
  refine ⟨⟨?_, fun b hb => ?_, trivial⟩, fun a b ha hb => ?_, fun b hb => ?_, hU⟩
  · rw [h 12 (by omega)]; exact a1
  · rw [h (13 + b) (by omega)]; exact a2 b hb
  · rw [h (13 + a) (by omega), h (13 + b) (by omega)]; exact hD a b ha hb
  · rw [h 12 (by omega), h (13 + b) (by omega)]; exact hR b hb
theorem rP_in {x : Int32} (h : vp_in x 64) : vp_in (rP x) 64 := by
  obtain ⟨o, ho, rfl⟩ := vin_nI h
  exact (rt_pots ⟨o, ho⟩).1
theorem rP_inj {x y : Int32} (hx : vp_in x 64) (hy : vp_in y 64) (h : rP x = rP y) : x = y := by
  obtain ⟨o, ho, rfl⟩ := vin_nI hx
  obtain ⟨q, hq, rfl⟩ := vin_nI hy
  have := congrArg rP h
  rw [(rt_pots ⟨o, ho⟩).2, (rt_pots ⟨q, hq⟩).2] at this
  exact this
theorem pots_in {x : Int32} (h : vp_in x 64) : ¬ x < 0 ∧ x ≤ 63 := by
  rw [vp_in_iff] at h
  have e4 : (63 : Int32).toInt = 63 := rfl
  rw [Int32.lt_iff_toInt_lt, Int32.toInt_zero, Int32.le_iff_toInt_le, e4]
  omega
/-- pots set, on both felts -/
theorem both_pots {M : Nat} {f : N1} {op : Int32} (hG : gG M f) (ho : vp_in op 64) : ∃ (r r2 : Int32) (g : N1), gG M g ∧
    (∀ (hs n : Int32) (o : Nat) (η : Nat → N2), (fX6_setPots hs (cls f) n o η op).1 = r ∧ (fX6_setPots hs (cls f) n o η op).2.1 = cls g) ∧
    (∀ (hs n : Int32) (o : Nat) (η : Nat → N2), (fX6_setPots hs (cls (rt f)) n o η (rP op)).1 = r2 ∧ (fX6_setPots hs (cls (rt f)) n o η (rP op)).2.1 = cls (rt g)) ∧
    ((r = (-5) ∧ r2 = (-5)) ∨ (vp_in r 64 ∧ r2 = rP r)) ∧ g 3 = op := by
  have hF := hG.1
  have hP := hG.2.1
  obtain ⟨p1, p2⟩ := pots_in ho
  obtain ⟨p3, p4⟩ := pots_in (rP_in ho)
  unfold fX6_setPots
  simp only [if_neg p1, if_pos p2, if_neg p3, if_pos p4, cls_81, rt_3]
  by_cases h : f 3 = op
  · simp only [if_pos h, if_pos (congrArg rP h)]
    exact ⟨(-5), (-5), f, hG, fun _ _ _ _ => ⟨rfl, rfl⟩, fun _ _ _ _ => ⟨rfl, rfl⟩, Or.inl ⟨rfl, rfl⟩, h⟩
  · have h2 : ¬ rP (f 3) = rP op := fun q => h (rP_inj hP ho q)
    simp only [if_neg h, if_neg h2, cls_u81]
    refine ⟨f 3, rP (f 3), upd f 3 op, gG_low hG (Nat.le_refl M) (gF_low hF ?_ (fun j hj => upd_ne (by omega))) ?_ (fun i hi => ?_) (Or.inl (upd_ne (by omega))) (fun j hj => upd_ne (by omega)), fun _ _ _ _ => ⟨rfl, rfl⟩, fun _ _ _ _ => ⟨rfl, ?_⟩, Or.inr ⟨hP, rfl⟩, upd_at⟩
    · unfold gU; rw [upd_ne (by omega)]; exact hF.2.2.2
    · unfold gP; rw [upd_at]; exact ho
    · rw [upd_ne (by omega)]; exact hG.2.2.1 i hi
    · rw [rt_upd3]
/-- passing, on both felts -/
theorem both_pass {M : Nat} {f : N1} {pl : Int32} (hG : gG M f) : ∃ (r : Int32) (g : N1), gG M g ∧
    (∀ (hs n : Int32) (o : Nat) (η : Nat → N2), (fX6_pass hs (cls f) n o η pl).1 = r ∧ (fX6_pass hs (cls f) n o η pl).2.1 = cls g) ∧
    (∀ (hs n : Int32) (o : Nat) (η : Nat → N2), (fX6_pass hs (cls (rt f)) n o η pl).1 = r ∧ (fX6_pass hs (cls (rt f)) n o η pl).2.1 = cls (rt g)) := by
  have hF := hG.1
  unfold fX6_pass fX4_changeTurn
  simp only [cls_82, cls_83, cls_u82, cls_u83, rt_oth (f := f) (show 4 < 3 ∨ 3 < 4 ∧ 4 < 13 ∨ 25 ≤ 4 by omega), rt_oth (f := f) (show 5 < 3 ∨ 3 < 5 ∧ 5 < 13 ∨ 25 ≤ 5 by omega)]
  by_cases h : fX6_isPlayer pl = 0
  · simp only [if_pos h]
    exact ⟨(-1), f, hG, fun _ _ _ _ => ⟨rfl, rfl⟩, fun _ _ _ _ => ⟨rfl, rfl⟩⟩
  · simp only [if_neg h]
    by_cases h2 : pl = f 4
    · simp only [if_pos h2]
      refine ⟨f 5, upd (upd f 4 (1 - f 4)) 5 0, gG_low hG (Nat.le_refl M) (gF_low hF ?_ (fun j hj => ?_)) ?_ (fun i hi => ?_) (Or.inr upd_at) (fun j hj => ?_), fun _ _ _ _ => ⟨rfl, rfl⟩, fun _ _ _ _ => ⟨rfl, ?_⟩⟩
      · unfold gU
        rw [upd_ne (by omega), upd_at]
        rcases hF.2.2.2 with q | q
        · rw [q]; exact Or.inr rfl
        · rw [q]; exact Or.inl rfl
      · rw [upd_ne (by omega), upd_ne (by omega)]
      · exact gP_upd (gP_upd hG.2.1 (by omega)) (by omega)
      · rw [upd_ne (by omega), upd_ne (by omega)]; exact hG.2.2.1 i hi
      · rw [upd_ne (by omega), upd_ne (by omega)]
      · rw [rt_upd (by omega), rt_upd (by omega)]
    · simp only [if_neg h2]
      exact ⟨(-4), f, hG, fun _ _ _ _ => ⟨rfl, rfl⟩, fun _ _ _ _ => ⟨rfl, rfl⟩⟩
