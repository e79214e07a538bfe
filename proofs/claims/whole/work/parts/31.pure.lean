/-! a shot of the class and a shot of the reference, side by side (wip/whole/gen/p31.lean) -/
theorem gm_start : ∀ c : Fin 61, fX1_columnOf (nI c.val) = tQ c.val ∧ fX1_rowOf (nI c.val) = tR c.val := by decide +kernel
theorem gm_ahead : ∀ c : Fin 61, ∀ w : Fin 6, fX1_cellAt (tQ c.val + fX1_stepQ (nI w.val)) (tR c.val + fX1_stepR (nI w.val)) = ahC (nI c.val) (nI w.val) := by decide +kernel
theorem gm_step : ∀ c : Fin 61, ∀ w : Fin 6, ahC (nI c.val) (nI w.val) = (-5) ∨ (tQ c.val + fX1_stepQ (nI w.val) = tQ (ahC (nI c.val) (nI w.val)).toNatClampNeg ∧ tR c.val + fX1_stepR (nI w.val) = tR (ahC (nI c.val) (nI w.val)).toNatClampNeg) := by decide +kernel
def tuD (q r w : Int32) : Int32 := if (fX1_isOut (q + (fX1_stepQ w))) = 0 then (if (fX1_isOut (r + (fX1_stepR w))) = 0 then (fX1_turned (-w) 2) else (if (fX1_isOut ((q + (fX1_stepQ w)) + (r + (fX1_stepR w)))) = 0 then (fX1_turned (-w) 0) else (fX1_turned w 3))) else (if (fX1_isOut (r + (fX1_stepR w))) = 0 then (if (fX1_isOut ((q + (fX1_stepQ w)) + (r + (fX1_stepR w)))) = 0 then (fX1_turned (-w) 4) else (fX1_turned w 3)) else (fX1_turned w 3))
theorem tuD_f (d : N1) : fX5_turnAtBank d = upd d 2 (tuD (d 0) (d 1) (d 2)) := by
  unfold fX5_turnAtBank tuD
  repeat' split
  all_goals rfl
theorem gm_turn : ∀ c : Fin 61, ∀ w : Fin 6, ¬ ahC (nI c.val) (nI w.val) = (-5) ∨ tuD (tQ c.val) (tR c.val) (nI w.val) = tuC (nI c.val) (nI w.val) := by decide +kernel
theorem gm_next : ∀ w : Fin 6, fX1_turned (nI w.val) 1 = nxC (nI w.val) := by decide +kernel
theorem gm_corner : ∀ c : Fin 61, fX1_cornerOf (nI c.val) = coC (nI c.val) := by decide +kernel
theorem nI_back {x : Int32} {n : Nat} (h : vp_in x n) (hn : n ≤ 1000) : nI x.toNatClampNeg = x ∧ x.toNatClampNeg < n := by
  obtain ⟨k, hk, rfl⟩ := vin_nI h
  rw [nI_c (by omega)]
  exact ⟨rfl, hk⟩
theorem ah_in {c w : Nat} (hc : c < 61) (hw : w < 6) (h : ¬ ahC (nI c) (nI w) = (-5)) : vp_in (ahC (nI c) (nI w)) 61 := by
  rcases fin_ah ⟨c, hc⟩ ⟨w, hw⟩ with h2 | h2
  · exact absurd h2 h
  · exact h2
theorem tu_vin {c w : Nat} (hc : c < 61) (hw : w < 6) (h : ahC (nI c) (nI w) = (-5)) : vp_in (tuC (nI c) (nI w)) 6 := (fin_tu ⟨c, hc⟩ ⟨w, hw⟩ h).1
theorem nx_vin {w : Nat} (hw : w < 6) : vp_in (nxC (nI w)) 6 := fin_nx ⟨w, hw⟩
/-- the walker on a cell, looking in a direction -/
def dW (d : N1) (c w : Nat) : Prop := d 0 = tQ c ∧ d 1 = tR c ∧ d 2 = nI w
theorem dW_start {d : N1} {c w : Nat} (hc : c < 61) : dW (fX5_startAt d (nI c) (nI w)) c w := by
  have h := gm_start ⟨c, hc⟩
  unfold fX5_startAt dW
  rw [upd_at, upd_ne (show ¬ 0 = 2 by decide), upd_ne (show ¬ 0 = 1 by decide), upd_at, upd_ne (show ¬ 1 = 2 by decide), upd_at]
  exact ⟨h.1, h.2, rfl⟩
theorem dW_ahead {d : N1} {c w : Nat} (h : dW d c w) (hc : c < 61) (hw : w < 6) : fX5_cellAhead d = ahC (nI c) (nI w) := by
  unfold fX5_cellAhead
  rw [h.1, h.2.1, h.2.2]
  exact gm_ahead ⟨c, hc⟩ ⟨w, hw⟩
theorem dW_step {d : N1} {c w : Nat} (h : dW d c w) (hc : c < 61) (hw : w < 6) (hn : ¬ ahC (nI c) (nI w) = (-5)) : dW (fX5_stepAhead d) (ahC (nI c) (nI w)).toNatClampNeg w := by
  have g := (gm_step ⟨c, hc⟩ ⟨w, hw⟩).resolve_left hn
  unfold fX5_stepAhead dW
  rw [upd_ne (show ¬ 0 = 1 by decide), upd_at, upd_at, upd_ne (show ¬ 1 = 0 by decide), upd_ne (show ¬ 2 = 0 by decide), upd_ne (show ¬ 2 = 1 by decide), upd_ne (show ¬ 2 = 0 by decide), h.1, h.2.1, h.2.2]
  exact ⟨g.1, g.2, rfl⟩
theorem dW_dir {d : N1} {c w v : Nat} (h : dW d c w) : dW (upd d 2 (nI v)) c v := by
  unfold dW
  rw [upd_ne (show ¬ 0 = 2 by decide), upd_ne (show ¬ 1 = 2 by decide), upd_at]
  exact ⟨h.1, h.2.1, rfl⟩
theorem dW_bank {d : N1} {c w : Nat} (h : dW d c w) (hc : c < 61) (hw : w < 6) (hn : ahC (nI c) (nI w) = (-5)) : dW (fX5_turnAtBank d) c (tuC (nI c) (nI w)).toNatClampNeg := by
  have g := (gm_turn ⟨c, hc⟩ ⟨w, hw⟩).resolve_left (fun q => q hn)
  rw [tuD_f, h.1, h.2.1, h.2.2]
  have g2 : tuD (tQ c) (tR c) (nI w) = nI (tuC (nI c) (nI w)).toNatClampNeg := by
    rw [(nI_back (tu_vin hc hw hn) (by decide)).1]
    exact g
  rw [g2]
  exact dW_dir h
theorem dW_open {d : N1} {c w : Nat} (h : dW d c w) (hc : c < 61) (hw : w < 6) : dW (fX5_turnOnIfOpen d) c (if ahC (nI c) (nxC (nI w)) = (-5) then nI w else nxC (nI w)).toNatClampNeg := by
  have g : fX1_turned (nI w) 1 = nxC (nI w) := gm_next ⟨w, hw⟩
  obtain ⟨b1, b2⟩ := nI_back (nx_vin hw) (by decide)
  have e : fX1_cellAt ((d 0) + (fX1_stepQ (fX1_turned (d 2) 1))) ((d 1) + (fX1_stepR (fX1_turned (d 2) 1))) = ahC (nI c) (nxC (nI w)) := by
    rw [h.1, h.2.1, h.2.2, g, ← b1]
    exact gm_ahead ⟨c, hc⟩ ⟨_, b2⟩
  unfold fX5_turnOnIfOpen
  rw [e]
  by_cases h5 : ahC (nI c) (nxC (nI w)) = (-5)
  · rw [if_pos h5, if_pos h5, nI_c (by omega)]
    exact h
  · rw [if_neg h5, if_neg h5, h.2.2, g]
    have := dW_dir (v := (nxC (nI w)).toNatClampNeg) h
    rw [b1] at this
    exact this
/-! sums -/
theorem tot_up {g : N1} {k : Nat} (hk : k < 12) : ∀ n : Nat, n ≤ 12 → fX4_totalN (upd g k (g k + 1)) n = if k < n then fX4_totalN g n + 1 else fX4_totalN g n := by
  intro n
  induction n with
  | zero => intro _; rw [if_neg (by omega)]; rfl
  | succ n ih =>
    intro hn
    unfold fX4_totalN
    rw [ih (by omega), nI_c (show n < 1000 by omega)]
    by_cases h1 : k < n
    · rw [if_pos h1, if_pos (by omega), upd_ne (by omega), Int32.add_assoc, Int32.add_comm 1, ← Int32.add_assoc]
    · rw [if_neg h1]
      by_cases h2 : n = k
      · rw [h2, upd_at, if_pos (by omega), ← Int32.add_assoc]
      · rw [upd_ne h2, if_neg (by omega)]
theorem tot_cls3 {f : N1} {k : Nat} (hk : k < 12) : fX4_total (cls (upd f (49 + k) (f (49 + k) + 1)) 3) = fX4_total (cls f 3) + 1 := by
  rw [← cls_u3 hk, u2_self, ← cls_3 (f := f) hk]
  unfold fX4_total
  rw [tot_up hk 12 (by omega), if_pos hk]
theorem tot_cls4 {f : N1} {k : Nat} (hk : k < 12) : fX4_total (cls (upd f (61 + k) (f (61 + k) + 1)) 4) = fX4_total (cls f 4) + 1 := by
  rw [← cls_u4 hk, u2_self, ← cls_4 (f := f) hk]
  unfold fX4_total
  rw [tot_up hk 12 (by omega), if_pos hk]
theorem gF_upd {f : N1} {j : Nat} {x : Int32} (h : gF f) (hj : 25 ≤ j) : gF (upd f j x) := by
  obtain ⟨hA, hD, hR, hU⟩ := h
  refine ⟨gA_upd hA hj, fun a b ha hb => ?_, fun b hb => ?_, ?_⟩
  · rw [upd_ne (by omega), upd_ne (by omega)]
    exact hD a b ha hb
  · rw [upd_ne (by omega), upd_ne (by omega)]
    exact hR b hb
  · unfold gU
    rw [upd_ne (by omega)]
    exact hU
theorem gF_away {f : N1} {k : Nat} (h : gF f) (hk : k < 12) : gF (upd f (13 + k) (-5)) := by
  obtain ⟨hA, hD, hR, hU⟩ := h
  refine ⟨gA_cell hA (Or.inr rfl), gD_away hD hk, fun b hb => ?_, ?_⟩
  · rw [upd_ne (show ¬ 12 = 13 + k by omega)]
    by_cases h2 : b = k
    · rw [h2, upd_at]; exact fun _ => rfl
    · rw [upd_ne (by omega)]
      exact hR b hb
  · unfold gU
    rw [upd_ne (by omega)]
    exact hU
theorem gF_put {f : N1} {k c : Nat} (h : gF f) (hk : k < 12) (hc : c < 61) (he : (k : Int) < (f 12).toInt) (hn : ∀ j, j < 12 → ¬ f (13 + j) = nI c) : gF (upd f (13 + k) (nI c)) := by
  obtain ⟨hA, hD, hR, hU⟩ := h
  refine ⟨gA_cell hA (Or.inl (vp_in_nI hc (by decide))), gD_put hD hk hn, fun b hb => ?_, ?_⟩
  · rw [upd_ne (show ¬ 12 = 13 + k by omega)]
    intro h2
    rw [upd_ne (by omega)]
    exact hR b hb h2
  · unfold gU
    rw [upd_ne (by omega)]
    exact hU
theorem ever_lt {f : N1} {k c : Nat} (hR : gR f) (hk : k < 12) (hc : c < 61) (h : f (13 + k) = nI c) : (k : Int) < (f 12).toInt := by
  by_cases h2 : (k : Int) < (f 12).toInt
  · exact h2
  · exact absurd (h.symm.trans (hR k hk (by omega))) (nI_no (by omega))
/-! the class's events in short -/
theorem bank_cl (z : N1) (sp : UInt32) (d : N1) (σ : N2) : fX3_bank z sp d σ = (upd (upd z 4 (z 4 + 1)) 2 (if z 2 + z 1 < 3 then z 2 + z 1 else z 2 + z 1 - 3), FP.fmul sp (kF (σ 6 1)), if z 2 + z 1 < 3 then fX5_turnAtBank d else fX5_turnOnIfOpen (fX5_turnAtBank d), fX4_addBank σ (z 0)) := by
  unfold fX3_bank
  simp only [upd_at, upd_twice, upd_ne (f := z) (show ¬ 2 = 4 by decide), upd_ne (f := z) (show ¬ 1 = 4 by decide), upd_ne (f := z) (show ¬ 0 = 4 by decide)]
  split
  · rfl
  · rfl
theorem hit_cl (z : N1) (sp : UInt32) (d : N1) (σ : N2) (ot : Int32) : fX3_hit z sp d σ ot = (upd (upd (upd (upd z 5 (z 5 + 1)) 0 ot) 1 0) 2 0, FP.fmul sp (kF (σ 6 2)), fX5_stepAhead d, fX4_addHit σ (z 0)) := by
  unfold fX3_hit
  simp only [upd_ne (f := z) (show ¬ 0 = 5 by decide)]
  rfl
theorem step_cl (z : N1) (sp : UInt32) (d : N1) (σ : N2) (ce : Int32) : fX3_step z sp d σ ce = if fX4_isOpenPot (fX4_place (fX4_addStep σ (z 0)) (z 0) ce) ce = 0 then (upd z 3 (z 3 + 1), FP.fmul sp (kF (σ 6 0)), fX5_stepAhead d, fX4_place (fX4_addStep σ (z 0)) (z 0) ce) else (upd (upd z 3 (z 3 + 1)) 6 (z 0), FP.fmul sp (kF (σ 6 0)), fX5_stepAhead d, fX4_lift (fX4_place (fX4_addStep σ (z 0)) (z 0) ce) (z 0)) := by
  unfold fX3_step
  simp only [upd_ne (f := z) (show ¬ 0 = 3 by decide)]
  rfl
theorem pot_cl {f : N1} {c : Nat} (hc : c < 61) : fX4_isOpenPot (cls f) (nI c) = if coC (nI c) = (-5) then 0 else if (((f 3) >>> ((coC (nI c)) &&& 31)) &&& 1) = 1 then 1 else 0 := by
  unfold fX4_isOpenPot
  rw [gm_corner ⟨c, hc⟩, cls_81]
theorem bank_add {f : N1} {k : Nat} (hk : k < 12) : fX4_addBank (cls f) (nI k) = cls (upd f (49 + k) (f (49 + k) + 1)) := by
  unfold fX4_addBank
  rw [if_neg (isBN hk), nI_c (by omega), cls_3 hk, cls_u3 hk]
theorem hit_add {f : N1} {k : Nat} (hk : k < 12) : fX4_addHit (cls f) (nI k) = cls (upd f (61 + k) (f (61 + k) + 1)) := by
  unfold fX4_addHit
  rw [if_neg (isBN hk), nI_c (by omega), cls_4 hk, cls_u4 hk]
theorem step_add {f : N1} {k : Nat} (hk : k < 12) : fX4_addStep (cls f) (nI k) = cls (upd f (37 + k) (f (37 + k) + 1)) := by
  unfold fX4_addStep
  rw [if_neg (isBN hk), nI_c (by omega), cls_2 hk, cls_u2 hk]
theorem upd_comm {f : N1} {i j : Nat} {x y : Int32} (h : ¬ i = j) : upd (upd f i x) j y = upd (upd f j y) i x := by
  funext k
  by_cases h1 : k = i
  · by_cases h2 : k = j
    · exact absurd (h1.symm.trans h2) h
    · rw [upd_ne h2, h1, upd_at, upd_at]
  · by_cases h2 : k = j
    · rw [upd_ne h1, h2, upd_at, upd_at]
    · rw [upd_ne h2, upd_ne h1, upd_ne h1, upd_ne h2]
/-- side by side in a shot -/
def QS (z d : N1) (σ μ : N2) : Prop := σ = cls (μ 0) ∧ gF (μ 0) ∧ (z 0 = μ 9 2 ∧ z 1 = μ 9 5 ∧ z 2 = μ 9 4 ∧ z 3 = μ 9 7 ∧ z 4 = μ 9 8 ∧ z 5 = μ 9 9 ∧ z 6 = μ 9 6) ∧ (fX4_total (cls (μ 0) 3) = μ 0 10 + μ 9 8 ∧ fX4_total (cls (μ 0) 4) = μ 0 11 + μ 9 9) ∧ ∃ k, k < 12 ∧ μ 9 2 = nI k ∧ ((k : Int) < (μ 0 12).toInt ∧ (μ 9 6 = (-5) ∨ μ 9 6 = nI k)) ∧ (μ 9 6 = (-5) → ∃ c w, c < 61 ∧ w < 6 ∧ μ 0 (13 + k) = nI c ∧ μ 9 3 = nI w ∧ dW d c w)

