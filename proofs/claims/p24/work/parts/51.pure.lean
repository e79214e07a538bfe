/-! p24: counts, cells, balls, cells on the way, told by both objects (wip/p24/p51.lean) -/
section
variable {S T : So} {f : N1} {M : Nat}
theorem onN_rt (hF : gF f) : onN (rt f) 12 = onN f 12 := onN_congr 12 (Nat.le_refl 12) (fun b hb => by rw [rt_cell hb]; exact rC_no (hF.1.2.1 b hb))
theorem al_10 (hB : BI M f S T) : fL_pots (an_count S 10) = an_count T 10 := by
  obtain ⟨hG, ⟨s1, s2, s3⟩, ⟨t1, t2, t3⟩⟩ := hB
  rw [ct_10 s1, ct_10 t1, rt_3]
  rfl
theorem al_ct (hB : BI M f S T) : ∀ k : Nat, k < 14 → ¬ nI k = 10 → an_count S (nI k) = an_count T (nI k) := by
  obtain ⟨hG, ⟨s1, s2, s3⟩, ⟨t1, t2, t3⟩⟩ := hB
  intro k hk h10
  have o : ∀ j, j < 3 ∨ 3 < j ∧ j < 13 ∨ 25 ≤ j → f j = rt f j := fun j hj => (rt_oth hj).symm
  match k, hk, h10 with
  | 0, _, _ => exact (ct_0 s1).trans ((congrArg nI (onN_rt hG.1).symm).trans (ct_0 t1).symm)
  | 1, _, _ => exact (ct_1 s1).trans ((o 12 (by omega)).trans (ct_1 t1).symm)
  | 2, _, _ => exact (ct_2 s1).trans ((o 4 (by omega)).trans (ct_2 t1).symm)
  | 3, _, _ => exact (ct_3 s1).trans ((o 6 (by omega)).trans (ct_3 t1).symm)
  | 4, _, _ => exact (ct_4 s1).trans ((o 7 (by omega)).trans (ct_4 t1).symm)
  | 5, _, _ => exact (ct_5 s1).trans ((o 5 (by omega)).trans (ct_5 t1).symm)
  | 6, _, _ => exact (ct_6 s1).trans ((o 8 (by omega)).trans (ct_6 t1).symm)
  | 7, _, _ => exact (ct_7 s1).trans ((o 9 (by omega)).trans (ct_7 t1).symm)
  | 8, _, _ => exact (ct_8 s1).trans ((congrArg fX4_total (cls_r3 (fun b hb => o (49 + b) (by omega)))).trans (ct_8 t1).symm)
  | 9, _, _ => exact (ct_9 s1).trans ((congrArg fX4_total (cls_r4 (fun b hb => o (61 + b) (by omega)))).trans (ct_9 t1).symm)
  | 10, _, h => exact absurd rfl h
  | 11, _, _ => exact (ct_11 (k := 0) s1 (by decide)).trans ((o 0 (by omega)).trans (ct_11 (k := 0) t1 (by decide)).symm)
  | 12, _, _ => exact (ct_11 (k := 1) s1 (by decide)).trans ((o 1 (by omega)).trans (ct_11 (k := 1) t1 (by decide)).symm)
  | 13, _, _ => exact (ct_11 (k := 2) s1 (by decide)).trans ((o 2 (by omega)).trans (ct_11 (k := 2) t1 (by decide)).symm)
theorem ofc_0 {c : Nat} (hc : c < 61) : an_ofCell S (nI c) 0 = fX1_columnOf (nI c) + 4 := by
  unfold an_ofCell fX6_ofCell
  rw [if_neg (isCe hc), if_pos rfl]
theorem ofc_1 {c : Nat} (hc : c < 61) : an_ofCell S (nI c) 1 = fX1_rowOf (nI c) + 4 := by
  unfold an_ofCell fX6_ofCell
  rw [if_neg (isCe hc), if_neg (by decide), if_pos rfl]
theorem ofc_3 {c : Nat} (hc : c < 61) : an_ofCell S (nI c) 3 = fX1_cornerOf (nI c) := by
  unfold an_ofCell fX6_ofCell
  rw [if_neg (isCe hc), if_neg (by decide), if_neg (by decide), if_neg (by decide), if_pos rfl]
theorem ofc_4 {c : Nat} (hc : c < 61) : an_ofCell S (nI c) 4 = fX1_cellsBeside (nI c) := by
  unfold an_ofCell fX6_ofCell
  rw [if_neg (isCe hc), if_neg (by decide), if_neg (by decide), if_neg (by decide), if_neg (by decide), if_pos rfl]
theorem fin_c4 : ∀ c : Fin 61, fX1_cellsBeside (nI c.val) = fX1_cellsBeside (nI (60 - c.val)) := by decide +kernel
theorem fin_c01 : ∀ c : Fin 61, fX1_columnOf (nI c.val) + 4 + (fX1_columnOf (nI (60 - c.val)) + 4) = 8 ∧ fX1_rowOf (nI c.val) + 4 + (fX1_rowOf (nI (60 - c.val)) + 4) = 8 := by decide +kernel
theorem fin_c3 : ∀ c : Fin 61, (¬ 0 ≤ fX1_cornerOf (nI c.val) ∧ fX1_cornerOf (nI (60 - c.val)) = fX1_cornerOf (nI c.val)) ∨ (0 ≤ fX1_cornerOf (nI c.val) ∧ fX1_cornerOf (nI (60 - c.val)) = fL_way (fX1_cornerOf (nI c.val))) := by decide +kernel
theorem th_c {c : Nat} (hc : c < 61) : fL_there (nI c) = nI (60 - c) := by rw [there_rC, rC_c hc]
theorem al_c2 {c : Nat} (hB : BI M f S T) (hc : c < 61) : an_ofCell S (nI c) 2 = an_ofCell T (fL_there (nI c)) 2 := by
  rw [th_c hc, ofc_2 hB.2.1.1 hc, ofc_2 hB.2.2.1 (by omega), rt_bo hB.1.1 hc]
theorem al_c4 {c : Nat} (hc : c < 61) : an_ofCell S (nI c) 4 = an_ofCell T (fL_there (nI c)) 4 := by
  rw [th_c hc, ofc_4 hc, ofc_4 (by omega)]
  exact fin_c4 ⟨c, hc⟩
theorem al_c0 {c : Nat} (hc : c < 61) : an_ofCell S (nI c) 0 + an_ofCell T (fL_there (nI c)) 0 = 8 := by
  rw [th_c hc, ofc_0 hc, ofc_0 (by omega)]
  exact (fin_c01 ⟨c, hc⟩).1
theorem al_c1 {c : Nat} (hc : c < 61) : an_ofCell S (nI c) 1 + an_ofCell T (fL_there (nI c)) 1 = 8 := by
  rw [th_c hc, ofc_1 hc, ofc_1 (by omega)]
  exact (fin_c01 ⟨c, hc⟩).2
theorem al_c3n {c : Nat} (hc : c < 61) (h : ¬ 0 ≤ an_ofCell S (nI c) 3) : an_ofCell T (fL_there (nI c)) 3 = an_ofCell S (nI c) 3 := by
  rw [ofc_3 hc] at h
  rw [th_c hc, ofc_3 hc, ofc_3 (by omega)]
  rcases fin_c3 ⟨c, hc⟩ with q | q
  · exact q.2
  · exact absurd q.1 h
theorem al_c3y {c : Nat} (hc : c < 61) (h : 0 ≤ an_ofCell S (nI c) 3) : an_ofCell T (fL_there (nI c)) 3 = fL_way (an_ofCell S (nI c) 3) := by
  rw [ofc_3 hc] at h
  rw [th_c hc, ofc_3 hc, ofc_3 (by omega)]
  rcases fin_c3 ⟨c, hc⟩ with q | q
  · exact absurd h q.1
  · exact q.2
theorem al_b0 {b : Nat} (hB : BI M f S T) (hb : b < 12) : fL_there (an_ball S (nI b) 0) = an_ball T (nI b) 0 := by
  obtain ⟨hG, ⟨s1, s2, s3⟩, ⟨t1, t2, t3⟩⟩ := hB
  by_cases h5 : f (13 + b) = (-5)
  · have h6 : rt f (13 + b) = (-5) := by rw [rt_cell hb, h5]; exact rC_5
    rw [bal_no s1 (no_b hb h5), bal_no t1 (no_b hb h6)]
    decide
  · have h6 : ¬ rt f (13 + b) = (-5) := by rw [rt_cell hb]; exact fun q => h5 ((rC_no (hG.1.1.2.1 b hb)).mp q)
    rw [bal_0 s1 hb h5, bal_0 t1 hb h6, there_rC, rt_cell hb]
theorem al_bn {b : Nat} (hB : BI M f S T) (hb : b < 12) : ∀ k : Nat, k < 5 → ¬ nI k = 0 → an_ball S (nI b) (nI k) = an_ball T (nI b) (nI k) := by
  obtain ⟨hG, ⟨s1, s2, s3⟩, ⟨t1, t2, t3⟩⟩ := hB
  intro k hk h0
  by_cases h5 : f (13 + b) = (-5)
  · have h6 : rt f (13 + b) = (-5) := by rw [rt_cell hb, h5]; exact rC_5
    rw [bal_no s1 (no_b hb h5), bal_no t1 (no_b hb h6)]
  · have h6 : ¬ rt f (13 + b) = (-5) := by rw [rt_cell hb]; exact fun q => h5 ((rC_no (hG.1.1.2.1 b hb)).mp q)
    have o : ∀ j, 25 ≤ j → f j = rt f j := fun j hj => (rt_oth (by omega)).symm
    match k, hk, h0 with
    | 0, _, h => exact absurd rfl h
    | 1, _, _ => exact (bal_1 s1 hb h5).trans ((o (25 + b) (by omega)).trans (bal_1 t1 hb h6).symm)
    | 2, _, _ => exact (bal_2 s1 hb h5).trans ((o (37 + b) (by omega)).trans (bal_2 t1 hb h6).symm)
    | 3, _, _ => exact (bal_3 s1 hb h5).trans ((o (49 + b) (by omega)).trans (bal_3 t1 hb h6).symm)
    | 4, _, _ => exact (bal_4 s1 hb h5).trans ((o (61 + b) (by omega)).trans (bal_4 t1 hb h6).symm)
end
/-! cells on the way -/
theorem DP_bank2 {d e : N1} {c w : Nat} (h : DP d e c w) (hc : c < 61) (hw : w < 6) (ha : ahC (nI c) (nI w) = (-5)) : ∃ v, v < 6 ∧ DP (fX5_turnAtBank d) (fX5_turnAtBank e) c v ∧ ¬ ahC (nI c) (nI v) = (-5) := by
  have h1 := dW_bank h.1 hc hw ha
  have ea : ahC (nI (60 - c)) (nI (rvN w)) = (-5) := (rt_ah ⟨c, hc⟩ ⟨w, hw⟩).trans (by rw [ha, rC_5])
  have h2 := dW_bank h.2 (show 60 - c < 61 by omega) (rv_lt w) ea
  have et := (rt_tu ⟨c, hc⟩ ⟨w, hw⟩).resolve_left (fun q => q ha)
  rw [et, nI_c (Nat.lt_trans (rv_lt _) (by decide))] at h2
  obtain ⟨b1, b2⟩ := nI_back (tu_vin hc hw ha) (by decide)
  refine ⟨_, b2, ⟨h1, h2⟩, ?_⟩
  rw [b1]
  exact (fin_tu ⟨c, hc⟩ ⟨w, hw⟩ ha).2
theorem DP_go {d e : N1} {c w : Nat} (h : DP d e c w) (hc : c < 61) (hw : w < 6) (hn : ¬ ahC (nI c) (nI w) = (-5)) : ∃ b, b < 61 ∧ DP (fX5_stepAhead d) (fX5_stepAhead e) b w := by
  obtain ⟨b, hb, ha⟩ := vin_nI ((ah_or hc hw).resolve_right hn)
  exact ⟨b, hb, DP_step h hc hw hb ha⟩
theorem DP_walk {d e : N1} {c w : Nat} (h : DP d e c w) (hc : c < 61) (hw : w < 6) : ∀ n, ∃ b v, b < 61 ∧ v < 6 ∧ DP (wkN d n) (wkN e n) b v := by
  intro n
  induction n with
  | zero => exact ⟨c, w, hc, hw, h⟩
  | succ n ih =>
    obtain ⟨b, v, hb, hv, hD⟩ := ih
    obtain ⟨a1, a2⟩ := DP_ahead hD hb hv
    unfold wkN
    by_cases h5 : ahC (nI b) (nI v) = (-5)
    · rw [if_pos (a1.trans h5), if_pos (by rw [a2, h5]; exact rC_5)]
      obtain ⟨u, hu, hD2, hn⟩ := DP_bank2 hD hb hv h5
      obtain ⟨x, hx, hD3⟩ := DP_go hD2 hb hu hn
      exact ⟨x, u, hx, hu, hD3⟩
    · rw [if_neg (fun q => h5 (a1.symm.trans q)), if_neg (fun q => h5 ((rC_no (ah_or hb hv)).mp (a2.symm.trans q)))]
      obtain ⟨x, hx, hD3⟩ := DP_go hD hb hv h5
      exact ⟨x, v, hx, hv, hD3⟩
theorem fin_turn3 : ∀ w : Fin 6, fX1_turned (nI w.val) 3 = nI (rvN w.val) := by decide +kernel
theorem fin_at : ∀ c : Fin 61, fX1_cellAt (tQ c.val) (tR c.val) = nI c.val := by decide +kernel
theorem DP_back {d e : N1} {c w : Nat} (h : DP d e c w) (hw : w < 6) : DP (upd d 2 (fX1_turned (d 2) 3)) (upd e 2 (fX1_turned (e 2) 3)) c (rvN w) := by
  have e1 : d 2 = nI w := h.1.2.2
  have e2 : e 2 = nI (rvN w) := h.2.2.2
  rw [e1, e2, fin_turn3 ⟨w, hw⟩]
  have e3 := fin_turn3 ⟨rvN w, rv_lt w⟩
  rw [e3]
  exact ⟨dW_dir h.1, dW_dir h.2⟩
theorem DP_told {d e : N1} {c w : Nat} (h : DP d e c w) (hc : c < 61) : fX1_cellAt (e 0) (e 1) = rC (fX1_cellAt (d 0) (d 1)) := by
  obtain ⟨⟨a1, a2, -⟩, ⟨b1, b2, -⟩⟩ := h
  rw [a1, a2, b1, b2, fin_at ⟨c, hc⟩, rC_c hc]
  exact fin_at ⟨60 - c, by omega⟩
theorem al_along {S T : So} {ce d se bk : Int32} (hc0 : vp_in ce 61) (hd : vp_in d 6) : fL_there (an_along S ce d se bk) = an_along T (fL_there ce) (fL_way d) se bk := by
  obtain ⟨c, hc, rfl⟩ := vin_nI hc0
  obtain ⟨w, hw, rfl⟩ := vin_nI hd
  rw [th_c hc, way_rv hw, there_rC]
  unfold an_along fX6_along
  rw [if_neg (isCe hc), if_neg (isCe (show 60 - c < 61 by omega)), if_neg (dirs ⟨w, hw⟩), if_neg (dirs ⟨rvN w, rv_lt w⟩)]
  by_cases h1 : se < 0
  · rw [if_pos h1, if_pos h1]; exact (by decide : rC (-2) = (-2))
  · rw [if_neg h1, if_neg h1]
    by_cases h2 : se ≤ 99
    · rw [if_pos h2, if_pos h2]
      obtain ⟨b, v, hb, hv, hD⟩ := DP_walk (DP_start (d := oD S) (e := oD T) (w := w) hc) hc hw se.toNatClampNeg
      by_cases h3 : bk = 0
      · rw [if_pos h3, if_pos h3]
        exact (DP_told hD hb).symm
      · rw [if_neg h3, if_neg h3]
        obtain ⟨b2, v2, hb2, hv2, hD2⟩ := DP_walk (DP_back hD hv) hb (rv_lt v) se.toNatClampNeg
        exact (DP_told hD2 hb2).symm
    · rw [if_neg h2, if_neg h2]; exact (by decide : rC (-2) = (-2))
