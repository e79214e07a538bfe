/-! the events, side by side (wip/whole/gen/p32.lean) -/
theorem bankC_0 {μ : N2} {k : Nat} {wy th : Int32} : (bankC μ k wy th) 0 = upd (μ 0) (49 + k) (μ 0 (49 + k) + 1) := by
  unfold bankC
  rw [u2_row (by decide), u2_self, u2_row (by decide), u2_row (by decide)]
theorem bankC_9 {μ : N2} {k : Nat} {wy th : Int32} : (bankC μ k wy th) 9 2 = μ 9 2 ∧ (bankC μ k wy th) 9 3 = wy ∧ (bankC μ k wy th) 9 4 = th ∧ (bankC μ k wy th) 9 5 = μ 9 5 ∧ (bankC μ k wy th) 9 6 = μ 9 6 ∧ (bankC μ k wy th) 9 7 = μ 9 7 ∧ (bankC μ k wy th) 9 8 = μ 9 8 + 1 ∧ (bankC μ k wy th) 9 9 = μ 9 9 := by
  refine ⟨?_, ?_, ?_, ?_, ?_, ?_, ?_, ?_⟩ <;> simp [bankC, u2_get]
theorem hitC_0 {μ : N2} {k : Nat} {ot : Int32} : (hitC μ k ot) 0 = upd (μ 0) (61 + k) (μ 0 (61 + k) + 1) := by
  unfold hitC
  rw [u2_row (by decide), u2_row (by decide), u2_row (by decide), u2_row (by decide), u2_self]
theorem hitC_9 {μ : N2} {k : Nat} {ot : Int32} : (hitC μ k ot) 9 2 = ot ∧ (hitC μ k ot) 9 3 = μ 9 3 ∧ (hitC μ k ot) 9 4 = 0 ∧ (hitC μ k ot) 9 5 = 0 ∧ (hitC μ k ot) 9 6 = μ 9 6 ∧ (hitC μ k ot) 9 7 = μ 9 7 ∧ (hitC μ k ot) 9 8 = μ 9 8 ∧ (hitC μ k ot) 9 9 = μ 9 9 + 1 := by
  refine ⟨?_, ?_, ?_, ?_, ?_, ?_, ?_, ?_⟩ <;> simp [hitC, u2_get]
theorem stepC_0 {μ : N2} {k : Nat} {ce : Int32} : (stepC μ k ce) 0 = upd (upd (μ 0) (13 + k) ce) (37 + k) (μ 0 (37 + k) + 1) := by
  unfold stepC
  rw [u2_row (by decide), u2_self, u2_self]
theorem stepC_9 {μ : N2} {k : Nat} {ce : Int32} : (stepC μ k ce) 9 2 = μ 9 2 ∧ (stepC μ k ce) 9 3 = μ 9 3 ∧ (stepC μ k ce) 9 4 = μ 9 4 ∧ (stepC μ k ce) 9 5 = μ 9 5 ∧ (stepC μ k ce) 9 6 = μ 9 6 ∧ (stepC μ k ce) 9 7 = μ 9 7 + 1 ∧ (stepC μ k ce) 9 8 = μ 9 8 ∧ (stepC μ k ce) 9 9 = μ 9 9 := by
  refine ⟨?_, ?_, ?_, ?_, ?_, ?_, ?_, ?_⟩ <;> simp [stepC, u2_get]
theorem goneC_0 {μ : N2} {k : Nat} {ce : Int32} : (goneC μ k ce) 0 = upd ((stepC μ k ce) 0) (13 + k) (-5) := by
  unfold goneC
  rw [u2_self, u2_row (by decide)]
theorem goneC_9 {μ : N2} {k : Nat} {ce : Int32} : (goneC μ k ce) 9 2 = μ 9 2 ∧ (goneC μ k ce) 9 3 = μ 9 3 ∧ (goneC μ k ce) 9 4 = μ 9 4 ∧ (goneC μ k ce) 9 5 = μ 9 5 ∧ (goneC μ k ce) 9 6 = nI k ∧ (goneC μ k ce) 9 7 = μ 9 7 + 1 ∧ (goneC μ k ce) 9 8 = μ 9 8 ∧ (goneC μ k ce) 9 9 = μ 9 9 := by
  refine ⟨?_, ?_, ?_, ?_, ?_, ?_, ?_, ?_⟩ <;> simp [goneC, stepC, u2_get] <;> rfl
theorem ev_bank {z d : N1} {μ : N2} {sp : UInt32} {k c w : Nat} (hF : gF (μ 0)) (hT : gTab μ) (hz : z 0 = μ 9 2 ∧ z 1 = μ 9 5 ∧ z 2 = μ 9 4 ∧ z 3 = μ 9 7 ∧ z 4 = μ 9 8 ∧ z 5 = μ 9 9 ∧ z 6 = μ 9 6) (ht : fX4_total (cls (μ 0) 3) = μ 0 10 + μ 9 8 ∧ fX4_total (cls (μ 0) 4) = μ 0 11 + μ 9 9) (hk : k < 12) (hm : μ 9 2 = nI k) (hc : c < 61) (hw : w < 6) (e1 : μ 0 (13 + k) = nI c) (e2 : μ 9 3 = nI w) (hd : dW d c w) (h6 : μ 9 6 = (-5)) (he : (k : Int) < (μ 0 12).toInt) (ha : ahC (nI c) (nI w) = (-5)) :
    QS (fX3_bank z sp d (cls (μ 0))).1 (fX3_bank z sp d (cls (μ 0))).2.2.1 (fX3_bank z sp d (cls (μ 0))).2.2.2 (fX7_bank μ sp).1 ∧ (fX3_bank z sp d (cls (μ 0))).2.1 = (fX7_bank μ sp).2 := by
  obtain ⟨z0, z1, z2, z3, z4, z5, z6⟩ := hz
  have htv := tu_vin hc hw ha
  rw [bank_form hk hm hT (by rw [e1]; exact vp_in_nI hc (by decide)) (by rw [e1, e2]; exact htv), bank_cl, e1, e2, z0, z1, z2, z4, hm, bank_add hk, cls_6 (show 1 < 3 by decide)]
  refine ⟨?_, rfl⟩
  obtain ⟨b2, b3, b4, b5, b6, b7, b8, b9⟩ := bankC_9 (μ := μ) (k := k) (wy := if μ 9 4 + μ 9 5 < 3 then tuC (nI c) (nI w) else if ahC (nI c) (nxC (tuC (nI c) (nI w))) = (-5) then tuC (nI c) (nI w) else nxC (tuC (nI c) (nI w))) (th := if μ 9 4 + μ 9 5 < 3 then μ 9 4 + μ 9 5 else μ 9 4 + μ 9 5 - 3)
  have b0 := bankC_0 (μ := μ) (k := k) (wy := if μ 9 4 + μ 9 5 < 3 then tuC (nI c) (nI w) else if ahC (nI c) (nxC (tuC (nI c) (nI w))) = (-5) then tuC (nI c) (nI w) else nxC (tuC (nI c) (nI w))) (th := if μ 9 4 + μ 9 5 < 3 then μ 9 4 + μ 9 5 else μ 9 4 + μ 9 5 - 3)
  generalize bankC μ k _ _ = M at b0 b2 b3 b4 b5 b6 b7 b8 b9 ⊢
  show QS (upd (upd z 4 (μ 9 8 + 1)) 2 (if μ 9 4 + μ 9 5 < 3 then μ 9 4 + μ 9 5 else μ 9 4 + μ 9 5 - 3)) (if μ 9 4 + μ 9 5 < 3 then fX5_turnAtBank d else fX5_turnOnIfOpen (fX5_turnAtBank d)) (cls (upd (μ 0) (49 + k) (μ 0 (49 + k) + 1))) M
  unfold QS
  rw [b0, b2, b3, b4, b5, b6, b7, b8, b9]
  refine ⟨rfl, gF_upd hF (by omega), ⟨?_, ?_, ?_, ?_, ?_, ?_, ?_⟩, ⟨?_, ?_⟩, k, hk, hm, ⟨by rw [upd_ne (by omega)]; exact he, Or.inl h6⟩, fun _ => ?_⟩
  · exact (upd_ne (by decide)).trans ((upd_ne (by decide)).trans z0)
  · exact (upd_ne (by decide)).trans ((upd_ne (by decide)).trans z1)
  · exact upd_at
  · exact (upd_ne (by decide)).trans ((upd_ne (by decide)).trans z3)
  · exact (upd_ne (by decide)).trans upd_at
  · exact (upd_ne (by decide)).trans ((upd_ne (by decide)).trans z5)
  · exact (upd_ne (by decide)).trans ((upd_ne (by decide)).trans z6)
  · rw [tot_cls3 hk, ht.1, upd_ne (by omega), Int32.add_assoc]
  · rw [← cls_r4 (f := μ 0) (fun b hb => (upd_ne (by omega)).symm), ht.2, upd_ne (by omega)]
  · obtain ⟨t1, t2⟩ := nI_back htv (by decide)
    by_cases h3 : μ 9 4 + μ 9 5 < 3
    · rw [if_pos h3, if_pos h3]
      exact ⟨c, _, hc, t2, by rw [upd_ne (by omega)]; exact e1, t1.symm, dW_bank hd hc hw ha⟩
    · rw [if_neg h3, if_neg h3]
      have ho := dW_open (dW_bank hd hc hw ha) hc t2
      rw [t1] at ho
      have hv : vp_in (if ahC (nI c) (nxC (tuC (nI c) (nI w))) = (-5) then tuC (nI c) (nI w) else nxC (tuC (nI c) (nI w))) 6 := by
        split
        · exact htv
        · have := nx_vin t2
          rw [t1] at this
          exact this
      obtain ⟨s1, s2⟩ := nI_back hv (by decide)
      exact ⟨c, _, hc, s2, by rw [upd_ne (by omega)]; exact e1, s1.symm, ho⟩
theorem ev_hit {z d : N1} {μ : N2} {sp : UInt32} {k c w j c2 : Nat} (hF : gF (μ 0)) (hz : z 0 = μ 9 2 ∧ z 1 = μ 9 5 ∧ z 2 = μ 9 4 ∧ z 3 = μ 9 7 ∧ z 4 = μ 9 8 ∧ z 5 = μ 9 9 ∧ z 6 = μ 9 6) (ht : fX4_total (cls (μ 0) 3) = μ 0 10 + μ 9 8 ∧ fX4_total (cls (μ 0) 4) = μ 0 11 + μ 9 9) (hk : k < 12) (hm : μ 9 2 = nI k) (hc : c < 61) (hw : w < 6) (e2 : μ 9 3 = nI w) (hd : dW d c w) (h6 : μ 9 6 = (-5)) (hc2 : c2 < 61) (ha : ahC (nI c) (nI w) = nI c2) (hj : j < 12) (e3 : μ 0 (13 + j) = nI c2) :
    QS (fX3_hit z sp d (cls (μ 0)) (nI j)).1 (fX3_hit z sp d (cls (μ 0)) (nI j)).2.2.1 (fX3_hit z sp d (cls (μ 0)) (nI j)).2.2.2 (fX7_hit μ sp (nI j)).1 ∧ (fX3_hit z sp d (cls (μ 0)) (nI j)).2.1 = (fX7_hit μ sp (nI j)).2 := by
  obtain ⟨z0, z1, z2, z3, z4, z5, z6⟩ := hz
  rw [hit_form hk hm, hit_cl, z0, z5, hm, hit_add hk, cls_6 (show 2 < 3 by decide)]
  refine ⟨?_, rfl⟩
  obtain ⟨b2, b3, b4, b5, b6, b7, b8, b9⟩ := hitC_9 (μ := μ) (k := k) (ot := nI j)
  have b0 := hitC_0 (μ := μ) (k := k) (ot := nI j)
  generalize hitC μ k (nI j) = M at b0 b2 b3 b4 b5 b6 b7 b8 b9 ⊢
  show QS (upd (upd (upd (upd z 5 (μ 9 9 + 1)) 0 (nI j)) 1 0) 2 0) (fX5_stepAhead d) (cls (upd (μ 0) (61 + k) (μ 0 (61 + k) + 1))) M
  unfold QS
  rw [b0, b2, b3, b4, b5, b6, b7, b8, b9]
  refine ⟨rfl, gF_upd hF (by omega), ⟨?_, ?_, ?_, ?_, ?_, ?_, ?_⟩, ⟨?_, ?_⟩, j, hj, rfl, ⟨by rw [upd_ne (by omega)]; exact ever_lt hF.2.2.1 hj hc2 e3, Or.inl h6⟩, fun _ => ?_⟩
  · exact (upd_ne (by decide)).trans ((upd_ne (by decide)).trans upd_at)
  · exact (upd_ne (by decide)).trans upd_at
  · exact upd_at
  · exact (upd_ne (by decide)).trans ((upd_ne (by decide)).trans ((upd_ne (by decide)).trans ((upd_ne (by decide)).trans z3)))
  · exact (upd_ne (by decide)).trans ((upd_ne (by decide)).trans ((upd_ne (by decide)).trans ((upd_ne (by decide)).trans z4)))
  · exact (upd_ne (by decide)).trans ((upd_ne (by decide)).trans ((upd_ne (by decide)).trans upd_at))
  · exact (upd_ne (by decide)).trans ((upd_ne (by decide)).trans ((upd_ne (by decide)).trans ((upd_ne (by decide)).trans z6)))
  · rw [← cls_r3 (f := μ 0) (fun b hb => (upd_ne (by omega)).symm), ht.1, upd_ne (by omega)]
  · rw [tot_cls4 hk, ht.2, upd_ne (by omega), Int32.add_assoc]
  · have hs := dW_step hd hc hw (by rw [ha]; exact nI_no (by omega))
    rw [ha, nI_c (by omega)] at hs
    exact ⟨c2, w, hc2, hw, by rw [upd_ne (by omega)]; exact e3, e2, hs⟩
theorem ev_step {z d : N1} {μ : N2} {sp : UInt32} {k c w c2 : Nat} (hF : gF (μ 0)) (hT : gTab μ) (hz : z 0 = μ 9 2 ∧ z 1 = μ 9 5 ∧ z 2 = μ 9 4 ∧ z 3 = μ 9 7 ∧ z 4 = μ 9 8 ∧ z 5 = μ 9 9 ∧ z 6 = μ 9 6) (ht : fX4_total (cls (μ 0) 3) = μ 0 10 + μ 9 8 ∧ fX4_total (cls (μ 0) 4) = μ 0 11 + μ 9 9) (hk : k < 12) (hm : μ 9 2 = nI k) (hc : c < 61) (hw : w < 6) (e1 : μ 0 (13 + k) = nI c) (e2 : μ 9 3 = nI w) (hd : dW d c w) (h6 : μ 9 6 = (-5)) (he : (k : Int) < (μ 0 12).toInt) (hc2 : c2 < 61) (ha : ahC (nI c) (nI w) = nI c2) (hn : ∀ j, j < 12 → ¬ μ 0 (13 + j) = nI c2) :
    QS (fX3_step z sp d (cls (μ 0)) (nI c2)).1 (fX3_step z sp d (cls (μ 0)) (nI c2)).2.2.1 (fX3_step z sp d (cls (μ 0)) (nI c2)).2.2.2 (fX7_step μ sp (nI c2)).1 ∧ (fX3_step z sp d (cls (μ 0)) (nI c2)).2.1 = (fX7_step μ sp (nI c2)).2 := by
  obtain ⟨z0, z1, z2, z3, z4, z5, z6⟩ := hz
  have hF1 := gF_upd (j := 37 + k) (x := μ 0 (37 + k) + 1) hF (by omega)
  have hn1 : ∀ j, j < 12 → ¬ (upd (μ 0) (37 + k) (μ 0 (37 + k) + 1)) (13 + j) = nI c2 := fun j hj => by rw [upd_ne (by omega)]; exact hn j hj
  have hF2 := gF_put hF1 hk hc2 (by rw [upd_ne (by omega)]; exact ever_lt hF.2.2.1 hk hc e1) hn1
  have hpl : fX4_place (fX4_addStep (cls (μ 0)) (z 0)) (z 0) (nI c2) = cls ((stepC μ k (nI c2)) 0) := by
    rw [z0, hm, step_add hk, place_c hF1.1 hF1.2.1 hk hc2 hn1, stepC_0, upd_comm (by omega)]
  have hF3 : gF ((stepC μ k (nI c2)) 0) := by
    rw [stepC_0, upd_comm (by omega)]
    exact hF2
  have f3 : (stepC μ k (nI c2)) 0 3 = μ 0 3 := by
    rw [stepC_0, upd_ne (by omega), upd_ne (by omega)]
  have f13 : (stepC μ k (nI c2)) 0 (13 + k) = nI c2 := by
    rw [stepC_0, upd_ne (by omega), upd_at]
  have f10 : (stepC μ k (nI c2)) 0 10 = μ 0 10 := by
    rw [stepC_0, upd_ne (by omega), upd_ne (by omega)]
  have f11 : (stepC μ k (nI c2)) 0 11 = μ 0 11 := by
    rw [stepC_0, upd_ne (by omega), upd_ne (by omega)]
  have f12 : (stepC μ k (nI c2)) 0 12 = μ 0 12 := by
    rw [stepC_0, upd_ne (by omega), upd_ne (by omega)]
  have c3 : cls ((stepC μ k (nI c2)) 0) 3 = cls (μ 0) 3 := cls_r3 fun b hb => by rw [stepC_0, upd_ne (by omega), upd_ne (by omega)]
  have c4 : cls ((stepC μ k (nI c2)) 0) 4 = cls (μ 0) 4 := cls_r4 fun b hb => by rw [stepC_0, upd_ne (by omega), upd_ne (by omega)]
  have hs := dW_step hd hc hw (by rw [ha]; exact nI_no (by omega))
  rw [ha, nI_c (by omega)] at hs
  obtain ⟨b2, b3, b4, b5, b6, b7, b8, b9⟩ := stepC_9 (μ := μ) (k := k) (ce := nI c2)
  have zz : ∀ i : Nat, ¬ i = 3 → upd z 3 (z 3 + 1) i = z i := fun i hi => upd_ne hi
  have plain : QS (upd z 3 (z 3 + 1)) (fX5_stepAhead d) (cls ((stepC μ k (nI c2)) 0)) (stepC μ k (nI c2)) := by
    unfold QS
    rw [b2, b3, b4, b5, b6, b7, b8, b9, f10, f11, f12, c3, c4, zz 0 (by decide), zz 1 (by decide), zz 2 (by decide), zz 4 (by decide), zz 5 (by decide), zz 6 (by decide), upd_at, z3]
    exact ⟨rfl, hF3, ⟨z0, z1, z2, rfl, z4, z5, z6⟩, ht, k, hk, hm, ⟨he, Or.inl h6⟩, fun _ => ⟨c2, w, hc2, hw, f13, e2, hs⟩⟩
  rw [step_form hk hm hT (vp_in_nI hc2 (by decide)), step_cl, hpl, pot_cl hc2, f3, cls_6 (show 0 < 3 by decide)]
  by_cases h5 : coC (nI c2) = (-5)
  · rw [if_pos h5, if_pos h5, if_pos rfl]
    exact ⟨plain, rfl⟩
  · rw [if_neg h5, if_neg h5]
    by_cases h1 : ((μ 0 3 >>> (coC (nI c2) &&& 31)) &&& 1) = 1
    · rw [if_pos h1, if_pos h1, if_neg (by decide), z0, hm, lift_c hF3.1 hF3.2.1 hk, ← goneC_0]
      refine ⟨?_, rfl⟩
      have hF4 := gF_away hF3 hk
      rw [← goneC_0] at hF4
      have g10 : (goneC μ k (nI c2)) 0 10 = μ 0 10 := by rw [goneC_0, upd_ne (by omega), f10]
      have g11 : (goneC μ k (nI c2)) 0 11 = μ 0 11 := by rw [goneC_0, upd_ne (by omega), f11]
      have g12 : (goneC μ k (nI c2)) 0 12 = μ 0 12 := by rw [goneC_0, upd_ne (by omega), f12]
      have g3 : cls ((goneC μ k (nI c2)) 0) 3 = cls (μ 0) 3 := by rw [← c3]; exact cls_r3 fun b hb => by rw [goneC_0, upd_ne (by omega)]
      have g4 : cls ((goneC μ k (nI c2)) 0) 4 = cls (μ 0) 4 := by rw [← c4]; exact cls_r4 fun b hb => by rw [goneC_0, upd_ne (by omega)]
      obtain ⟨d2, d3, d4, d5, d6, d7, d8, d9⟩ := goneC_9 (μ := μ) (k := k) (ce := nI c2)
      show QS (upd (upd z 3 (z 3 + 1)) 6 (nI k)) (fX5_stepAhead d) (cls ((goneC μ k (nI c2)) 0)) (goneC μ k (nI c2))
      unfold QS
      rw [d2, d3, d4, d5, d6, d7, d8, d9, g10, g11, g12, g3, g4]
      refine ⟨rfl, hF4, ⟨?_, ?_, ?_, ?_, ?_, ?_, ?_⟩, ht, k, hk, hm, ⟨he, Or.inr rfl⟩, fun q => absurd q (nI_no (by omega))⟩
      · rw [upd_ne (by decide), zz 0 (by decide)]; exact z0
      · rw [upd_ne (by decide), zz 1 (by decide)]; exact z1
      · rw [upd_ne (by decide), zz 2 (by decide)]; exact z2
      · rw [upd_ne (by decide), upd_at, z3]
      · rw [upd_ne (by decide), zz 4 (by decide)]; exact z4
      · rw [upd_ne (by decide), zz 5 (by decide)]; exact z5
      · rw [upd_at]
    · rw [if_neg h1, if_neg h1, if_pos rfl]
      exact ⟨plain, rfl⟩

