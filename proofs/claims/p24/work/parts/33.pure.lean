/-! p24: a shot on both felts (wip/p24/p33.lean) -/
theorem ballOn_c {f : N1} {c : Nat} (hc : c < 61) : fX4_ballOnCell (cls f) (nI c) = bo f c := by
  unfold fX4_ballOnCell
  rw [if_neg (isCe hc), nI_c (by omega), cls_5 hc]
theorem rt_set {f : N1} {j : Nat} (h : j < 3) : cls (rt f) 6 j = cls f 6 j := by
  rw [cls_6 h, cls_6 h, rt_oth (by omega)]
def EV (f0 : N1) (n : Nat) (z : N1) (sp : UInt32) (d e f : N1) : Prop := ∃ z1 sp1 d1 e1 f1, plB z sp d (cls f) = (z1, sp1, d1, cls f1) ∧ plB z sp e (cls (rt f)) = (z1, sp1, e1, cls (rt f1)) ∧ QR f0 (n + 1) z1 d1 e1 f1
section
variable {f0 z d e f : N1} {n k c w b j : Nat} {sp : UInt32}
theorem rv_bank (hF : gF f) (hP : gP f) (hg : grw f0 n f) (hb0 : bnd f0 1000000000) (hn : n ≤ 1000000) (hk : k < 12) (hz : z 0 = nI k) (hke : (k : Int) < (f 12).toInt) (h6 : z 6 = (-5)) (hB : ∀ b, b < 12 → (f (13 + b) = (-5) ↔ f0 (13 + b) = (-5))) (hc : c < 61) (hw : w < 6) (hfc : f (13 + k) = nI c) (hD : DP d e c w) (ha : ahC (nI c) (nI w) = (-5)) : EV f0 n z sp d e f := by
  obtain ⟨a1, a2⟩ := DP_ahead hD hc hw
  rw [ha] at a1 a2
  have e1 : plB z sp d (cls f) = (upd (upd z 4 (z 4 + 1)) 2 (if z 2 + z 1 < 3 then z 2 + z 1 else z 2 + z 1 - 3), FP.fmul sp (kF (cls f 6 1)), (if z 2 + z 1 < 3 then fX5_turnAtBank d else fX5_turnOnIfOpen (fX5_turnAtBank d)), cls (upd f (49 + k) (f (49 + k) + 1))) := by
    unfold plB
    rw [a1, if_pos rfl, bank_cl, hz, bank_add hk]
  have e2 : plB z sp e (cls (rt f)) = (upd (upd z 4 (z 4 + 1)) 2 (if z 2 + z 1 < 3 then z 2 + z 1 else z 2 + z 1 - 3), FP.fmul sp (kF (cls f 6 1)), (if z 2 + z 1 < 3 then fX5_turnAtBank e else fX5_turnOnIfOpen (fX5_turnAtBank e)), cls (rt (upd f (49 + k) (f (49 + k) + 1)))) := by
    unfold plB
    rw [a2, rC_5, if_pos rfl, bank_cl, hz, bank_add hk, rt_set (by decide), rt_upd (by omega), rt_oth (by omega)]
  refine ⟨_, _, _, _, _, e1, e2, gF_upd hF (by omega), gP_upd hP (by omega), grw_inc hg hb0 hn (by omega) (by omega) (by intro b _ _; omega), k, hk, ?_, ?_, Or.inl ⟨?_, fun b hb => ?_, ?_⟩⟩
  · rw [upd_ne (by decide), upd_ne (by decide), hz]
  · rw [upd_ne (by omega)]
    exact hke
  · rw [upd_ne (by decide), upd_ne (by decide), h6]
  · rw [upd_ne (by omega)]
    exact hB b hb
  · rw [upd_ne (by omega)]
    obtain ⟨v, hv, hD1⟩ := DP_bank hD hc hw ha
    by_cases h3 : z 2 + z 1 < 3
    · rw [if_pos h3, if_pos h3]
      exact ⟨c, v, hc, hv, hfc, hD1⟩
    · rw [if_neg h3, if_neg h3]
      obtain ⟨u, hu, hD2⟩ := DP_open hD1 hc hv
      exact ⟨c, u, hc, hu, hfc, hD2⟩
theorem rv_hit (hF : gF f) (hP : gP f) (hg : grw f0 n f) (hb0 : bnd f0 1000000000) (hn : n ≤ 1000000) (hk : k < 12) (hz : z 0 = nI k) (h6 : z 6 = (-5)) (hB : ∀ b, b < 12 → (f (13 + b) = (-5) ↔ f0 (13 + b) = (-5))) (hc : c < 61) (hw : w < 6) (hD : DP d e c w) (hb : b < 61) (ha : ahC (nI c) (nI w) = nI b) (hj : j < 12) (hbo : bo f b = nI j) (hfj : f (13 + j) = nI b) : EV f0 n z sp d e f := by
  obtain ⟨a1, a2⟩ := DP_ahead hD hc hw
  rw [ha] at a1 a2
  rw [rC_c hb] at a2
  have o1 : fX4_ballOnCell (cls f) (nI b) = nI j := (ballOn_c hb).trans hbo
  have o2 : fX4_ballOnCell (cls (rt f)) (nI (60 - b)) = nI j := (ballOn_c (by omega)).trans ((rt_bo hF hb).trans hbo)
  have e1 : plB z sp d (cls f) = (upd (upd (upd (upd z 5 (z 5 + 1)) 0 (nI j)) 1 0) 2 0, FP.fmul sp (kF (cls f 6 2)), fX5_stepAhead d, cls (upd f (61 + k) (f (61 + k) + 1))) := by
    unfold plB
    rw [a1, if_neg (nI_no (by omega)), o1, if_neg (nI_no (by omega)), hit_cl, hz, hit_add hk]
  have e2 : plB z sp e (cls (rt f)) = (upd (upd (upd (upd z 5 (z 5 + 1)) 0 (nI j)) 1 0) 2 0, FP.fmul sp (kF (cls f 6 2)), fX5_stepAhead e, cls (rt (upd f (61 + k) (f (61 + k) + 1)))) := by
    unfold plB
    rw [a2, if_neg (nI_no (by omega)), o2, if_neg (nI_no (by omega)), hit_cl, hz, hit_add hk, rt_set (by decide), rt_upd (by omega), rt_oth (by omega)]
  refine ⟨_, _, _, _, _, e1, e2, gF_upd hF (by omega), gP_upd hP (by omega), grw_inc hg hb0 hn (by omega) (by omega) (by intro b _ _; omega), j, hj, ?_, ?_, Or.inl ⟨?_, fun b hb => ?_, b, w, hb, hw, ?_, DP_step hD hc hw hb ha⟩⟩
  · rw [upd_ne (by decide), upd_ne (by decide), upd_at]
  · rw [upd_ne (by omega)]
    exact ever_lt hF.2.2.1 hj hb hfj
  · rw [upd_ne (by decide), upd_ne (by decide), upd_ne (by decide), upd_ne (by decide), h6]
  · rw [upd_ne (by omega)]
    exact hB b hb
  · rw [upd_ne (by omega)]
    exact hfj
theorem rv_step (hF : gF f) (hP : gP f) (hg : grw f0 n f) (hb0 : bnd f0 1000000000) (hn : n ≤ 1000000) (hk : k < 12) (hz : z 0 = nI k) (hke : (k : Int) < (f 12).toInt) (h6 : z 6 = (-5)) (hB : ∀ b, b < 12 → (f (13 + b) = (-5) ↔ f0 (13 + b) = (-5))) (hc : c < 61) (hw : w < 6) (hfc : f (13 + k) = nI c) (hD : DP d e c w) (hb : b < 61) (ha : ahC (nI c) (nI w) = nI b) (hbo : bo f b = (-5)) (hfr : ∀ j, j < 12 → ¬ f (13 + j) = nI b) : EV f0 n z sp d e f := by
  have hne : ∀ i : Nat, i < 12 → (f0 12).toInt ≤ (i : Int) → ¬ 37 + i = 37 + k := by
    intro i _ hi2
    rw [← hg.1 12 (by omega)] at hi2
    omega
  obtain ⟨a1, a2⟩ := DP_ahead hD hc hw
  rw [ha] at a1 a2
  rw [rC_c hb] at a2
  have o1 : fX4_ballOnCell (cls f) (nI b) = (-5) := (ballOn_c hb).trans hbo
  have o2 : fX4_ballOnCell (cls (rt f)) (nI (60 - b)) = (-5) := (ballOn_c (by omega)).trans ((rt_bo hF hb).trans hbo)
  have hF1 : gF (upd f (37 + k) (f (37 + k) + 1)) := gF_upd hF (by omega)
  have hfr1 : ∀ j, j < 12 → ¬ (upd f (37 + k) (f (37 + k) + 1)) (13 + j) = nI b := by
    intro j hj
    rw [upd_ne (by omega)]
    exact hfr j hj
  have hke1 : (k : Int) < ((upd f (37 + k) (f (37 + k) + 1)) 12).toInt := by
    rw [upd_ne (by omega)]
    exact hke
  have hF2 := gF_put hF1 hk hb hke1 hfr1
  have p1 : fX4_place (fX4_addStep (cls f) (nI k)) (nI k) (nI b) = cls (upd (upd f (37 + k) (f (37 + k) + 1)) (13 + k) (nI b)) := by
    rw [step_add hk, place_c hF1.1 hF1.2.1 hk hb hfr1]
  have hFr1 : gF (upd (rt f) (37 + k) (rt f (37 + k) + 1)) := gF_upd (rt_gF hF) (by omega)
  have p2 : fX4_place (fX4_addStep (cls (rt f)) (nI k)) (nI k) (nI (60 - b)) = cls (rt (upd (upd f (37 + k) (f (37 + k) + 1)) (13 + k) (nI b))) := by
    rw [step_add hk, place_c hFr1.1 hFr1.2.1 hk (by omega) (fun j hj => ?_), rt_updc hk, rC_c hb, rt_upd (by omega), rt_oth (by omega)]
    rw [upd_ne (by omega), rt_cell hj]
    exact fun q => hfr j hj ((rC_iff (hF.1.2.1 j hj) hb).mp q)
  have hP2 : gP (upd (upd f (37 + k) (f (37 + k) + 1)) (13 + k) (nI b)) := gP_upd (gP_upd hP (by omega)) (by omega)
  have ho := rt_open hP2 hb
  have hg2 : grw f0 (n + 1) (upd (upd f (37 + k) (f (37 + k) + 1)) (13 + k) (nI b)) := grw_cell (grw_inc hg hb0 hn (by omega) (by omega) hne) hk
  by_cases hop : fX4_isOpenPot (cls (upd (upd f (37 + k) (f (37 + k) + 1)) (13 + k) (nI b))) (nI b) = 0
  · have e1 : plB z sp d (cls f) = (upd z 3 (z 3 + 1), FP.fmul sp (kF (cls f 6 0)), fX5_stepAhead d, cls (upd (upd f (37 + k) (f (37 + k) + 1)) (13 + k) (nI b))) := by
      unfold plB
      rw [a1, if_neg (nI_no (by omega)), o1, if_pos rfl, step_cl, hz, p1, if_pos hop]
    have e2 : plB z sp e (cls (rt f)) = (upd z 3 (z 3 + 1), FP.fmul sp (kF (cls f 6 0)), fX5_stepAhead e, cls (rt (upd (upd f (37 + k) (f (37 + k) + 1)) (13 + k) (nI b)))) := by
      unfold plB
      rw [a2, if_neg (nI_no (by omega)), o2, if_pos rfl, step_cl, hz, p2, if_pos (ho.trans hop), rt_set (by decide)]
    refine ⟨_, _, _, _, _, e1, e2, hF2, hP2, hg2, k, hk, ?_, ?_, Or.inl ⟨?_, fun i hi => ?_, b, w, hb, hw, ?_, DP_step hD hc hw hb ha⟩⟩
    · rw [upd_ne (by decide), hz]
    · rw [upd_ne (by omega)]
      exact hke1
    · rw [upd_ne (by decide), h6]
    · by_cases hik : i = k
      · subst hik
        rw [upd_at, ← hB i hi, hfc]
        exact ⟨fun q => absurd q (nI_no (by omega)), fun q => absurd q (nI_no (by omega))⟩
      · rw [upd_ne (by omega), upd_ne (by omega)]
        exact hB i hi
    · rw [upd_at]
  · have e1 : plB z sp d (cls f) = (upd (upd z 3 (z 3 + 1)) 6 (nI k), FP.fmul sp (kF (cls f 6 0)), fX5_stepAhead d, cls (upd (upd f (37 + k) (f (37 + k) + 1)) (13 + k) (-5))) := by
      unfold plB
      rw [a1, if_neg (nI_no (by omega)), o1, if_pos rfl, step_cl, hz, p1, if_neg hop, lift_c hF2.1 hF2.2.1 hk, upd_twice]
    have e2 : plB z sp e (cls (rt f)) = (upd (upd z 3 (z 3 + 1)) 6 (nI k), FP.fmul sp (kF (cls f 6 0)), fX5_stepAhead e, cls (rt (upd (upd f (37 + k) (f (37 + k) + 1)) (13 + k) (-5)))) := by
      have hFr2 := rt_gF hF2
      unfold plB
      rw [a2, if_neg (nI_no (by omega)), o2, if_pos rfl, step_cl, hz, p2, if_neg (fun q => hop (ho.symm.trans q)), lift_c hFr2.1 hFr2.2.1 hk, rt_updc hk, upd_twice, rt_updc hk, rC_5, rt_set (by decide)]
    have hF3 : gF (upd (upd f (37 + k) (f (37 + k) + 1)) (13 + k) (-5)) := gF_away hF1 hk
    refine ⟨_, _, _, _, _, e1, e2, hF3, gP_upd (gP_upd hP (by omega)) (by omega), grw_cell (grw_inc hg hb0 hn (by omega) (by omega) hne) hk, k, hk, ?_, ?_, Or.inr ⟨?_, ?_, ?_, fun i hi hik => ?_⟩⟩
    · rw [upd_ne (by decide), upd_ne (by decide), hz]
    · rw [upd_ne (by omega)]
      exact hke1
    · rw [upd_at]
    · rw [upd_at]
    · rw [← hB k hk, hfc]
      exact nI_no (by omega)
    · rw [upd_ne (by omega), upd_ne (by omega)]
      exact hB i hi
theorem rv_one (hQ : QR f0 n z d e f) (hb0 : bnd f0 1000000000) (hn : n ≤ 1000000) (h6 : z 6 = (-5)) : EV f0 n z sp d e f := by
  obtain ⟨hF, hP, hg, k, hk, hz, hke, ⟨-, hB, c, w, hc, hw, hfc, hD⟩ | ⟨hx, -⟩⟩ := hQ
  · rcases ah_or hc hw with hv | ha
    · obtain ⟨b, hb, ha⟩ := vin_nI hv
      rcases bo_spec f b with ⟨h1, h2⟩ | ⟨j, h1, h2, h3⟩
      · exact rv_step hF hP hg hb0 hn hk hz hke h6 hB hc hw hfc hD hb ha h1 h2
      · exact rv_hit hF hP hg hb0 hn hk hz h6 hB hc hw hD hb ha h1 h2 h3
    · exact rv_bank hF hP hg hb0 hn hk hz hke h6 hB hc hw hfc hD ha
  · exact absurd (hx.symm.trans h6) (nI_no (by omega))
end
theorem rv_all {f0 : N1} (hb0 : bnd f0 1000000000) : ∀ (m n : Nat) {z d e f : N1} {sp : UInt32}, n + m ≤ 1000000 → QR f0 n z d e f → ∃ z1 sp1 d1 e1 f1 n1, n1 ≤ 1000000 ∧ plN m z sp d (cls f) = (z1, sp1, d1, cls f1) ∧ plN m z sp e (cls (rt f)) = (z1, sp1, e1, cls (rt f1)) ∧ QR f0 n1 z1 d1 e1 f1 := by
  intro m
  induction m with
  | zero => intro n z d e f sp hn hQ; exact ⟨z, sp, d, e, f, n, by omega, rfl, rfl, hQ⟩
  | succ m ih =>
    intro n z d e f sp hn hQ
    unfold plN
    by_cases h1 : (Op.cmpValue (FP.fcmp sp FP.fconst1) .l) < 0
    · rw [if_pos h1, if_pos h1]
      exact ⟨z, sp, d, e, f, n, by omega, rfl, rfl, hQ⟩
    · rw [if_neg h1, if_neg h1]
      by_cases h6 : z 6 = (-5)
      · rw [if_pos h6, if_pos h6]
        obtain ⟨z1, sp1, d1, e1, f1, q1, q2, q3⟩ := rv_one (sp := sp) hQ hb0 (by omega) h6
        rw [q1, q2]
        exact ih (n + 1) (by omega) q3
      · rw [if_neg h6, if_neg h6]
        exact ⟨z, sp, d, e, f, n, by omega, rfl, rfl, hQ⟩
