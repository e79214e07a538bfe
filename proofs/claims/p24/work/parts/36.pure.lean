/-! p24: calls on both felts (wip/p24/p36.lean) -/
theorem refusal_c {f : N1} {c : Nat} (hc : c < 61) : fX4_refusalToAdd (cls f) (nI c) = if bo f c = (-5) then (if 12 ≤ f 12 then (-3) else (-5)) else (-4) := by
  unfold fX4_refusalToAdd
  rw [ballOn_c hc, cls_80]
theorem refusal_rt {f : N1} {c : Nat} (hF : gF f) (hc : c < 61) : fX4_refusalToAdd (cls (rt f)) (nI (60 - c)) = fX4_refusalToAdd (cls f) (nI c) := by
  rw [refusal_c hc, refusal_c (by omega), rt_bo hF hc, rt_oth (by omega)]
theorem free_bo {f : N1} {c : Nat} (hc : c < 61) (h : bo f c = (-5)) : ∀ j, j < 12 → ¬ f (13 + j) = nI c := by
  rcases bo_spec f c with ⟨-, h2⟩ | ⟨j, h1, h2, h3⟩
  · exact h2
  · exact absurd (h2.symm.trans h) (nI_no (by omega))
theorem free_rt {f : N1} {c : Nat} (hF : gF f) (hc : c < 61) (h : ∀ j, j < 12 → ¬ f (13 + j) = nI c) : ∀ j, j < 12 → ¬ rt f (13 + j) = nI (60 - c) := by
  intro j hj
  rw [rt_cell hj]
  exact fun q => h j hj ((rC_iff (hF.1.2.1 j hj) hc).mp q)
theorem ever_n {f : N1} (hF : gF f) : ∃ e, e ≤ 12 ∧ f 12 = nI e := by
  have h := hF.1.1
  exact ⟨(f 12).toInt.toNat, by omega, of_toI (by omega) (by omega)⟩
/-- a ball put, on both felts: what is answered, the row behind -/
theorem both_put {M : Nat} {f : N1} {c : Nat} {v : Int32} (hG : gG M f) (hc : c < 61) (hv : 1 ≤ v.toInt ∧ v.toInt ≤ 20) : ∃ (r : Int32) (g : N1), gG M g ∧
    (∀ (hs n : Int32) (o : Nat) (η : Nat → N2), (fX6_put hs (cls f) n o η (nI c) v).1 = r ∧ (fX6_put hs (cls f) n o η (nI c) v).2.1 = cls g) ∧
    (∀ (hs n : Int32) (o : Nat) (η : Nat → N2), (fX6_put hs (cls (rt f)) n o η (nI (60 - c)) v).1 = r ∧ (fX6_put hs (cls (rt f)) n o η (nI (60 - c)) v).2.1 = cls (rt g)) ∧
    ((r < 0 ∧ (0 ≤ bo g c ∨ g 12 = 12)) ∨ (¬ r < 0 ∧ ∃ e, e < 12 ∧ r = nI e ∧ bo g c = nI e ∧ g (13 + e) = nI c ∧ g (25 + e) = v ∧ g (37 + e) = 0)) := by
  have hF := hG.1
  have hv1 : ¬ v < 1 := by
    rw [Int32.lt_iff_toInt_lt]
    have e4 : (1 : Int32).toInt = 1 := rfl
    omega
  have hv2 : v ≤ 20 := by
    rw [Int32.le_iff_toInt_le]
    have e4 : (20 : Int32).toInt = 20 := rfl
    omega
  obtain ⟨e, he, hee⟩ := ever_n hF
  unfold fX6_put
  simp only [if_neg (isCe hc), if_neg (isCe (show 60 - c < 61 by omega)), if_neg hv1, if_pos hv2, refusal_rt hF hc]
  by_cases hb : bo f c = (-5)
  · have hfr := free_bo hc hb
    by_cases h12 : e = 12
    · subst h12
      have hr : fX4_refusalToAdd (cls f) (nI c) = (-3) := by
        rw [refusal_c hc, if_pos hb, hee, if_pos (by decide)]
      simp only [hr, if_neg (show ¬ (-3 : Int32) = (-5) by decide)]
      exact ⟨(-3), f, hG, fun _ _ _ _ => ⟨rfl, rfl⟩, fun _ _ _ _ => ⟨rfl, rfl⟩, Or.inl ⟨by decide, Or.inr hee⟩⟩
    · have he2 : e < 12 := by omega
      have hr : fX4_refusalToAdd (cls f) (nI c) = (-5) := by
        rw [refusal_c hc, if_pos hb, hee, if_neg]
        rw [Int32.le_iff_toInt_le, toI (by omega)]
        have e4 : (12 : Int32).toInt = 12 := rfl
        omega
      have a1 := add_c (v := v) hF hee he2 hc hfr
      have a2 := add_c (v := v) (rt_gF hF) ((rt_oth (f := f) (by omega)).trans hee) he2 (show 60 - c < 61 by omega) (free_rt hF hc hfr)
      have hG2 := add_gG hG hee he2 hc hv hfr
      have ace : addF f e c v (13 + e) = nI c := by unfold addF; rw [upd_at]
      simp only [hr, if_pos, a1, a2]
      refine ⟨nI e, addF f e c v, hG2, fun _ _ _ _ => ⟨rfl, rfl⟩, fun _ _ _ _ => ⟨rfl, ?_⟩, Or.inr ⟨?_, e, he2, rfl, bo_one hG2.1.2.1 hc he2 ace, ace, ?_, ?_⟩⟩
      · rw [addF_rt he2 hc]
      · rw [Int32.lt_iff_toInt_lt, toI (by omega), Int32.toInt_zero]
        omega
      · unfold addF
        rw [upd_ne (by omega), upd_at]
      · unfold addF
        rw [upd_ne (by omega), upd_ne (by omega), upd_ne (by omega)]
        exact (hG.2.2.2.2.1 e he2).2 (by rw [hee, toI (by omega)]; omega)
  · have hr : fX4_refusalToAdd (cls f) (nI c) = (-4) := by rw [refusal_c hc, if_neg hb]
    simp only [hr, if_neg (show ¬ (-4 : Int32) = (-5) by decide)]
    refine ⟨(-4), f, hG, fun _ _ _ _ => ⟨rfl, rfl⟩, fun _ _ _ _ => ⟨rfl, rfl⟩, Or.inl ⟨by decide, Or.inl ?_⟩⟩
    rcases bo_spec f c with ⟨h1, -⟩ | ⟨j, h1, h2, -⟩
    · exact absurd h1 hb
    · rw [h2, Int32.le_iff_toInt_le, toI (by omega), Int32.toInt_zero]
      omega
