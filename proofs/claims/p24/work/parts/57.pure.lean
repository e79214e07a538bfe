/-! p24: the balls of a typed text put, over both objects (wip/p24/p57.lean) -/
/-- a ball typed: behind another with a ";" -/
def tb1 (S : So) (k c v : Int32) : So := (fL_number (ob_type (fL_number (if k = 0 then S else ob_type S 59) c).2 58) v).2
def tbs (S : So) (cs vs : Nat → Int32) : Nat → So
  | 0 => S
  | k + 1 => tb1 (tbs S cs vs k) (nI k) (cs k) (vs k)
theorem tb_0 {S : So} {k c v : Int32} (h : k = 0) : (fL_number (ob_type (fL_number S c).2 58) v).2 = tb1 S k c v := by
  unfold tb1
  rw [if_pos h]
theorem tb_n {S : So} {k c v : Int32} (h : ¬ k = 0) : (fL_number (ob_type (fL_number (ob_type S 59) c).2 58) v).2 = tb1 S k c v := by
  unfold tb1
  rw [if_neg h]
theorem fn_S {S : So} {v : Int32} : oS (fL_number S v).2 = oS S ∧ oZ (fL_number S v).2 = oZ S := by
  unfold fL_number
  repeat' split
  all_goals exact ⟨rfl, rfl⟩
theorem tb1_S {S : So} {k c v : Int32} : oS (tb1 S k c v) = oS S ∧ oZ (tb1 S k c v) = oZ S := by
  unfold tb1
  have a := fn_S (S := ob_type (fL_number (if k = 0 then S else ob_type S 59) c).2 58) (v := v)
  have b := fn_S (S := if k = 0 then S else ob_type S 59) (v := c)
  have d : oS (if k = 0 then S else ob_type S 59) = oS S ∧ oZ (if k = 0 then S else ob_type S 59) = oZ S := by
    split <;> exact ⟨rfl, rfl⟩
  refine ⟨a.1.trans ?_, a.2.trans ?_⟩
  · show oS (fL_number (if k = 0 then S else ob_type S 59) c).2 = _
    exact b.1.trans d.1
  · show oZ (fL_number (if k = 0 then S else ob_type S 59) c).2 = _
    exact b.2.trans d.2
theorem tbs_S {S : So} {cs vs : Nat → Int32} : ∀ k, oS (tbs S cs vs k) = oS S ∧ oZ (tbs S cs vs k) = oZ S := by
  intro k
  induction k with
  | zero => exact ⟨rfl, rfl⟩
  | succ k ih => exact ⟨tb1_S.1.trans ih.1, tb1_S.2.trans ih.2⟩
theorem ty_ball {S : So} {L : List Int32} {c v : Nat} (h : TX (oT S) L) (hl : L.length + 6 ≤ 60) (hc : c < 61) (hv : v < 61) : (fL_number S (nI c)).1 = 1 ∧ ¬ an_type (fL_number S (nI c)).2 58 ≤ 0 ∧ (fL_number (ob_type (fL_number S (nI c)).2 58) (nI v)).1 = 1 ∧ TX (oT (fL_number (ob_type (fL_number S (nI c)).2 58) (nI v)).2) (L ++ (numC c ++ ([58] ++ numC v))) := by
  have lc := (numC_len c).1
  obtain ⟨a1, a2⟩ := nu_1 h (by omega) hc
  obtain ⟨b1, b2⟩ := ty_1 (ch := 58) a2 (by rw [List.length_append]; omega)
  have ld : ([58] : List Int32).length = 1 := rfl
  obtain ⟨d1, d2⟩ := nu_1 b2 (by rw [List.length_append, List.length_append, ld]; omega) hv
  refine ⟨a1, b1, d1, ?_⟩
  rw [List.append_assoc, List.append_assoc] at d2
  exact d2
section
variable {S T : So} {f : N1} {M n : Nat} {cs vs : Nat → Int32} {cc vv : Nat → Nat}
theorem tbs_TX (h0 : TX (oT S) []) (hcv : ∀ j, cs j = nI (cc j) ∧ cc j < 61) (hvv : ∀ j, vs j = nI (vv j) ∧ 1 ≤ vv j ∧ vv j ≤ 20) : ∀ k, k ≤ 3 → TX (oT (tbs S cs vs k)) (ltx cc vv k) := by
  intro k
  induction k with
  | zero => intro _; exact h0
  | succ k ih =>
    intro hk
    have h := ih (by omega)
    have hl := ltx_len cc vv k
    have e0 : nI k = 0 ↔ k = 0 := ⟨fun q => nI_inj (show k < 1000 by omega) (show 0 < 1000 by omega) q, fun q => by rw [q]; rfl⟩
    show TX (oT (tb1 (tbs S cs vs k) (nI k) (cs k) (vs k))) (ltx cc vv k ++ ((if k = 0 then [] else [59]) ++ (numC (cc k) ++ ([58] ++ numC (vv k)))))
    rw [(hcv k).1, (hvv k).1]
    by_cases hk0 : k = 0
    · rw [← tb_0 (e0.mpr hk0), if_pos hk0, List.nil_append]
      exact (ty_ball h (by omega) (hcv k).2 (by have := (hvv k).2; omega)).2.2.2
    · rw [← tb_n (fun q => hk0 (e0.mp q)), if_neg hk0, ← List.append_assoc]
      have h59 := (ty_1 (ch := 59) h (by omega)).2
      exact (ty_ball h59 (by rw [List.length_append]; show (ltx cc vv k).length + 1 + 6 ≤ 60; omega) (hcv k).2 (by have := (hvv k).2; omega)).2.2.2
theorem cs_ex (y : Int32) : ∃ (cs : Nat → Int32) (cc : Nat → Nat), (∀ j, fL_up (y >>> ((3 * nI j) &&& 31)) 61 = cs j) ∧ ∀ j, cs j = nI (cc j) ∧ cc j < 61 := by
  refine ⟨_, fun j => (fL_up (y >>> ((3 * nI j) &&& 31)) 61).toNatClampNeg, fun _ => rfl, fun j => ?_⟩
  obtain ⟨a, b⟩ := nI_back (up_in (v := y >>> ((3 * nI j) &&& 31)) (n := 61) (N := 61) rfl (by decide)) (by decide)
  exact ⟨a.symm, b⟩
theorem vs_ex (y : Int32) : ∃ (vs : Nat → Int32) (vv : Nat → Nat), (∀ j, 1 + fL_up (y >>> ((2 * nI j + 1) &&& 31)) 20 = vs j) ∧ ∀ j, vs j = nI (vv j) ∧ 1 ≤ vv j ∧ vv j ≤ 20 := by
  refine ⟨_, fun j => (1 + fL_up (y >>> ((2 * nI j + 1) &&& 31)) 20).toInt.toNat, fun _ => rfl, fun j => ?_⟩
  have h := add_in (u := fL_up (y >>> ((2 * nI j + 1) &&& 31)) 20) (a := 1) (k := 1) (n := 20) rfl (up_in rfl (by decide)) (by decide)
  have h1 : ((1 : Nat) : Int) = 1 := rfl
  have h2 : ((1 + 20 : Nat) : Int) = 21 := rfl
  rw [h1, h2] at h
  dsimp only
  exact ⟨of_toI (by omega) (by omega), by omega, by omega⟩
theorem cob {u : N2} {i : Nat} (h : i < 16) : fX0_cellOfBall u (nI i) = u 1 i ∧ fX0_valueOfBall u (nI i) = u 2 i := by
  unfold fX0_cellOfBall fX0_valueOfBall
  rw [if_neg (nz (by omega)), if_neg (show ¬ 16 ≤ nI i from nI_ge (b := 16) h (by decide)), if_neg (nz (by omega)), if_neg (show ¬ 16 ≤ nI i from nI_ge (b := 16) h (by decide)), nI_c (by omega)]
  exact ⟨rfl, rfl⟩
theorem pa_both {u u' : N2} : ∀ (m i : Nat) (f : N1), gG M f → i + m ≤ 16 → (∀ j, i ≤ j → j < i + m → (cc j < 61 ∧ 1 ≤ vv j ∧ vv j ≤ 20) ∧ u 1 j = nI (cc j) ∧ u 2 j = nI (vv j) ∧ u' 1 j = nI (60 - cc j) ∧ u' 2 j = nI (vv j)) → ∃ r g, gG M g ∧ paN u m i (cls f) = (r, cls g) ∧ paN u' m i (cls (rt f)) = (r, cls (rt g)) ∧ ((r = (-5) ∧ ∃ e, f 12 = nI e ∧ e + m ≤ 12 ∧ g 12 = nI (e + m)) ∨ (¬ r = (-5) ∧ r < 0)) := by
  intro m
  induction m with
  | zero =>
    intro i f hG _ _
    obtain ⟨e, he, h12⟩ := ever_n hG.1
    exact ⟨(-5), f, hG, rfl, rfl, Or.inl ⟨rfl, e, h12, by omega, h12⟩⟩
  | succ m ih =>
    intro i f hG hi hcv
    obtain ⟨⟨hc, hv⟩, q1, q2, q3, q4⟩ := hcv i (by omega) (by omega)
    obtain ⟨c1, c2⟩ := cob (u := u) (show i < 16 by omega)
    obtain ⟨d1, d2⟩ := cob (u := u') (show i < 16 by omega)
    have hF := hG.1
    obtain ⟨e, he, hee⟩ := ever_n hF
    unfold paN
    rw [c1, c2, d1, d2, q1, q2, q3, q4, refusal_rt hF hc]
    by_cases hb : bo f (cc i) = (-5)
    · have hfr := free_bo hc hb
      by_cases h12 : e = 12
      · have hr : fX4_refusalToAdd (cls f) (nI (cc i)) = (-3) := by
          rw [refusal_c hc, if_pos hb, hee, h12, if_pos (by decide)]
        rw [hr, if_neg (by decide), if_neg (by decide)]
        exact ⟨(-3), f, hG, rfl, rfl, Or.inr ⟨by decide, by decide⟩⟩
      · have he2 : e < 12 := by omega
        have hr : fX4_refusalToAdd (cls f) (nI (cc i)) = (-5) := by
          rw [refusal_c hc, if_pos hb, hee, if_neg]
          rw [Int32.le_iff_toInt_le, toI (by omega)]
          have e4 : (12 : Int32).toInt = 12 := rfl
          omega
        have hv2 : 1 ≤ (nI (vv i)).toInt ∧ (nI (vv i)).toInt ≤ 20 := by rw [toI (by omega)]; omega
        have a1 := add_c (v := nI (vv i)) hF hee he2 hc hfr
        have a2 := add_c (v := nI (vv i)) (rt_gF hF) ((rt_oth (f := f) (by omega)).trans hee) he2 (show 60 - cc i < 61 by omega) (free_rt hF hc hfr)
        have hG2 := add_gG hG hee he2 hc hv2 hfr
        rw [hr, if_pos rfl, if_pos rfl, a1, a2, ← addF_rt he2 hc]
        obtain ⟨r, g, h1, h2, h3, h4⟩ := ih (i + 1) (addF f e (cc i) (nI (vv i))) hG2 (by omega) (fun j hj1 hj2 => hcv j (by omega) (by omega))
        refine ⟨r, g, h1, h2, h3, ?_⟩
        rcases h4 with ⟨h5, e', h6, h7, h8⟩ | h5
        · refine Or.inl ⟨h5, e, hee, ?_⟩
          have h9 : addF f e (cc i) (nI (vv i)) 12 = nI (e + 1) := by unfold addF; rw [upd_ne (by omega), upd_ne (by omega), upd_at]
          have h10 := nI_inj (by omega) (by omega) (h9.symm.trans h6)
          rw [h8, ← h10]
          exact ⟨by omega, by rw [show e + 1 + m = e + (m + 1) by omega]⟩
        · exact Or.inr h5
    · have hr : fX4_refusalToAdd (cls f) (nI (cc i)) = (-4) := by rw [refusal_c hc, if_neg hb]
      rw [hr, if_neg (by decide), if_neg (by decide)]
      exact ⟨(-4), f, hG, rfl, rfl, Or.inr ⟨by decide, by decide⟩⟩
theorem putAll_form {hs : Int32} {σ σr : N2} {ny : Int32} {o : Nat} {η : Nat → N2} {t u σ1 : N2} {r : Int32} (h1 : fX0_read t = ((-1), u)) (h2 : u 3 1 = nI n) (hn : n ≤ 3) (h3 : paN u n 0 σ = (r, σ1)) : (fX6_putAll hs σ σr ny o η t).1 = (if r = (-5) then nI n else r) ∧ (fX6_putAll hs σ σr ny o η t).2.1 = (if r = (-5) then σ1 else σ) ∧ (fX6_putAll hs σ σr ny o η t).2.2.2.2.2.2 = u := by
  unfold fX6_putAll
  rw [h1]
  have e : ((((-1) : Int32), u) : Int32 × N2).2 = u := rfl
  have e1 : ((((-1) : Int32), u) : Int32 × N2).1 = (-1) := rfl
  rw [e, e1, h2, nI_c (by omega), h3, if_pos rfl]
  by_cases hr : r = (-5)
  · rw [if_pos hr, if_pos hr, if_pos hr]
    exact ⟨rfl, rfl, rfl⟩
  · rw [if_neg hr, if_neg hr, if_neg hr]
    exact ⟨rfl, rfl, rfl⟩
theorem s_putAll (hB : BI M f S T) (hn1 : 1 ≤ n) (hn3 : n ≤ 3) (hcv : ∀ j, j < n → cc j < 61 ∧ 1 ≤ vv j ∧ vv j ≤ 20) (h1 : TX (oT S) (ltx cc vv n)) (h2 : TX (oT T) (ltx (fun j => 60 - cc j) vv n)) : ∃ g, BI M g (ob_putAll S) (ob_putAll T) ∧ an_putAll S = an_putAll T ∧ (an_putAll S < 0 → an_count (ob_putAll S) 1 = an_count S 1) ∧ (¬ an_putAll S < 0 → an_count (ob_putAll S) 1 = an_count S 1 + nI n) := by
  obtain ⟨hG, ⟨s1, s2, s3⟩, ⟨t1, t2, t3⟩⟩ := hB
  obtain ⟨u, r1, r2, r3, r4⟩ := read_all h1 hn1 hn3 hcv
  obtain ⟨u', w1, w2, w3, w4⟩ := read_all h2 hn1 hn3 (fun j hj => ⟨by omega, (hcv j hj).2⟩)
  obtain ⟨r, g, hGg, p1, p2, p3⟩ := pa_both (cc := cc) (vv := vv) (u := u) (u' := u') n 0 f hG (by omega) (fun j _ hj => ⟨hcv j (by omega), (r4 j (by omega)).1, (r4 j (by omega)).2, (w4 j (by omega)).1, (w4 j (by omega)).2⟩)
  obtain ⟨x1, x2, x3⟩ := putAll_form (hs := oH S) (σr := oR S) (ny := oY S) (o := oO S) (η := oE S) r1 r2 hn3 p1
  obtain ⟨y1, y2, y3⟩ := putAll_form (hs := oH T) (σr := oR T) (ny := oY T) (o := oO T) (η := oE T) w1 w2 hn3 p2
  have a1 : an_putAll S = (if r = (-5) then nI n else r) := by unfold an_putAll; rw [s1]; exact x1
  have a2 : an_putAll T = (if r = (-5) then nI n else r) := by unfold an_putAll; rw [t1]; exact y1
  have b1 : oS (ob_putAll S) = (if r = (-5) then cls g else cls f) := by unfold ob_putAll; show (fX6_putAll _ (oS S) _ _ _ _ _).2.1 = _; rw [s1]; exact x2
  have b2 : oS (ob_putAll T) = (if r = (-5) then cls (rt g) else cls (rt f)) := by unfold ob_putAll; show (fX6_putAll _ (oS T) _ _ _ _ _).2.1 = _; rw [t1]; exact y2
  have l1 : tL (oT (ob_putAll S)) := by
    unfold ob_putAll
    show tL (fX6_putAll _ (oS S) _ _ _ _ _).2.2.2.2.2.2
    rw [s1, x3]
    unfold tL
    rw [r3]
    exact s3
  have l2 : tL (oT (ob_putAll T)) := by
    unfold ob_putAll
    show tL (fX6_putAll _ (oS T) _ _ _ _ _).2.2.2.2.2.2
    rw [t1, y3]
    unfold tL
    rw [w3]
    exact t3
  by_cases hr : r = (-5)
  · rw [if_pos hr] at a1 a2 b1 b2
    rcases p3 with ⟨-, e, q1, q2, q3⟩ | ⟨q, -⟩
    · refine ⟨g, ⟨hGg, ⟨b1, s2, l1⟩, ⟨b2, t2, l2⟩⟩, a1.trans a2.symm, fun q => ?_, fun _ => ?_⟩
      · rw [a1] at q
        exact absurd q (nz (by omega))
      · rw [ct_1 b1, ct_1 s1, q1, q3]
        have e1 := toI (show e < 1000 by omega)
        have e2 := toI (show n < 1000 by omega)
        exact (of_toI (by omega) (by rw [ti_add (by omega) (by omega)]; omega)).symm
    · exact absurd hr q
  · rw [if_neg hr] at a1 a2 b1 b2
    rcases p3 with ⟨q, -⟩ | ⟨-, q⟩
    · exact absurd q hr
    · refine ⟨f, ⟨hG, ⟨b1, s2, l1⟩, ⟨b2, t2, l2⟩⟩, a1.trans a2.symm, fun _ => ?_, fun h => ?_⟩
      · rw [ct_1 b1, ct_1 s1]
      · rw [a1] at h
        exact absurd q h
theorem cl_TX : TX (oT (ob_clearText S)) [] := ⟨rfl, fun j hj => absurd hj (Nat.not_lt_zero j)⟩
theorem cl_BI (hB : BI M f S T) : BI M f (ob_clearText S) (ob_clearText T) := by
  obtain ⟨hG, ⟨s1, s2, s3⟩, ⟨t1, t2, t3⟩⟩ := hB
  exact ⟨hG, ⟨s1, s2, by show 0 ≤ (0 : Int32).toInt; decide⟩, ⟨t1, t2, by show 0 ≤ (0 : Int32).toInt; decide⟩⟩
theorem cl_ge {S : So} (h : tL (oT S)) : ¬ an_clearText S < 0 := by
  show ¬ oT S 3 0 < 0
  rw [Int32.lt_iff_toInt_lt, Int32.toInt_zero]
  unfold tL at h
  omega
/-- both texts typed -/
theorem tbs_BI {cs' : Nat → Int32} (hB : BI M f S T) (hS : TX (oT S) []) (hT : TX (oT T) []) (hcv : ∀ j, cs j = nI (cc j) ∧ cc j < 61) (hvv : ∀ j, vs j = nI (vv j) ∧ 1 ≤ vv j ∧ vv j ≤ 20) (hcs : ∀ j, cs' j = fL_there (cs j)) : ∀ k, k ≤ 3 → BI M f (tbs S cs vs k) (tbs T cs' vs k) ∧ TX (oT (tbs S cs vs k)) (ltx cc vv k) ∧ TX (oT (tbs T cs' vs k)) (ltx (fun j => 60 - cc j) vv k) := by
  intro k hk
  have h1 := tbs_TX hS hcv hvv k hk
  have h2 := tbs_TX (cs := cs') (cc := fun j => 60 - cc j) hT (fun j => ⟨by rw [hcs, (hcv j).1, th_c (hcv j).2], by have := (hcv j).2; omega⟩) hvv k hk
  have l1 := ltx_len cc vv k
  have l2 := ltx_len (fun j => 60 - cc j) vv k
  obtain ⟨a1, a2⟩ := tbs_S (S := S) (cs := cs) (vs := vs) k
  obtain ⟨b1, b2⟩ := tbs_S (S := T) (cs := cs') (vs := vs) k
  refine ⟨⟨hB.1, ⟨a1.trans hB.2.1.1, by rw [a2]; exact hB.2.1.2.1, ?_⟩, ⟨b1.trans hB.2.2.1, by rw [b2]; exact hB.2.2.2.1, ?_⟩⟩, h1, h2⟩
  · unfold tL
    rw [h1.1, toI (by omega)]
    omega
  · unfold tL
    rw [h2.1, toI (by omega)]
    omega
end
