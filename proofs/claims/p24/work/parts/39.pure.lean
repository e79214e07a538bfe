/-! p24: settings; a shot is the same from whatever the walker did before (wip/p24/p39.lean) -/
theorem both_set {M : Nat} {f : N1} {k : Nat} {v : Int32} (hG : gG M f) (hk : k < 3) (hv : 50 ≤ v.toInt ∧ v.toInt ≤ (if k = 1 then 100 else 99)) : ∃ (r : Int32) (g : N1), gG M g ∧
    (∀ (hs n : Int32) (o : Nat) (η : Nat → N2), (fX6_set hs (cls f) n o η (nI k) v).1 = r ∧ (fX6_set hs (cls f) n o η (nI k) v).2.1 = cls g) ∧
    (∀ (hs n : Int32) (o : Nat) (η : Nat → N2), (fX6_set hs (cls (rt f)) n o η (nI k) v).1 = r ∧ (fX6_set hs (cls (rt f)) n o η (nI k) v).2.1 = cls (rt g)) ∧ g k = v := by
  have hF := hG.1
  have e50 : (50 : Int32).toInt = 50 := rfl
  have e99 : (99 : Int32).toInt = 99 := rfl
  have e100 : (100 : Int32).toInt = 100 := rfl
  have w0 : ¬ nI k < 0 := by rw [Int32.lt_iff_toInt_lt, toI (by omega), Int32.toInt_zero]; omega
  have w3 : nI k < 3 := by
    rw [Int32.lt_iff_toInt_lt, toI (by omega)]
    have : (3 : Int32).toInt = 3 := rfl
    omega
  have s0 : sT 0 k = 50 := by
    match k, hk with
    | 0, _ => rfl
    | 1, _ => rfl
    | 2, _ => rfl
  have s1 : sT 1 k = if k = 1 then 100 else 99 := by
    match k, hk with
    | 0, _ => rfl
    | 1, _ => rfl
    | 2, _ => rfl
  have v0 : ¬ v < sT 0 k := by rw [s0, Int32.lt_iff_toInt_lt, e50]; omega
  have v1 : v ≤ sT 1 k := by
    rw [s1, Int32.le_iff_toInt_le]
    by_cases h1 : k = 1
    · rw [if_pos h1] at hv ⊢
      rw [e100]; omega
    · rw [if_neg h1] at hv ⊢
      rw [e99]; omega
  have hvK : gK v := by
    unfold gK
    by_cases h1 : k = 1
    · rw [if_pos h1] at hv; omega
    · rw [if_neg h1] at hv; omega
  unfold fX6_set
  simp only [if_neg w0, if_pos w3, nI_c (show k < 1000 by omega), if_neg v0, if_pos v1, rt_set hk, cls_6 hk]
  by_cases h : f k = v
  · simp only [if_pos h]
    exact ⟨(-5), f, hG, fun _ _ _ _ => ⟨rfl, rfl⟩, fun _ _ _ _ => ⟨rfl, rfl⟩, h⟩
  · simp only [if_neg h, cls_u6 hk]
    refine ⟨f k, upd f k v, gG_low hG (Nat.le_refl M) (gF_low hF ?_ (fun j hj => upd_ne (by omega))) (gP_upd hG.2.1 (by omega)) (fun i hi => ?_) (Or.inl (upd_ne (by omega))) (fun j hj => upd_ne (by omega)), fun _ _ _ _ => ⟨rfl, rfl⟩, fun _ _ _ _ => ⟨rfl, ?_⟩, upd_at⟩
    · unfold gU; rw [upd_ne (by omega)]; exact hF.2.2.2
    · by_cases hik : i = k
      · rw [hik, upd_at]; exact hvK
      · rw [upd_ne hik]; exact hG.2.2.1 i hi
    · rw [rt_upd (by omega)]
theorem cls_back {f g : N1} (hf : gA f) (hg : gA g) (hl : ∀ j, j < 13 ∨ 25 ≤ j ∧ j < 37 → f j = g j) (h : cls (rt f) = cls (rt g)) : cls f = cls g := by
  refine cls_same fun j hj => ?_
  by_cases h1 : j < 13 ∨ 25 ≤ j ∧ j < 37
  · exact hl j h1
  · have q : ∀ i k, cls (rt f) i k = cls (rt g) i k := fun i k => by rw [h]
    by_cases h2 : j < 25
    · obtain ⟨b, hb, rfl⟩ : ∃ b, b < 12 ∧ j = 13 + b := ⟨j - 13, by omega, by omega⟩
      have := q 0 b
      rw [cls_0 hb, cls_0 hb, rt_cell hb, rt_cell hb] at this
      exact rC_inj (hf.2.1 b hb) (hg.2.1 b hb) this
    · by_cases h3 : j < 49
      · obtain ⟨b, hb, rfl⟩ : ∃ b, b < 12 ∧ j = 37 + b := ⟨j - 37, by omega, by omega⟩
        have := q 2 b
        rw [cls_2 hb, cls_2 hb, rt_oth (by omega), rt_oth (by omega)] at this
        exact this
      · by_cases h4 : j < 61
        · obtain ⟨b, hb, rfl⟩ : ∃ b, b < 12 ∧ j = 49 + b := ⟨j - 49, by omega, by omega⟩
          have := q 3 b
          rw [cls_3 hb, cls_3 hb, rt_oth (by omega), rt_oth (by omega)] at this
          exact this
        · obtain ⟨b, hb, rfl⟩ : ∃ b, b < 12 ∧ j = 61 + b := ⟨j - 61, by omega, by omega⟩
          have := q 4 b
          rw [cls_4 hb, cls_4 hb, rt_oth (by omega), rt_oth (by omega)] at this
          exact this
/-- nothing beside the shot's own numbers -/
def zH (z : N1) : Prop := ∀ j, 7 ≤ j → z j = 0
/-- a shot from nothing: its numbers, its speed, its state -/
def pl0 (f : N1) (k w : Nat) (sg sn : Int32) : N1 × UInt32 × N1 × N2 := fX3_play (fun _ => 0) 0 (fun _ => 0) (cls f) (nI k) (nI w) sg sn
theorem play_all {f z z' d e : N1} {sp sp' : UInt32} {k w : Nat} {sg sn : Int32} (hF : gF f) (hP : gP f) (hb0 : bnd f 1000000000) (hz : zH z) (hz' : zH z') (hk : k < 12) (hcb : ¬ f (13 + k) = (-5)) (hw : w < 6) :
    ∃ z1 sp1 d1 e1 f1 n1 d2 e2, n1 ≤ 1000000 ∧ fX3_play z sp d (cls f) (nI k) (nI w) sg sn = (z1, sp1, d1, cls f1) ∧ fX3_play z' sp' e (cls (rt f)) (nI k) (nI (rvN w)) sg sn = (z1, sp1, e1, cls (rt f1)) ∧ pl0 f k w sg sn = (z1, sp1, d2, cls f1) ∧ zH z1 ∧ QR f n1 z1 d2 e2 f1 := by
  obtain ⟨z1, sp1, d1, e1, f1, n1, hn, q1, q2, Q⟩ := play_rv (z := z) (z' := z') (d := d) (e := e) (sp := sp) (sp' := sp') (sg := sg) (sn := sn) hF hP hb0 (fun j hj => (hz j hj).trans (hz' j hj).symm) hk hcb hw
  obtain ⟨z2, sp2, d2, e2, f2, n2, hn2, r1, r2, Q2⟩ := play_rv (z := fun _ => 0) (z' := z') (d := fun _ => 0) (e := e) (sp := 0) (sp' := sp') (sg := sg) (sn := sn) hF hP hb0 (fun j hj => (hz' j hj).symm) hk hcb hw
  rw [q2] at r2
  have a1 : z1 = z2 := congrArg (fun x => x.1) r2
  have a2 : sp1 = sp2 := congrArg (fun x => x.2.1) r2
  have a3 : cls (rt f1) = cls (rt f2) := congrArg (fun x => x.2.2.2) r2
  have a4 : cls f1 = cls f2 := cls_back Q.1.1 Q2.1.1 (fun j hj => (Q.2.2.1.1 j hj).trans (Q2.2.2.1.1 j hj).symm) a3
  subst a1
  subst a2
  refine ⟨z1, sp1, d1, e1, f2, n2, d2, e2, hn2, by rw [q1, a4], by rw [q2, a3], r1, fun j hj => ?_, Q2⟩
  have := play_hi (z := z) (sp := sp) (d := d) (σ := cls f) (bl := nI k) (di := nI w) (sg := sg) (sn := sn) hj
  rw [q1] at this
  exact this.trans (hz j hj)
