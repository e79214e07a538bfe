/-! p24: what a shot would do, on both felts (wip/p24/p40.lean) -/
theorem dirs : ∀ w : Fin 6, ¬ fX1_isDirection (nI w.val) = 0 := by decide +kernel
theorem isShot_w {w : Nat} {sg sn : Int32} (hw : w < 6) (hf : ¬ fX6_isForce sg sn = 0) : ¬ fX6_isShot (nI w) sg sn = 0 := by
  unfold fX6_isShot
  rw [if_neg (dirs ⟨w, hw⟩), if_neg hf]
  decide
/-- what a shot's end tells -/
def wv (P : N1 × UInt32 × N1 × N2) (k : Nat) (wt : Int32) : Int32 := if wt = 0 then P.1 3 else if wt = 1 then P.1 4 else if wt = 2 then P.1 5 else if wt = 3 then P.1 6 else if wt = 4 then fX4_cellOfBall P.2.2.2 (nI k) else P.1 0
theorem would_form {hs : Int32} {σ σr : N2} {z d : N1} {sp : UInt32} {k w : Nat} {sg sn wt : Int32} (h1 : ¬ fX4_hasBall σ (nI k) = 0) (h2 : ¬ fX6_isShot (nI w) sg sn = 0) (h3 : ¬ wt < 0) (h4 : wt ≤ 5) : fX6_would hs σ σr z sp d (nI k) (nI w) sg sn wt = (wv (fX3_play z sp d σ (nI k) (nI w) sg sn) k wt, fX6_tryShot hs σ σr z sp d (nI k) (nI w) sg sn) := by
  unfold fX6_would wv fX6_tryShot fX4_copyFrom
  rw [if_neg h1, if_neg h2, if_neg h3, if_pos h4]
  repeat' split
  all_goals rfl
theorem both_would {M : Nat} {f z z' : N1} {k w : Nat} {sg sn wt : Int32} (hG : gG M f) (hM : M ≤ 100) (hz : zH z) (hz' : zH z') (hk : k < 12) (hcb : ¬ f (13 + k) = (-5)) (hw : w < 6) (hf : ¬ fX6_isForce sg sn = 0) (h3 : ¬ wt < 0) (h4 : wt ≤ 5) (hs hs' : Int32) (σr σr' : N2) (sp sp' : UInt32) (d e : N1) :
    (fX6_would hs (cls f) σr z sp d (nI k) (nI w) sg sn wt).1 = wv (pl0 f k w sg sn) k wt ∧ zH (fX6_would hs (cls f) σr z sp d (nI k) (nI w) sg sn wt).2.2.1 ∧
    (fX6_would hs' (cls (rt f)) σr' z' sp' e (nI k) (nI (rvN w)) sg sn wt).1 = (if wt = 4 then rC (wv (pl0 f k w sg sn) k wt) else wv (pl0 f k w sg sn) k wt) ∧ zH (fX6_would hs' (cls (rt f)) σr' z' sp' e (nI k) (nI (rvN w)) sg sn wt).2.2.1 := by
  obtain ⟨z1, sp1, d1, e1, f1, n1, d2, e2, hn, q1, q2, q3, hz1, Q⟩ := play_all (z := z) (z' := z') (d := d) (e := e) (sp := sp) (sp' := sp') (sg := sg) (sn := sn) hG.1 hG.2.1 (gG_b hG hM) hz hz' hk hcb hw
  have b1 : ¬ fX4_hasBall (cls f) (nI k) = 0 := by
    rw [ball_iff]
    exact fun q => q ⟨k, hk, rfl, hcb⟩
  have b2 : ¬ fX4_hasBall (cls (rt f)) (nI k) = 0 := fun q => b1 ((has_rt hG.1).mp q)
  rw [would_form b1 (isShot_w hw hf) h3 h4, would_form b2 (isShot_w (rv_lt w) hf) h3 h4]
  unfold fX6_tryShot fX4_copyFrom
  rw [q1, q2, q3]
  refine ⟨rfl, hz1, ?_, hz1⟩
  unfold wv
  by_cases w0 : wt = 0
  · rw [if_pos w0, if_pos w0, if_neg (by rw [w0]; decide)]
  · rw [if_neg w0, if_neg w0]
    by_cases w1 : wt = 1
    · rw [if_pos w1, if_pos w1, if_neg (by rw [w1]; decide)]
    · rw [if_neg w1, if_neg w1]
      by_cases w2 : wt = 2
      · rw [if_pos w2, if_pos w2, if_neg (by rw [w2]; decide)]
      · rw [if_neg w2, if_neg w2]
        by_cases w3 : wt = 3
        · rw [if_pos w3, if_pos w3, if_neg (by rw [w3]; decide)]
        · rw [if_neg w3, if_neg w3]
          by_cases w4 : wt = 4
          · rw [if_pos w4, if_pos w4, if_pos w4, cellOf_c hk, cellOf_c hk, rt_cell hk]
          · rw [if_neg w4, if_neg w4, if_neg w4]
theorem both_speed {M : Nat} {f z z' : N1} {k w : Nat} {sg sn : Int32} (hG : gG M f) (hM : M ≤ 100) (hz : zH z) (hz' : zH z') (hk : k < 12) (hcb : ¬ f (13 + k) = (-5)) (hw : w < 6) (hf : ¬ fX6_isForce sg sn = 0) (hs hs' : Int32) (σr σr' : N2) (sp sp' : UInt32) (d e : N1) :
    (fX6_speedLeft hs (cls f) σr z sp d (nI k) (nI w) sg sn).1 = (pl0 f k w sg sn).2.1 ∧ zH (fX6_speedLeft hs (cls f) σr z sp d (nI k) (nI w) sg sn).2.2.1 ∧
    (fX6_speedLeft hs' (cls (rt f)) σr' z' sp' e (nI k) (nI (rvN w)) sg sn).1 = (pl0 f k w sg sn).2.1 ∧ zH (fX6_speedLeft hs' (cls (rt f)) σr' z' sp' e (nI k) (nI (rvN w)) sg sn).2.2.1 := by
  obtain ⟨z1, sp1, d1, e1, f1, n1, d2, e2, hn, q1, q2, q3, hz1, Q⟩ := play_all (z := z) (z' := z') (d := d) (e := e) (sp := sp) (sp' := sp') (sg := sg) (sn := sn) hG.1 hG.2.1 (gG_b hG hM) hz hz' hk hcb hw
  have b1 : ¬ fX4_hasBall (cls f) (nI k) = 0 := by
    rw [ball_iff]
    exact fun q => q ⟨k, hk, rfl, hcb⟩
  have b2 : ¬ fX4_hasBall (cls (rt f)) (nI k) = 0 := fun q => b1 ((has_rt hG.1).mp q)
  unfold fX6_speedLeft fX6_tryShot fX4_copyFrom
  rw [if_neg b1, if_neg b2, if_neg (isShot_w hw hf), if_neg (isShot_w (rv_lt w) hf), q1, q2, q3]
  exact ⟨rfl, hz1, rfl, hz1⟩
theorem no_would {hs : Int32} {σ σr : N2} {z d : N1} {sp : UInt32} {bl di sg sn wt : Int32} (h : fX4_hasBall σ bl = 0) : fX6_would hs σ σr z sp d bl di sg sn wt = ((-1), σr, z, sp, d) ∧ fX6_speedLeft hs σ σr z sp d bl di sg sn = (3212836864, σr, z, sp, d) := by
  unfold fX6_would fX6_speedLeft
  rw [if_pos h, if_pos h]
  exact ⟨rfl, rfl⟩
