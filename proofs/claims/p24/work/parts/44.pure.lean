/-! p24: what a shot would do, told by both objects (wip/p24/p44.lean) -/
theorem fc_fin {x y : UInt32} {s : Bool} {c : Nat} {q : Int} (h : Jvm.FP.Core.decode Jvm.FP.Core.b32 x.toNat = .fin s c q) (hy : y = x) : Op.cmpValue (FP.fcmp x y) .l = 0 := by
  subst hy
  have e0 : FP.fcmp y y = Jvm.FP.Core.order (Jvm.FP.Core.decode Jvm.FP.Core.b32 y.toNat) (Jvm.FP.Core.decode Jvm.FP.Core.b32 y.toNat) := rfl
  have cs : ∀ a : Int, compare a a = .eq := fun a => by rw [Int.compare_eq_eq]
  rw [e0, h]
  show Op.cmpValue (some (compare (Jvm.FP.Core.signed s (Jvm.FP.Core.inUnits c q (min q q))) (Jvm.FP.Core.signed s (Jvm.FP.Core.inUnits c q (min q q))))) .l = 0
  rw [cs]
  rfl
theorem fc_self {x y : UInt32} (h : gW x) (hy : y = x) : Op.cmpValue (FP.fcmp x y) .l = 0 := by
  obtain ⟨h1, h2⟩ := h
  obtain ⟨E, T, hT, hvE⟩ : ∃ E T : Nat, T < 8388608 ∧ x.toNat = E * 8388608 + T := ⟨x.toNat / 8388608, x.toNat % 8388608, by omega, by omega⟩
  exact fc_fin (by rw [hvE]; exact dec_norm ⟨by omega, by omega⟩ hT) hy
theorem fc_neg : Op.cmpValue (FP.fcmp 3212836864 3212836864) .l = 0 := by decide +kernel
theorem plB_g {z d : N1} {sp : UInt32} {σ : N2} (hv : gV sp) (hs : gset σ) : gW (plB z sp d σ).2.1 ∧ gset (plB z sp d σ).2.2.2 := by
  unfold plB
  split
  · exact bank_g hv hs
  · split
    · exact step_g hv hs
    · exact hit_g hv hs
theorem plN_g : ∀ (n : Nat) {z d : N1} {sp : UInt32} {σ : N2}, gW sp → gset σ → gW (plN n z sp d σ).2.1 := by
  intro n
  induction n with
  | zero => intro z d sp σ h _; exact h
  | succ n ih =>
    intro z d sp σ h hs
    unfold plN
    by_cases h1 : (Op.cmpValue (FP.fcmp sp FP.fconst1) .l) < 0
    · rw [if_pos h1]; exact h
    · rw [if_neg h1]
      by_cases h6 : z 6 = (-5)
      · rw [if_pos h6]
        have := plB_g (z := z) (d := d) ((cmp_gV h).mp h1) hs
        exact ih this.1 this.2
      · rw [if_neg h6]; exact h
theorem fo_in {sg sn : Int32} (h1 : 10 ≤ sg.toInt ∧ sg.toInt ≤ 999) (h2 : vp_in sn 3) : ¬ fX6_isForce sg sn = 0 := by
  rw [vp_in_iff] at h2
  have e1 : (10 : Int32).toInt = 10 := rfl
  have e2 : (999 : Int32).toInt = 999 := rfl
  have e3 : (2 : Int32).toInt = 2 := rfl
  unfold fX6_isForce
  rw [if_neg (by rw [Int32.lt_iff_toInt_lt]; omega), if_neg (by rw [Int32.lt_iff_toInt_lt]; omega), if_neg (by rw [Int32.lt_iff_toInt_lt, Int32.toInt_zero]; omega), if_neg (by rw [Int32.lt_iff_toInt_lt]; omega)]
  decide
theorem pl0_g {f : N1} {k w : Nat} {sg sn : Int32} (hK : ∀ i, i < 3 → gK (f i)) (hg : 10 ≤ sg.toInt ∧ sg.toInt ≤ 999) : gW (pl0 f k w sg sn).2.1 :=
  plN_g _ (gV_gW (first_gV hg.1 hg.2)) (fun i hi => by rw [cls_6 hi]; exact hK i hi)
/-- what is told of a shot -/
def wd (f : N1) (b d sg sn wt : Int32) : Int32 := if fX4_hasBall (cls f) b = 0 then (-1) else wv (pl0 f b.toNatClampNeg d.toNatClampNeg sg sn) b.toNatClampNeg wt
def sd (f : N1) (b d sg sn : Int32) : UInt32 := if fX4_hasBall (cls f) b = 0 then 3212836864 else (pl0 f b.toNatClampNeg d.toNatClampNeg sg sn).2.1
section
variable {S T : So} {f : N1} {M : Nat}
theorem s_would {b d sg sn wt : Int32} (hB : BI M f S T) (hM : M ≤ 100) (hd : vp_in d 6) (hf : ¬ fX6_isForce sg sn = 0) (hw : vp_in wt 6) : SB f (ob_would S b d sg sn wt) ∧ SB (rt f) (ob_would T b (fL_way d) sg sn wt) ∧ an_would S b d sg sn wt = wd f b d sg sn wt ∧ an_would T b (fL_way d) sg sn wt = (if wt = 4 then fL_there (wd f b d sg sn wt) else wd f b d sg sn wt) := by
  obtain ⟨w, hw6, rfl⟩ := vin_nI hd
  obtain ⟨hG, ⟨s1, s2, s3⟩, ⟨t1, t2, t3⟩⟩ := hB
  rw [way_rv hw6]
  have h3 : ¬ wt < 0 := by rw [vp_in_iff] at hw; rw [Int32.lt_iff_toInt_lt, Int32.toInt_zero]; omega
  have h4 : wt ≤ 5 := by
    have e5 : (5 : Int32).toInt = 5 := rfl
    rw [vp_in_iff] at hw; rw [Int32.le_iff_toInt_le]; omega
  by_cases hb : fX4_hasBall (cls f) b = 0
  · have hb2 := (has_rt hG.1).mpr hb
    have a1 : an_would S b (nI w) sg sn wt = (-1) := by unfold an_would; rw [s1, (no_would hb).1]
    have a2 : oZ (ob_would S b (nI w) sg sn wt) = oZ S := by unfold ob_would; show (fX6_would _ (oS S) _ _ _ _ _ _ _ _ _).2.2.1 = _; rw [s1, (no_would hb).1]
    have a3 : an_would T b (nI (rvN w)) sg sn wt = (-1) := by unfold an_would; rw [t1, (no_would hb2).1]
    have a4 : oZ (ob_would T b (nI (rvN w)) sg sn wt) = oZ T := by unfold ob_would; show (fX6_would _ (oS T) _ _ _ _ _ _ _ _ _).2.2.1 = _; rw [t1, (no_would hb2).1]
    have e : wd f b (nI w) sg sn wt = (-1) := by unfold wd; rw [if_pos hb]
    refine ⟨⟨s1, by rw [a2]; exact s2, s3⟩, ⟨t1, by rw [a4]; exact t2, t3⟩, a1.trans e.symm, ?_⟩
    rw [a3, e]
    split
    · decide
    · rfl
  · obtain ⟨k, hk, rfl, h5⟩ := ball_nI hb
    obtain ⟨b1, b2, b3, b4⟩ := both_would hG hM s2 t2 hk h5 hw6 hf h3 h4 (oH S) (oH T) (oR S) (oR T) (oP S) (oP T) (oD S) (oD T)
    have e : wd f (nI k) (nI w) sg sn wt = wv (pl0 f k w sg sn) k wt := by unfold wd; rw [if_neg hb, nI_c (by omega), nI_c (by omega)]
    have a1 : an_would S (nI k) (nI w) sg sn wt = wv (pl0 f k w sg sn) k wt := by unfold an_would; rw [s1]; exact b1
    have a3 : an_would T (nI k) (nI (rvN w)) sg sn wt = (if wt = 4 then rC (wv (pl0 f k w sg sn) k wt) else wv (pl0 f k w sg sn) k wt) := by unfold an_would; rw [t1]; exact b3
    refine ⟨⟨s1, ?_, s3⟩, ⟨t1, ?_, t3⟩, a1.trans e.symm, by rw [a3, e, there_rC]⟩
    · unfold ob_would
      show zH (fX6_would _ (oS S) _ _ _ _ _ _ _ _ _).2.2.1
      rw [s1]; exact b2
    · unfold ob_would
      show zH (fX6_would _ (oS T) _ _ _ _ _ _ _ _ _).2.2.1
      rw [t1]; exact b4
theorem s_speed {b d sg sn : Int32} (hB : BI M f S T) (hM : M ≤ 100) (hd : vp_in d 6) (hg : 10 ≤ sg.toInt ∧ sg.toInt ≤ 999) (hn : vp_in sn 3) : SB f (ob_speedLeft S b d sg sn) ∧ SB (rt f) (ob_speedLeft T b (fL_way d) sg sn) ∧ Op.cmpValue (FP.fcmp (an_speedLeft S b d sg sn) (an_speedLeft T b (fL_way d) sg sn)) .l = 0 := by
  have hf := fo_in hg hn
  obtain ⟨w, hw6, rfl⟩ := vin_nI hd
  obtain ⟨hG, ⟨s1, s2, s3⟩, ⟨t1, t2, t3⟩⟩ := hB
  rw [way_rv hw6]
  by_cases hb : fX4_hasBall (cls f) b = 0
  · have hb2 := (has_rt hG.1).mpr hb
    have a1 : an_speedLeft S b (nI w) sg sn = 3212836864 := by unfold an_speedLeft; rw [s1, (no_would (wt := 0) hb).2]
    have a2 : oZ (ob_speedLeft S b (nI w) sg sn) = oZ S := by unfold ob_speedLeft; show (fX6_speedLeft _ (oS S) _ _ _ _ _ _ _ _).2.2.1 = _; rw [s1, (no_would (wt := 0) hb).2]
    have a3 : an_speedLeft T b (nI (rvN w)) sg sn = 3212836864 := by unfold an_speedLeft; rw [t1, (no_would (wt := 0) hb2).2]
    have a4 : oZ (ob_speedLeft T b (nI (rvN w)) sg sn) = oZ T := by unfold ob_speedLeft; show (fX6_speedLeft _ (oS T) _ _ _ _ _ _ _ _).2.2.1 = _; rw [t1, (no_would (wt := 0) hb2).2]
    refine ⟨⟨s1, by rw [a2]; exact s2, s3⟩, ⟨t1, by rw [a4]; exact t2, t3⟩, ?_⟩
    rw [a1, a3]
    exact fc_neg
  · obtain ⟨k, hk, rfl, h5⟩ := ball_nI hb
    obtain ⟨b1, b2, b3, b4⟩ := both_speed hG hM s2 t2 hk h5 hw6 hf (oH S) (oH T) (oR S) (oR T) (oP S) (oP T) (oD S) (oD T)
    have a1 : an_speedLeft S (nI k) (nI w) sg sn = (pl0 f k w sg sn).2.1 := by unfold an_speedLeft; rw [s1]; exact b1
    have a3 : an_speedLeft T (nI k) (nI (rvN w)) sg sn = (pl0 f k w sg sn).2.1 := by unfold an_speedLeft; rw [t1]; exact b3
    refine ⟨⟨s1, ?_, s3⟩, ⟨t1, ?_, t3⟩, by rw [a1, a3]; exact fc_self (pl0_g hG.2.2.1 hg) rfl⟩
    · unfold ob_speedLeft
      show zH (fX6_speedLeft _ (oS S) _ _ _ _ _ _ _ _).2.2.1
      rw [s1]; exact b2
    · unfold ob_speedLeft
      show zH (fX6_speedLeft _ (oS T) _ _ _ _ _ _ _ _).2.2.1
      rw [t1]; exact b4
end
