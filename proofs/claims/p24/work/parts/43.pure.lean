/-! p24: both objects side by side; the simple calls (wip/p24/p43.lean) -/
theorem there_rC (x : Int32) : fL_there x = rC x := by
  unfold fL_there rC
  by_cases h1 : x < 0
  · rw [if_pos h1, if_pos h1]
  · rw [if_neg h1, if_neg h1]
    by_cases h2 : x ≤ 60
    · rw [if_pos h2, if_neg (fun q => by rw [Int32.le_iff_toInt_le] at h2; rw [Int32.lt_iff_toInt_lt] at q; omega)]
    · rw [if_neg h2, if_pos (by rw [Int32.le_iff_toInt_le] at h2; rw [Int32.lt_iff_toInt_lt]; omega)]
theorem way_rv {w : Nat} (h : w < 6) : fL_way (nI w) = nI (rvN w) := by
  have h2 : ∀ w : Fin 6, fL_way (nI w.val) = nI (rvN w.val) := by decide +kernel
  exact h2 ⟨w, h⟩
theorem pots_rP (x : Int32) : fL_pots x = rP x := rfl
theorem up_in {v n : Int32} {N : Nat} (hn : n.toInt = (N : Int)) (hN : 0 < N) : vp_in (fL_up v n) N := by
  have h0 : 0 ≤ (v &&& 2147483647).toInt ∧ (v &&& 2147483647).toInt < 2147483648 := by
    have hm : (v &&& 2147483647).toBitVec.msb = false := by
      rw [Int32.toBitVec_and, BitVec.msb_and]
      have : (2147483647 : Int32).toBitVec.msb = false := by decide
      rw [this, Bool.and_false]
    have h1 := BitVec.toInt_eq_msb_cond (v &&& 2147483647).toBitVec
    rw [hm] at h1
    have h2 := (v &&& 2147483647).toBitVec.isLt
    have h3 : (v &&& 2147483647).toInt = (v &&& 2147483647).toBitVec.toInt := rfl
    have h4 : (v &&& 2147483647).toInt < 2147483648 := Int32.toInt_lt _
    rw [h3, h1]
    rw [h3, h1] at h4
    simp only [Bool.false_eq_true, if_false] at h4 ⊢
    exact ⟨by omega, h4⟩
  unfold fL_up
  obtain ⟨a, ha⟩ : ∃ a : Int32, a = v &&& 2147483647 := ⟨_, rfl⟩
  rw [← ha] at h0 ⊢
  have hq1 : 0 ≤ a.toInt / n.toInt := Int.ediv_nonneg h0.1 (by omega)
  have hq2 : a.toInt / n.toInt ≤ a.toInt := Int.ediv_le_self _ h0.1
  have e1 : (a / n).toInt = a.toInt / n.toInt := by
    rw [Int32.toInt_div, Int.tdiv_eq_ediv_of_nonneg h0.1]
    exact Int.bmod_eq_of_le (by omega) (by omega)
  have hd := Int.mul_ediv_add_emod a.toInt n.toInt
  have hm1 := Int.emod_nonneg a.toInt (show n.toInt ≠ 0 by omega)
  have hm2 := Int.emod_lt_of_pos a.toInt (show 0 < n.toInt by omega)
  have hn3 : n.toInt < 2147483648 := Int32.toInt_lt n
  have e2 : (a / n * n).toInt = n.toInt * (a.toInt / n.toInt) := by
    rw [Int32.toInt_mul, e1, Int.mul_comm]
    have hp : 0 ≤ n.toInt * (a.toInt / n.toInt) := Int.mul_nonneg (by omega) hq1
    exact Int.bmod_eq_of_le (by omega) (by omega)
  rw [vp_in_iff, ti_sub (by rw [e2]; omega) (by rw [e2]; omega), e2]
  omega
def tL (t : N2) : Prop := 0 ≤ (t 3 0).toInt
/-- one object holds the row f -/
def SB (f : N1) (S : So) : Prop := oS S = cls f ∧ zH (oZ S) ∧ tL (oT S)
/-- both objects, after M calls -/
def BI (M : Nat) (f : N1) (S T : So) : Prop := gG M f ∧ SB f S ∧ SB (rt f) T
section
variable {S T : So} {f : N1} {M : Nat}
theorem SB_gs (hG : gG M f) (h : SB f S) : gset (oS S) := by
  rw [h.1]
  intro i hi
  rw [cls_6 hi]
  exact hG.2.2.1 i hi
theorem SB_gs2 (hG : gG M f) (h : SB (rt f) T) : gset (oS T) := by
  rw [h.1]
  intro i hi
  rw [cls_6 hi, rt_oth (by omega)]
  exact hG.2.2.1 i hi
theorem ofc_2 {c : Nat} (h : oS S = cls f) (hc : c < 61) : an_ofCell S (nI c) 2 = bo f c := by
  unfold an_ofCell fX6_ofCell
  rw [h, if_neg (isCe hc), if_neg (by decide), if_neg (by decide), if_pos rfl, ballOn_c hc]
theorem bal_no {b wt : Int32} (h : oS S = cls f) (hb : fX4_hasBall (cls f) b = 0) : an_ball S b wt = (-1) := by
  unfold an_ball fX6_ball
  rw [h, if_pos hb]
theorem has_b {b : Nat} (hb : b < 12) (h5 : ¬ f (13 + b) = (-5)) : ¬ fX4_hasBall (cls f) (nI b) = 0 := by
  rw [ball_iff]
  exact fun q => q ⟨b, hb, rfl, h5⟩
theorem no_b {b : Nat} (hb : b < 12) (h5 : f (13 + b) = (-5)) : fX4_hasBall (cls f) (nI b) = 0 := by
  rw [ball_iff]
  rintro ⟨j, hj, e, h6⟩
  rw [← nI_inj (by omega) (by omega) e] at h6
  exact h6 h5
theorem bal_0 {b : Nat} (h : oS S = cls f) (hb : b < 12) (h5 : ¬ f (13 + b) = (-5)) : an_ball S (nI b) 0 = f (13 + b) := by
  unfold an_ball fX6_ball
  rw [h, if_neg (has_b hb h5), if_pos rfl, nI_c (by omega), cls_0 hb]
theorem bal_1 {b : Nat} (h : oS S = cls f) (hb : b < 12) (h5 : ¬ f (13 + b) = (-5)) : an_ball S (nI b) 1 = f (25 + b) := by
  unfold an_ball fX6_ball
  rw [h, if_neg (has_b hb h5), if_neg (by decide), if_pos rfl, nI_c (by omega), cls_1 hb]
theorem bal_2 {b : Nat} (h : oS S = cls f) (hb : b < 12) (h5 : ¬ f (13 + b) = (-5)) : an_ball S (nI b) 2 = f (37 + b) := by
  unfold an_ball fX6_ball
  rw [h, if_neg (has_b hb h5), if_neg (by decide), if_neg (by decide), if_pos rfl, nI_c (by omega), cls_2 hb]
theorem bal_3 {b : Nat} (h : oS S = cls f) (hb : b < 12) (h5 : ¬ f (13 + b) = (-5)) : an_ball S (nI b) 3 = f (49 + b) := by
  unfold an_ball fX6_ball
  rw [h, if_neg (has_b hb h5), if_neg (by decide), if_neg (by decide), if_neg (by decide), if_pos rfl, nI_c (by omega), cls_3 hb]
theorem bal_4 {b : Nat} (h : oS S = cls f) (hb : b < 12) (h5 : ¬ f (13 + b) = (-5)) : an_ball S (nI b) 4 = f (61 + b) := by
  unfold an_ball fX6_ball
  rw [h, if_neg (has_b hb h5), if_neg (by decide), if_neg (by decide), if_neg (by decide), if_neg (by decide), if_pos rfl, nI_c (by omega), cls_4 hb]
theorem ct_0 (h : oS S = cls f) : an_count S 0 = nI (onN f 12) := by
  show fX4_ballsOnFelt (oS S) = _
  rw [h, felt_on]
theorem ct_1 (h : oS S = cls f) : an_count S 1 = f 12 := by
  show oS S 8 0 = _
  rw [h, cls_80]
theorem ct_2 (h : oS S = cls f) : an_count S 2 = f 4 := by
  show oS S 8 2 = _
  rw [h, cls_82]
theorem ct_3 (h : oS S = cls f) : an_count S 3 = f 6 := by
  show oS S 7 0 = _
  rw [h, cls_7 (by decide)]
theorem ct_4 (h : oS S = cls f) : an_count S 4 = f 7 := by
  show oS S 7 1 = _
  rw [h, cls_7 (by decide)]
theorem ct_5 (h : oS S = cls f) : an_count S 5 = f 5 := by
  show oS S 8 3 = _
  rw [h, cls_83]
theorem ct_6 (h : oS S = cls f) : an_count S 6 = f 8 := by
  show oS S 8 4 = _
  rw [h, cls_84]
theorem ct_7 (h : oS S = cls f) : an_count S 7 = f 9 := by
  show oS S 8 5 = _
  rw [h, cls_85]
theorem ct_8 (h : oS S = cls f) : an_count S 8 = fX4_total (cls f 3) := by
  show fX4_total (oS S 3) = _
  rw [h]
theorem ct_9 (h : oS S = cls f) : an_count S 9 = fX4_total (cls f 4) := by
  show fX4_total (oS S 4) = _
  rw [h]
theorem ct_10 (h : oS S = cls f) : an_count S 10 = f 3 := by
  show oS S 8 1 = _
  rw [h, cls_81]
theorem ct_11 {k : Nat} (h : oS S = cls f) (hk : k < 3) : an_count S (11 + nI k) = f k := by
  match k, hk with
  | 0, _ =>
    show oS S 6 0 = _
    rw [h, cls_6 (by decide)]
  | 1, _ =>
    show oS S 6 1 = _
    rw [h, cls_6 (by decide)]
  | 2, _ =>
    show oS S 6 2 = _
    rw [h, cls_6 (by decide)]
/-- whether a ball is there, by its cell as it is told -/
theorem had_iff {b : Int32} (hG : gG M f) (h : oS S = cls f) : an_ball S b 0 < 0 ↔ fX4_hasBall (cls f) b = 0 := by
  constructor
  · intro q
    by_cases h1 : fX4_hasBall (cls f) b = 0
    · exact h1
    · obtain ⟨k, hk, rfl, h5⟩ := ball_nI h1
      rw [bal_0 h hk h5] at q
      obtain ⟨c, hc, e⟩ := vin_nI ((hG.1.1.2.1 k hk).resolve_right h5)
      rw [e, Int32.lt_iff_toInt_lt, toI (by omega), Int32.toInt_zero] at q
      omega
  · intro q
    rw [bal_no h q]
    decide
theorem s_put {c v : Int32} (hB : BI M f S T) (hc : vp_in c 61) (hv : 1 ≤ v.toInt ∧ v.toInt ≤ 20) : ∃ g, BI M g (ob_put S c v) (ob_put T (fL_there c) v) ∧ an_put T (fL_there c) v = an_put S c v ∧ (an_put S c v < 0 → an_ofCell (ob_put S c v) c 2 < 0 → an_count (ob_put S c v) 1 = 12) ∧ (¬ an_put S c v < 0 → an_ofCell (ob_put S c v) c 2 = an_put S c v ∧ an_ball (ob_put S c v) (an_put S c v) 1 = v ∧ an_ball (ob_put S c v) (an_put S c v) 2 = 0) := by
  obtain ⟨k, hk, rfl⟩ := vin_nI hc
  obtain ⟨hG, ⟨s1, s2, s3⟩, ⟨t1, t2, t3⟩⟩ := hB
  rw [there_rC, rC_c hk]
  obtain ⟨r, g, hGg, p1, p2, p3⟩ := both_put hG hk hv
  have e1 : an_put S (nI k) v = r := by unfold an_put; rw [s1]; exact (p1 _ _ _ _).1
  have e2 : oS (ob_put S (nI k) v) = cls g := by unfold ob_put; show (fX6_put _ (oS S) _ _ _ _ _).2.1 = _; rw [s1]; exact (p1 _ _ _ _).2
  have e3 : an_put T (nI (60 - k)) v = r := by unfold an_put; rw [t1]; exact (p2 _ _ _ _).1
  have e4 : oS (ob_put T (nI (60 - k)) v) = cls (rt g) := by unfold ob_put; show (fX6_put _ (oS T) _ _ _ _ _).2.1 = _; rw [t1]; exact (p2 _ _ _ _).2
  refine ⟨g, ⟨hGg, ⟨e2, s2, s3⟩, ⟨e4, t2, t3⟩⟩, e3.trans e1.symm, fun h1 h2 => ?_, fun h1 => ?_⟩
  · rw [e1] at h1
    rw [ofc_2 e2 hk] at h2
    rw [ct_1 e2]
    rcases p3 with ⟨-, h3 | h3⟩ | ⟨h3, -⟩
    · rw [Int32.lt_iff_toInt_lt] at h2
      rw [Int32.le_iff_toInt_le] at h3
      omega
    · exact h3
    · exact absurd h1 h3
  · rw [e1] at h1
    rcases p3 with ⟨h3, -⟩ | ⟨-, e, he, q1, q2, q3, q4, q5⟩
    · exact absurd h3 h1
    · have h5 : ¬ g (13 + e) = (-5) := by rw [q3]; exact nI_no (by omega)
      rw [ofc_2 e2 hk, e1, q1, bal_1 e2 he h5, bal_2 e2 he h5]
      exact ⟨q2, q4, q5⟩
theorem s_move {b c : Int32} (hB : BI M f S T) (hc : vp_in c 61) : ∃ g, BI M g (ob_move S b c) (ob_move T b (fL_there c)) ∧ (an_ball S b 0 < 0 → an_move S b c = (-1) ∧ an_move T b (fL_there c) = an_move S b c) ∧ (¬ an_ball S b 0 < 0 → an_move T b (fL_there c) = fL_there (an_move S b c) ∧ (an_move S b c = (-4) ∨ an_ball (ob_move S b c) b 0 = c)) := by
  obtain ⟨k, hk, rfl⟩ := vin_nI hc
  obtain ⟨hG, ⟨s1, s2, s3⟩, ⟨t1, t2, t3⟩⟩ := hB
  rw [there_rC, there_rC, rC_c hk]
  obtain ⟨r, g, hGg, p1, p2, p3, p4⟩ := both_move (bl := b) hG hk
  have e1 : an_move S b (nI k) = r := by unfold an_move; rw [s1]; exact (p1 _ _ _ _).1
  have e2 : oS (ob_move S b (nI k)) = cls g := by unfold ob_move; show (fX6_move _ (oS S) _ _ _ _ _).2.1 = _; rw [s1]; exact (p1 _ _ _ _).2
  have e3 : an_move T b (nI (60 - k)) = rC r := by unfold an_move; rw [t1]; exact (p2 _ _ _ _).1
  have e4 : oS (ob_move T b (nI (60 - k))) = cls (rt g) := by unfold ob_move; show (fX6_move _ (oS T) _ _ _ _ _).2.1 = _; rw [t1]; exact (p2 _ _ _ _).2
  refine ⟨g, ⟨hGg, ⟨e2, s2, s3⟩, ⟨e4, t2, t3⟩⟩, fun h1 => ?_, fun h1 => ?_⟩
  · have h2 := p3 ((had_iff hG s1).mp h1)
    rw [e1, e3, h2]
    exact ⟨rfl, by decide⟩
  · rw [e1, e3]
    refine ⟨rfl, ?_⟩
    rcases p4 (fun q => h1 ((had_iff hG s1).mpr q)) with h2 | h2
    · exact Or.inl h2
    · refine Or.inr ?_
      unfold an_ball
      rw [e2]
      exact h2 _
theorem s_take {b : Int32} (hB : BI M f S T) : ∃ g, BI M g (ob_takeOff S b) (ob_takeOff T b) ∧ an_takeOff S b = an_ball S b 0 ∧ an_takeOff T b = fL_there (an_ball S b 0) ∧ an_ball (ob_takeOff S b) b 0 = (-1) := by
  obtain ⟨hG, ⟨s1, s2, s3⟩, ⟨t1, t2, t3⟩⟩ := hB
  rw [there_rC]
  obtain ⟨r, g, hGg, p1, p2, p3, p4⟩ := both_take (bl := b) hG
  have e1 : an_takeOff S b = r := by unfold an_takeOff; rw [s1]; exact (p1 _ _ _ _).1
  have e2 : oS (ob_takeOff S b) = cls g := by unfold ob_takeOff; show (fX6_takeOff _ (oS S) _ _ _ _).2.1 = _; rw [s1]; exact (p1 _ _ _ _).2
  have e3 : an_takeOff T b = rC r := by unfold an_takeOff; rw [t1]; exact (p2 _ _ _ _).1
  have e4 : oS (ob_takeOff T b) = cls (rt g) := by unfold ob_takeOff; show (fX6_takeOff _ (oS T) _ _ _ _).2.1 = _; rw [t1]; exact (p2 _ _ _ _).2
  have e5 : an_ball S b 0 = r := by unfold an_ball; rw [s1]; exact (p3 _).symm
  exact ⟨g, ⟨hGg, ⟨e2, s2, s3⟩, ⟨e4, t2, t3⟩⟩, e1.trans e5.symm, by rw [e3, e5], bal_no e2 p4⟩
theorem s_pots {op : Int32} (hB : BI M f S T) (ho : vp_in op 64) : ∃ g, BI M g (ob_setPots S op) (ob_setPots T (fL_pots op)) ∧ (an_setPots S op < 0 → an_setPots T (fL_pots op) = an_setPots S op) ∧ (¬ an_setPots S op < 0 → an_setPots T (fL_pots op) = fL_pots (an_setPots S op)) ∧ an_count (ob_setPots S op) 10 = op := by
  obtain ⟨hG, ⟨s1, s2, s3⟩, ⟨t1, t2, t3⟩⟩ := hB
  rw [pots_rP, pots_rP]
  obtain ⟨r, r2, g, hGg, p1, p2, p3, p4⟩ := both_pots hG ho
  have e1 : an_setPots S op = r := by unfold an_setPots; rw [s1]; exact (p1 _ _ _ _).1
  have e2 : oS (ob_setPots S op) = cls g := by unfold ob_setPots; show (fX6_setPots _ (oS S) _ _ _ _).2.1 = _; rw [s1]; exact (p1 _ _ _ _).2
  have e3 : an_setPots T (rP op) = r2 := by unfold an_setPots; rw [t1]; exact (p2 _ _ _ _).1
  have e4 : oS (ob_setPots T (rP op)) = cls (rt g) := by unfold ob_setPots; show (fX6_setPots _ (oS T) _ _ _ _).2.1 = _; rw [t1]; exact (p2 _ _ _ _).2
  refine ⟨g, ⟨hGg, ⟨e2, s2, s3⟩, ⟨e4, t2, t3⟩⟩, fun h1 => ?_, fun h1 => ?_, (ct_10 e2).trans p4⟩
  · rw [e1, e3]
    rcases p3 with ⟨q1, q2⟩ | ⟨q1, q2⟩
    · rw [q1, q2]
    · rw [e1] at h1
      exact absurd h1 (pots_in q1).1
  · rw [e1, e3]
    rcases p3 with ⟨q1, q2⟩ | ⟨q1, q2⟩
    · rw [e1, q1] at h1
      exact absurd (by decide) h1
    · exact q2
theorem s_set {k v : Int32} (hB : BI M f S T) (hk0 : vp_in k 3) (hv : 50 ≤ v.toInt ∧ v.toInt ≤ 100 ∧ (¬ k = 1 → v.toInt ≤ 99)) : ∃ g, BI M g (ob_set S k v) (ob_set T k v) ∧ an_set S k v = an_set T k v ∧ an_count (ob_set S k v) (11 + k) = v := by
  obtain ⟨k, hk, rfl⟩ := vin_nI hk0
  obtain ⟨hG, ⟨s1, s2, s3⟩, ⟨t1, t2, t3⟩⟩ := hB
  obtain ⟨r, g, hGg, p1, p2, p3⟩ := both_set (v := v) hG hk (by
    refine ⟨hv.1, ?_⟩
    by_cases h1 : k = 1
    · rw [if_pos h1]; exact hv.2.1
    · rw [if_neg h1]
      exact hv.2.2 (fun q => h1 (nI_inj (show k < 1000 by omega) (show 1 < 1000 by omega) q)))
  have e1 : an_set S (nI k) v = r := by unfold an_set; rw [s1]; exact (p1 _ _ _ _).1
  have e2 : oS (ob_set S (nI k) v) = cls g := by unfold ob_set; show (fX6_set _ (oS S) _ _ _ _ _).2.1 = _; rw [s1]; exact (p1 _ _ _ _).2
  have e3 : an_set T (nI k) v = r := by unfold an_set; rw [t1]; exact (p2 _ _ _ _).1
  have e4 : oS (ob_set T (nI k) v) = cls (rt g) := by unfold ob_set; show (fX6_set _ (oS T) _ _ _ _ _).2.1 = _; rw [t1]; exact (p2 _ _ _ _).2
  exact ⟨g, ⟨hGg, ⟨e2, s2, s3⟩, ⟨e4, t2, t3⟩⟩, e1.trans e3.symm, (ct_11 e2 hk).trans p3⟩
theorem s_pass {b : Int32} (hB : BI M f S T) : ∃ g, BI M g (ob_pass S b) (ob_pass T b) ∧ an_pass S b = an_pass T b := by
  obtain ⟨hG, ⟨s1, s2, s3⟩, ⟨t1, t2, t3⟩⟩ := hB
  obtain ⟨r, g, hGg, p1, p2⟩ := both_pass (pl := b) hG
  have e1 : an_pass S b = r := by unfold an_pass; rw [s1]; exact (p1 _ _ _ _).1
  have e2 : oS (ob_pass S b) = cls g := by unfold ob_pass; show (fX6_pass _ (oS S) _ _ _ _).2.1 = _; rw [s1]; exact (p1 _ _ _ _).2
  have e3 : an_pass T b = r := by unfold an_pass; rw [t1]; exact (p2 _ _ _ _).1
  have e4 : oS (ob_pass T b) = cls (rt g) := by unfold ob_pass; show (fX6_pass _ (oS T) _ _ _ _).2.1 = _; rw [t1]; exact (p2 _ _ _ _).2
  exact ⟨g, ⟨hGg, ⟨e2, s2, s3⟩, ⟨e4, t2, t3⟩⟩, e1.trans e3.symm⟩
end
