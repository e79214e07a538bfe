/-! p24: shooting, over both objects (wip/p24/p46.lean) -/
theorem shoot_no {hs n : Int32} {σ : N2} {o : Nat} {η : Nat → N2} {z d : N1} {sp : UInt32} {pl bl di sg sn : Int32} (h1 : ¬ fX6_isPlayer pl = 0) (h2 : fX4_hasBall σ bl = 0) : fX6_shoot hs σ n o η z sp d pl bl di sg sn = ((-1), σ, n, o, η, z, sp, d) := by
  unfold fX6_shoot
  rw [if_neg h1, if_pos h2]
theorem shoot_ot {hs n : Int32} {σ : N2} {o : Nat} {η : Nat → N2} {z d : N1} {sp : UInt32} {pl bl di sg sn : Int32} (h1 : ¬ fX6_isPlayer pl = 0) (h2 : ¬ fX4_hasBall σ bl = 0) (h3 : ¬ fX6_isShot di sg sn = 0) (h4 : ¬ pl = σ 8 2) : fX6_shoot hs σ n o η z sp d pl bl di sg sn = ((-4), σ, n, o, η, z, sp, d) := by
  unfold fX6_shoot
  rw [if_neg h1, if_neg h2, if_neg h3, if_neg h4]
theorem shoot_do {hs n : Int32} {σ σ1 : N2} {o : Nat} {η : Nat → N2} {z d z1 d1 : N1} {sp sp1 : UInt32} {pl bl di sg sn : Int32} (h1 : ¬ fX6_isPlayer pl = 0) (h2 : ¬ fX4_hasBall σ bl = 0) (h3 : ¬ fX6_isShot di sg sn = 0) (h4 : pl = σ 8 2) (hp : fX3_play z sp d σ bl di sg sn = (z1, sp1, d1, σ1)) : (fX6_shoot hs σ n o η z sp d pl bl di sg sn).1 = fX4_valueOfBall σ1 (z1 6) ∧ (fX6_shoot hs σ n o η z sp d pl bl di sg sn).2.1 = fX4_scoreShot σ1 (fX4_valueOfBall σ1 (z1 6)) ∧ (fX6_shoot hs σ n o η z sp d pl bl di sg sn).2.2.2.2.2.1 = z1 := by
  unfold fX6_shoot
  rw [if_neg h1, if_neg h2, if_neg h3, if_pos h4, hp]
  exact ⟨rfl, rfl, rfl⟩
section
variable {S T : So} {f : N1} {M : Nat}
theorem gG_up (hG : gG M f) : gG (M + 1) f := gG_low hG (by omega) hG.1 hG.2.1 hG.2.2.1 (Or.inl rfl) (fun _ _ => rfl)
theorem turn_p (hG : gG M f) {pl : Int32} (hpl : pl = f 4 ∨ pl = 1 - f 4) : ¬ fX6_isPlayer pl = 0 := by
  rcases hG.1.2.2.2 with q | q
  · rcases hpl with h | h
    · rw [h, q]; decide
    · rw [h, q]; decide
  · rcases hpl with h | h
    · rw [h, q]; decide
    · rw [h, q]; decide
theorem s_shoot {b d sg sn pl : Int32} (hB : BI M f S T) (hM : M ≤ 100) (hd : vp_in d 6) (hg : 10 ≤ sg.toInt ∧ sg.toInt ≤ 999) (hn : vp_in sn 3) (hpl : pl = f 4 ∨ pl = 1 - f 4) : ∃ g, BI (M + 1) g (ob_shoot S pl b d sg sn) (ob_shoot T pl b (fL_way d) sg sn) ∧ an_shoot S pl b d sg sn = an_shoot T pl b (fL_way d) sg sn ∧
    (an_shoot S pl b d sg sn < 0 → (an_shoot S pl b d sg sn = (-1) → wd f b d sg sn 3 = an_shoot S pl b d sg sn) ∧ (¬ an_shoot S pl b d sg sn = (-1) → an_shoot S pl b d sg sn = (-4) ∧ ¬ pl = f 4)) ∧
    (¬ an_shoot S pl b d sg sn < 0 → g 6 + g 7 = f 6 + f 7 + an_shoot S pl b d sg sn ∧ ((wd f b d sg sn 3 < 0 ∧ an_shoot S pl b d sg sn = 0 ∧ onN g 12 = onN f 12 ∧ g 4 = 1 - f 4) ∨ (¬ wd f b d sg sn 3 < 0 ∧ ¬ an_shoot S pl b d sg sn = 0 ∧ onN g 12 + 1 = onN f 12 ∧ g 4 = f 4))) := by
  have hf := fo_in hg hn
  obtain ⟨w, hw6, rfl⟩ := vin_nI hd
  obtain ⟨hG, ⟨s1, s2, s3⟩, ⟨t1, t2, t3⟩⟩ := hB
  rw [way_rv hw6]
  have h1 := turn_p hG hpl
  have hi := isShot_w hw6 hf
  have hi2 := isShot_w (rv_lt w) hf
  by_cases hb : fX4_hasBall (cls f) b = 0
  · have hb2 := (has_rt hG.1).mpr hb
    have a1 : an_shoot S pl b (nI w) sg sn = (-1) := by unfold an_shoot; rw [s1, shoot_no h1 hb]
    have a2 : an_shoot T pl b (nI (rvN w)) sg sn = (-1) := by unfold an_shoot; rw [t1, shoot_no h1 hb2]
    have e : wd f b (nI w) sg sn 3 = (-1) := by unfold wd; rw [if_pos hb]
    have b1 : SB f (ob_shoot S pl b (nI w) sg sn) := by
      refine ⟨?_, ?_, s3⟩
      · unfold ob_shoot
        show (fX6_shoot _ (oS S) _ _ _ _ _ _ _ _ _ _ _).2.1 = _
        rw [s1, shoot_no h1 hb]
      · unfold ob_shoot
        show zH (fX6_shoot _ (oS S) _ _ _ _ _ _ _ _ _ _ _).2.2.2.2.2.1
        rw [s1, shoot_no h1 hb]
        exact s2
    have b2 : SB (rt f) (ob_shoot T pl b (nI (rvN w)) sg sn) := by
      refine ⟨?_, ?_, t3⟩
      · unfold ob_shoot
        show (fX6_shoot _ (oS T) _ _ _ _ _ _ _ _ _ _ _).2.1 = _
        rw [t1, shoot_no h1 hb2]
      · unfold ob_shoot
        show zH (fX6_shoot _ (oS T) _ _ _ _ _ _ _ _ _ _ _).2.2.2.2.2.1
        rw [t1, shoot_no h1 hb2]
        exact t2
    refine ⟨f, ⟨gG_up hG, b1, b2⟩, a1.trans a2.symm, ?_, ?_⟩
    · rw [a1, e]
      exact fun _ => ⟨fun _ => rfl, fun q => absurd rfl q⟩
    · rw [a1]
      exact fun q => absurd (by decide) q
  · have hb2 : ¬ fX4_hasBall (cls (rt f)) b = 0 := fun q => hb ((has_rt hG.1).mp q)
    have c1 : cls f 8 2 = f 4 := cls_82
    have c2 : cls (rt f) 8 2 = f 4 := cls_82.trans (rt_oth (by omega))
    by_cases ht : pl = f 4
    · obtain ⟨k, hk, rfl, h5⟩ := ball_nI hb
      have r1 : pl = cls f 8 2 := ht.trans c1.symm
      have r2 : pl = cls (rt f) 8 2 := ht.trans c2.symm
      obtain ⟨z1, sp1, d1, e1, f1, n1, d2, e2, hn1, q1, q2, q3, hz1, Q⟩ := play_all (z := oZ S) (z' := oZ T) (d := oD S) (e := oD T) (sp := oP S) (sp' := oP T) (sg := sg) (sn := sn) hG.1 hG.2.1 (gG_b hG hM) s2 t2 hk h5 hw6
      obtain ⟨x1, x2, x3⟩ := shoot_do (hs := oH S) (n := oY S) (o := oO S) (η := oE S) h1 hb hi r1 q1
      obtain ⟨y1, y2, y3⟩ := shoot_do (hs := oH T) (n := oY T) (o := oO T) (η := oE T) h1 hb2 hi2 r2 q2
      have e : wd f (nI k) (nI w) sg sn 3 = z1 6 := by unfold wd; rw [if_neg hb, nI_c (by omega), nI_c (by omega), q3]; rfl
      have mk : ∀ (g : N1) (v : Int32), fX4_valueOfBall (cls f1) (z1 6) = v → fX4_valueOfBall (cls (rt f1)) (z1 6) = v → fX4_scoreShot (cls f1) v = cls g → fX4_scoreShot (cls (rt f1)) v = cls (rt g) → SB g (ob_shoot S pl (nI k) (nI w) sg sn) ∧ SB (rt g) (ob_shoot T pl (nI k) (nI (rvN w)) sg sn) ∧ an_shoot S pl (nI k) (nI w) sg sn = v ∧ an_shoot T pl (nI k) (nI (rvN w)) sg sn = v := by
        intro g v v1 v2 u1 u2
        refine ⟨⟨?_, ?_, s3⟩, ⟨?_, ?_, t3⟩, ?_, ?_⟩
        · unfold ob_shoot
          show (fX6_shoot _ (oS S) _ _ _ _ _ _ _ _ _ _ _).2.1 = _
          rw [s1, x2, v1, u1]
        · unfold ob_shoot
          show zH (fX6_shoot _ (oS S) _ _ _ _ _ _ _ _ _ _ _).2.2.2.2.2.1
          rw [s1, x3]
          exact hz1
        · unfold ob_shoot
          show (fX6_shoot _ (oS T) _ _ _ _ _ _ _ _ _ _ _).2.1 = _
          rw [t1, y2, v2, u2]
        · unfold ob_shoot
          show zH (fX6_shoot _ (oS T) _ _ _ _ _ _ _ _ _ _ _).2.2.2.2.2.1
          rw [t1, y3]
          exact hz1
        · unfold an_shoot
          rw [s1, x1, v1]
        · unfold an_shoot
          rw [t1, y1, v2]
      have h46 : z1 6 = (-5) ∨ ∃ j, j < 12 ∧ z1 6 = nI j := by
        obtain ⟨-, -, -, j, hj, -, -, hx⟩ := Q
        rcases hx with ⟨h, -⟩ | ⟨h, -⟩
        · exact Or.inl h
        · exact Or.inr ⟨j, hj, h⟩
      rcases h46 with h6 | ⟨j, hj, h6⟩
      · obtain ⟨g1, g2, g3, g4, g5⟩ := sc_lossG hG Q hn1 hM h6
        obtain ⟨b1, b2, a1, a2⟩ := mk (scL f1) 0 (by rw [h6, val_no]) (by rw [h6, val_no]) sc_loss (by rw [rt_scL]; exact sc_loss)
        refine ⟨scL f1, ⟨g1, b1, b2⟩, a1.trans a2.symm, ?_, ?_⟩
        · rw [a1]
          exact fun q => absurd q (by decide)
        · rw [a1, e, h6, g3, g4]
          exact fun _ => ⟨(Int32.add_zero _).symm, Or.inl ⟨by decide, rfl, g5, g2⟩⟩
      · obtain ⟨p, hp, h4⟩ : ∃ p, p < 2 ∧ f 4 = nI p := by
          rcases hG.1.2.2.2 with q | q
          · exact ⟨0, by decide, q⟩
          · exact ⟨1, by decide, q⟩
        have h41 : f1 4 = nI p := (Q.2.2.1.1 4 (by omega)).trans h4
        obtain ⟨hv, g1, g2, g3, g4⟩ := sc_winG hG Q hn1 hM hj h6 hp h4
        have hv0 : ¬ f1 (25 + j) = 0 := fun q => by rw [q, Int32.toInt_zero] at hv; omega
        obtain ⟨b1, b2, a1, a2⟩ := mk (scW f1 p (f1 (25 + j))) (f1 (25 + j)) (by rw [h6, val_k hj]) (by rw [h6, val_k hj, rt_oth (by omega)]) (sc_win hp h41 hv0) (by rw [rt_scW hp]; exact sc_win hp ((rt_oth (by omega)).trans h41) hv0)
        refine ⟨_, ⟨g1, b1, b2⟩, a1.trans a2.symm, ?_, ?_⟩
        · rw [a1]
          intro q
          rw [Int32.lt_iff_toInt_lt, Int32.toInt_zero] at q
          omega
        · rw [a1, e, h6]
          exact fun _ => ⟨g3, Or.inr ⟨fun q => by rw [Int32.lt_iff_toInt_lt, toI (by omega), Int32.toInt_zero] at q; omega, hv0, g4, g2⟩⟩
    · have r1 : ¬ pl = cls f 8 2 := fun q => ht (q.trans c1)
      have r2 : ¬ pl = cls (rt f) 8 2 := fun q => ht (q.trans c2)
      have a1 : an_shoot S pl b (nI w) sg sn = (-4) := by unfold an_shoot; rw [s1, shoot_ot h1 hb hi r1]
      have a2 : an_shoot T pl b (nI (rvN w)) sg sn = (-4) := by unfold an_shoot; rw [t1, shoot_ot h1 hb2 hi2 r2]
      have b1 : SB f (ob_shoot S pl b (nI w) sg sn) := by
        refine ⟨?_, ?_, s3⟩
        · unfold ob_shoot
          show (fX6_shoot _ (oS S) _ _ _ _ _ _ _ _ _ _ _).2.1 = _
          rw [s1, shoot_ot h1 hb hi r1]
        · unfold ob_shoot
          show zH (fX6_shoot _ (oS S) _ _ _ _ _ _ _ _ _ _ _).2.2.2.2.2.1
          rw [s1, shoot_ot h1 hb hi r1]
          exact s2
      have b2 : SB (rt f) (ob_shoot T pl b (nI (rvN w)) sg sn) := by
        refine ⟨?_, ?_, t3⟩
        · unfold ob_shoot
          show (fX6_shoot _ (oS T) _ _ _ _ _ _ _ _ _ _ _).2.1 = _
          rw [t1, shoot_ot h1 hb2 hi2 r2]
        · unfold ob_shoot
          show zH (fX6_shoot _ (oS T) _ _ _ _ _ _ _ _ _ _ _).2.2.2.2.2.1
          rw [t1, shoot_ot h1 hb2 hi2 r2]
          exact t2
      refine ⟨f, ⟨gG_up hG, b1, b2⟩, a1.trans a2.symm, ?_, ?_⟩
      · rw [a1]
        exact fun _ => ⟨fun q => absurd q (by decide), fun _ => ⟨rfl, ht⟩⟩
      · rw [a1]
        exact fun q => absurd (by decide) q
end
