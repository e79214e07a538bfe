/-! p24: the best shot (wip/p24/p54.lean) -/
/-- what would be won by a shot -/
def vw (f : N1) (k w : Nat) (sg sn : Int32) : Int32 := fX4_valueOfBall (cls f) ((pl0 f k w sg sn).1 6)
/-- the best so far: nothing, or a shot of a ball that is there -/
def bG (f : N1) (sg sn : Int32) (m b e : Int32) : Prop := (m = 0 ∧ b = (-5) ∧ e = (-5)) ∨ ∃ k w, k < 12 ∧ w < 6 ∧ b = nI k ∧ e = nI w ∧ ¬ f (13 + k) = (-5) ∧ m = vw f k w sg sn ∧ 0 < m.toInt
/-- the directions of a ball, the balls, on numbers alone -/
def bPI (f : N1) (sg sn : Int32) : Nat → Nat → Nat → Int32 × Int32 × Int32 → Int32 × Int32 × Int32
  | 0, _, _, s => s
  | n + 1, j, k, s => if fX4_hasBall (cls f) (nI k) = 0 then s else if vw f k j sg sn ≤ s.1 then bPI f sg sn n (j + 1) k s else bPI f sg sn n (j + 1) k (vw f k j sg sn, nI k, nI j)
def bPO (f : N1) (sg sn : Int32) : Nat → Nat → Int32 × Int32 × Int32 → Int32 × Int32 × Int32
  | 0, _, s => s
  | n + 1, k, s => bPO f sg sn n (k + 1) (bPI f sg sn 6 0 k s)
section
variable {f : N1} {M : Nat} {sg sn hs : Int32}
theorem try_p {σr : N2} {z d : N1} {sp : UInt32} {k w : Nat} (hG : gG M f) (hM : M ≤ 100) (hz : zH z) (hk : k < 12) (h5 : ¬ f (13 + k) = (-5)) (hw : w < 6) : fX4_valueOfBall (cls f) ((fX6_tryShot hs (cls f) σr z sp d (nI k) (nI w) sg sn).2.1 6) = vw f k w sg sn ∧ zH (fX6_tryShot hs (cls f) σr z sp d (nI k) (nI w) sg sn).2.1 := by
  obtain ⟨z1, sp1, d1, e1, f1, n1, d2, e2, hn, q1, q2, q3, hz1, Q⟩ := play_all (z := z) (z' := fun _ => 0) (d := d) (e := fun _ => 0) (sp := sp) (sp' := 0) (sg := sg) (sn := sn) hG.1 hG.2.1 (gG_b hG hM) hz (fun _ _ => rfl) hk h5 hw
  unfold fX6_tryShot fX4_copyFrom vw
  rw [q1, q3]
  exact ⟨rfl, hz1⟩
theorem bI_p (hG : gG M f) (hM : M ≤ 100) {k : Nat} (hk : k < 12) : ∀ (n j : Nat), j + n ≤ 6 → ∀ (m b e : Int32) (σr : N2) (z : N1) (sp : UInt32) (d : N1), zH z → ∃ σr1 z1 sp1 d1, zH z1 ∧ bsI hs (cls f) sg sn n j k (m, b, e, σr, z, sp, d) = ((bPI f sg sn n j k (m, b, e)).1, (bPI f sg sn n j k (m, b, e)).2.1, (bPI f sg sn n j k (m, b, e)).2.2, σr1, z1, sp1, d1) := by
  intro n
  induction n with
  | zero => intro j hj m b e σr z sp d hz; exact ⟨σr, z, sp, d, hz, rfl⟩
  | succ n ih =>
    intro j hj m b e σr z sp d hz
    unfold bsI bPI
    by_cases h1 : fX4_hasBall (cls f) (nI k) = 0
    · rw [if_pos h1, if_pos h1]
      exact ⟨σr, z, sp, d, hz, rfl⟩
    · rw [if_neg h1, if_neg h1]
      have h5 : ¬ f (13 + k) = (-5) := fun q => h1 (no_b hk q)
      obtain ⟨t1, t2⟩ := try_p (hs := hs) (σr := σr) (sp := sp) (d := d) (sg := sg) (sn := sn) hG hM hz hk h5 (show j < 6 by omega)
      simp only [t1]
      by_cases h2 : vw f k j sg sn ≤ m
      · rw [if_pos h2, if_pos h2]
        exact ih (j + 1) (by omega) m b e _ _ _ _ t2
      · rw [if_neg h2, if_neg h2]
        exact ih (j + 1) (by omega) _ _ _ _ _ _ _ t2
theorem bO_p (hG : gG M f) (hM : M ≤ 100) : ∀ (n k : Nat), k + n ≤ 12 → ∀ (m b e : Int32) (σr : N2) (z : N1) (sp : UInt32) (d : N1), zH z → ∃ σr1 z1 sp1 d1, zH z1 ∧ bsO hs (cls f) sg sn n k (m, b, e, σr, z, sp, d) = ((bPO f sg sn n k (m, b, e)).1, (bPO f sg sn n k (m, b, e)).2.1, (bPO f sg sn n k (m, b, e)).2.2, σr1, z1, sp1, d1) := by
  intro n
  induction n with
  | zero => intro k hk m b e σr z sp d hz; exact ⟨σr, z, sp, d, hz, rfl⟩
  | succ n ih =>
    intro k hk m b e σr z sp d hz
    obtain ⟨σr1, z1, sp1, d1, hz1, e1⟩ := bI_p (hs := hs) (sg := sg) (sn := sn) hG hM (show k < 12 by omega) 6 0 (by omega) m b e σr z sp d hz
    unfold bsO bPO
    rw [e1]
    exact ih (k + 1) (by omega) _ _ _ _ _ _ _ hz1
theorem bI_g {k : Nat} (hk : k < 12) : ∀ (n j : Nat), j + n ≤ 6 → ∀ (s : Int32 × Int32 × Int32), bG f sg sn s.1 s.2.1 s.2.2 → bG f sg sn (bPI f sg sn n j k s).1 (bPI f sg sn n j k s).2.1 (bPI f sg sn n j k s).2.2 := by
  intro n
  induction n with
  | zero => intro j _ s h; exact h
  | succ n ih =>
    intro j hj s h
    unfold bPI
    by_cases h1 : fX4_hasBall (cls f) (nI k) = 0
    · rw [if_pos h1]; exact h
    · rw [if_neg h1]
      by_cases h2 : vw f k j sg sn ≤ s.1
      · rw [if_pos h2]; exact ih (j + 1) (by omega) s h
      · rw [if_neg h2]
        refine ih (j + 1) (by omega) _ (Or.inr ⟨k, j, hk, by omega, rfl, rfl, fun q => h1 (no_b hk q), rfl, ?_⟩)
        show 0 < (vw f k j sg sn).toInt
        have h3 : 0 ≤ s.1.toInt := by
          rcases h with ⟨h, -⟩ | ⟨_, _, _, _, _, _, _, _, h⟩
          · rw [h]; decide
          · omega
        rw [Int32.le_iff_toInt_le] at h2
        omega
theorem bO_g : ∀ (n k : Nat), k + n ≤ 12 → ∀ (s : Int32 × Int32 × Int32), bG f sg sn s.1 s.2.1 s.2.2 → bG f sg sn (bPO f sg sn n k s).1 (bPO f sg sn n k s).2.1 (bPO f sg sn n k s).2.2 := by
  intro n
  induction n with
  | zero => intro k _ s h; exact h
  | succ n ih =>
    intro k hk s h
    exact ih (k + 1) (by omega) _ (bI_g (by omega) 6 0 (by omega) s h)
/-- the best of a row: what is won, the ball, the direction -/
def bst (f : N1) (sg sn : Int32) : Int32 × Int32 × Int32 := bPO f sg sn 12 0 (0, (-5), (-5))
theorem bst_g : bG f sg sn (bst f sg sn).1 (bst f sg sn).2.1 (bst f sg sn).2.2 := bO_g 12 0 (by omega) (0, (-5), (-5)) (Or.inl ⟨rfl, rfl, rfl⟩)
end
section
variable {S : So} {f : N1} {M : Nat} {sg sn : Int32}
theorem s_best (hG : gG M f) (hM : M ≤ 100) (hS : SB f S) (hf : ¬ fX6_isForce sg sn = 0) {wt : Int32} (hw : vp_in wt 3) : SB f (ob_best S sg sn wt) ∧ an_best S sg sn wt = (if wt = 0 then (bst f sg sn).2.1 else if wt = 1 then (bst f sg sn).2.2 else if (bst f sg sn).1 ≤ 0 then (-5) else (bst f sg sn).1) := by
  obtain ⟨s1, s2, s3⟩ := hS
  obtain ⟨σr1, z1, sp1, d1, hz1, e1⟩ := bO_p (hs := oH S) (sg := sg) (sn := sn) hG hM 12 0 (by omega) 0 (-5) (-5) (oR S) (oZ S) (oP S) (oD S) s2
  have h0 : ¬ wt < 0 := by rw [vp_in_iff] at hw; rw [Int32.lt_iff_toInt_lt, Int32.toInt_zero]; omega
  have h2 : wt ≤ 2 := by
    have e5 : (2 : Int32).toInt = 2 := rfl
    rw [vp_in_iff] at hw; rw [Int32.le_iff_toInt_le]; omega
  have ev : fX6_best (oH S) (cls f) (oR S) (oZ S) (oP S) (oD S) sg sn wt = ((if wt = 0 then (bst f sg sn).2.1 else if wt = 1 then (bst f sg sn).2.2 else if (bst f sg sn).1 ≤ 0 then (-5) else (bst f sg sn).1), σr1, z1, sp1, d1) := by
    unfold fX6_best
    rw [if_neg hf, if_neg h0, if_pos h2, e1]
    rfl
  refine ⟨⟨s1, ?_, s3⟩, ?_⟩
  · unfold ob_best
    show zH (fX6_best _ (oS S) _ _ _ _ _ _ _).2.2.1
    rw [s1, ev]
    exact hz1
  · unfold an_best
    rw [s1, ev]
/-- a shot told by one object alone -/
theorem one_would (hG : gG M f) (hM : M ≤ 100) (hS : SB f S) {b d wt : Int32} (hd : vp_in d 6) (hf : ¬ fX6_isForce sg sn = 0) (hw : vp_in wt 6) : SB f (ob_would S b d sg sn wt) ∧ an_would S b d sg sn wt = wd f b d sg sn wt := by
  have hT : SB (rt f) (cls (rt f), (fun _ => 0), (fun _ _ => 0), (0, cls f, cls f, 0, fun _ => 0), (0, 0, fun _ => cls f)) := ⟨rfl, fun _ _ => rfl, by show 0 ≤ (0 : Int32).toInt; decide⟩
  obtain ⟨h1, -, h3, -⟩ := s_would (b := b) (d := d) (sg := sg) (sn := sn) (wt := wt) (T := (cls (rt f), (fun _ => 0), (fun _ _ => 0), (0, cls f, cls f, 0, fun _ => 0), (0, 0, fun _ => cls f))) ⟨hG, hS, hT⟩ hM hd hf hw
  exact ⟨h1, h3⟩
/-- of what the best shot wins -/
theorem best_none (h : (bst f sg sn).2.1 = (-5)) : (bst f sg sn).1 ≤ 0 := by
  rcases bst_g (f := f) (sg := sg) (sn := sn) with ⟨h1, -⟩ | ⟨k, w, hk, -, h2, -⟩
  · rw [h1]; decide
  · exact absurd (h2.symm.trans h) (nI_no (by omega))
theorem best_some (hG : gG M f) (hM : M ≤ 100) (h : ¬ (bst f sg sn).2.1 = (-5)) : vp_in (bst f sg sn).2.2 6 ∧ ¬ (bst f sg sn).1 ≤ 0 ∧ ∃ j, j < 12 ∧ wd f (bst f sg sn).2.1 (bst f sg sn).2.2 sg sn 3 = nI j ∧ ¬ f (13 + j) = (-5) ∧ f (25 + j) = (bst f sg sn).1 := by
  rcases bst_g (f := f) (sg := sg) (sn := sn) with ⟨-, h1, -⟩ | ⟨k, w, hk, hw, h2, h3, h4, h5, h6⟩
  · exact absurd h1 h
  · rw [h2, h3]
    refine ⟨vp_in_nI hw (by decide), fun q => by rw [Int32.le_iff_toInt_le, Int32.toInt_zero] at q; omega, ?_⟩
    obtain ⟨z1, sp1, d1, e1, f1, n1, d2, e2, hn, q1, q2, q3, hz1, Q⟩ := play_all (z := fun _ => 0) (z' := fun _ => 0) (d := fun _ => 0) (e := fun _ => 0) (sp := 0) (sp' := 0) (sg := sg) (sn := sn) hG.1 hG.2.1 (gG_b hG hM) (fun _ _ => rfl) (fun _ _ => rfl) hk h4 hw
    have e : wd f (nI k) (nI w) sg sn 3 = z1 6 := by unfold wd; rw [if_neg (has_b hk h4), nI_c (by omega), nI_c (by omega), q3]; rfl
    have ev : vw f k w sg sn = fX4_valueOfBall (cls f) (z1 6) := by unfold vw; rw [q3]
    rw [e]
    obtain ⟨-, -, -, j, hj, -, -, hx⟩ := Q
    rcases hx with ⟨h7, -⟩ | ⟨h7, -, h8, -⟩
    · rw [h5, ev, h7, val_no] at h6
      exact absurd h6 (by decide)
    · refine ⟨j, hj, h7, h8, ?_⟩
      rw [h5, ev, h7, val_k hj]
theorem best_won (hG : gG M f) (hM : M ≤ 100) (h : ¬ (bst f sg sn).2.1 = (-5)) : ¬ wd f (bst f sg sn).2.1 (bst f sg sn).2.2 sg sn 3 < 0 ∧ ∀ S : So, oS S = cls f → an_ball S (wd f (bst f sg sn).2.1 (bst f sg sn).2.2 sg sn 3) 1 = (bst f sg sn).1 := by
  obtain ⟨-, -, j, hj, h1, h2, h3⟩ := best_some hG hM h
  rw [h1]
  refine ⟨fun q => ?_, fun S hS => ?_⟩
  · rw [Int32.lt_iff_toInt_lt, toI (by omega), Int32.toInt_zero] at q
    omega
  · rw [bal_1 hS hj h2, h3]
end
