/-! a whole shot, side by side (wip/whole/gen/p33.lean) -/
theorem ballOn_c {f : N1} {c : Nat} (hc : c < 61) : fX4_ballOnCell (cls f) (nI c) = bo f c := by
  unfold fX4_ballOnCell
  rw [if_neg (isCe hc), nI_c (by omega), cls_5 hc]
theorem ev_one {z d : N1} {σ μ : N2} {sp : UInt32} (hJ : JM μ sp) (hQ : QS z d σ μ) (h6 : μ 9 6 = (-5)) : QS (plB z sp d σ).1 (plB z sp d σ).2.2.1 (plB z sp d σ).2.2.2 (mdB μ sp).1 ∧ (plB z sp d σ).2.1 = (mdB μ sp).2 := by
  obtain ⟨rfl, hF, hz, ht, k, hk, hm, ⟨he, -⟩, hw0⟩ := hQ
  obtain ⟨c, w, hc, hw, e1, e2, hd⟩ := hw0 h6
  have hT : gTab μ := hJ.2.1
  have e0 : fX7_ahead μ sp (μ 0 (13 + (μ 9 2)).toNatClampNeg) (μ 9 3) = ahC (nI c) (nI w) := by
    rw [hm, ix13 hk, e1, e2]
    exact ahead_tab hT (vp_in_nI hc (by decide)) (vp_in_nI hw (by decide))
  unfold plB mdB
  rw [e0, dW_ahead hd hc hw]
  by_cases h1 : ahC (nI c) (nI w) = (-5)
  · rw [if_pos h1, if_pos h1]
    exact ev_bank hF hT hz ht hk hm hc hw e1 e2 hd h6 he h1
  · rw [if_neg h1, if_neg h1]
    obtain ⟨a1, a2⟩ := nI_back (ah_in hc hw h1) (by decide)
    generalize hc2e : (ahC (nI c) (nI w)).toNatClampNeg = c2 at a1 a2
    rw [← a1, bo_ref hF a2, ballOn_c a2]
    rcases bo_spec (μ 0) c2 with ⟨h2, h3⟩ | ⟨j, h2, h3, h4⟩
    · rw [if_pos h2, if_pos h2]
      exact ev_step hF hT hz ht hk hm hc hw e1 e2 hd h6 he a2 a1.symm h3
    · rw [if_neg (by rw [h3]; exact nI_no (by omega)), if_neg (by rw [h3]; exact nI_no (by omega)), h3]
      exact ev_hit hF hz ht hk hm hc hw e2 hd h6 a2 a1.symm h2 h4
theorem ev_all : ∀ (n : Nat) {z d : N1} {σ μ : N2} {sp : UInt32}, JM μ sp → QS z d σ μ → QS (plN n z sp d σ).1 (plN n z sp d σ).2.2.1 (plN n z sp d σ).2.2.2 (mdN n μ sp).1 ∧ (plN n z sp d σ).2.1 = (mdN n μ sp).2 := by
  intro n
  induction n with
  | zero => intro z d σ μ sp hJ hQ; exact ⟨hQ, rfl⟩
  | succ n ih =>
    intro z d σ μ sp hJ hQ
    unfold plN mdN
    have hz6 : z 6 = μ 9 6 := hQ.2.2.1.2.2.2.2.2.2
    by_cases h1 : (Op.cmpValue (FP.fcmp sp FP.fconst1) .l) < 0
    · rw [if_pos h1]
      by_cases h6 : μ 9 6 = (-5)
      · rw [if_pos h6, if_pos h1]
        exact ⟨hQ, rfl⟩
      · rw [if_neg h6]
        exact ⟨hQ, rfl⟩
    · rw [if_neg h1, hz6]
      by_cases h6 : μ 9 6 = (-5)
      · rw [if_pos h6, if_pos h6, if_neg h1]
        have hv := (cmp_gV hJ.2.2.1).mp h1
        obtain ⟨q1, q2⟩ := ev_one hJ hQ h6
        have q3 := (mdB_J hJ h6 hv).1
        rw [← q2] at q3 ⊢
        exact ih q3 q1
      · rw [if_neg h6, if_neg h6]
        exact ⟨hQ, rfl⟩
/-- the shot's start -/
theorem QS0 {z d : N1} {μ : N2} {k c w : Nat} {sn : Int32} (hF : gF (μ 0)) (ht : fX4_total (cls (μ 0) 3) = μ 0 10 ∧ fX4_total (cls (μ 0) 4) = μ 0 11) (hk : k < 12) (hc : c < 61) (hw : w < 6) (e1 : μ 0 (13 + k) = nI c) : QS (plZ z (nI k) sn) (fX5_startAt d (nI c) (nI w)) (cls (μ 0)) (shI μ (nI k) (nI w) sn) := by
  have s0 : (shI μ (nI k) (nI w) sn) 0 = μ 0 := by
    unfold shI
    rw [u2_row (by decide), u2_row (by decide), u2_row (by decide), u2_row (by decide), u2_row (by decide), u2_row (by decide), u2_row (by decide), u2_row (by decide)]
  have s2 : (shI μ (nI k) (nI w) sn) 9 2 = nI k := by simp [shI, u2_get]
  have s3 : (shI μ (nI k) (nI w) sn) 9 3 = nI w := by simp [shI, u2_get]
  have s4 : (shI μ (nI k) (nI w) sn) 9 4 = 0 := by simp [shI, u2_get]
  have s5 : (shI μ (nI k) (nI w) sn) 9 5 = sn := by simp [shI, u2_get]
  have s6 : (shI μ (nI k) (nI w) sn) 9 6 = (-5) := by simp [shI, u2_get]
  have s7 : (shI μ (nI k) (nI w) sn) 9 7 = 0 := by simp [shI, u2_get]
  have s8 : (shI μ (nI k) (nI w) sn) 9 8 = 0 := by simp [shI, u2_get]
  have s9 : (shI μ (nI k) (nI w) sn) 9 9 = 0 := by simp [shI, u2_get]
  unfold QS
  rw [s0, s2, s3, s4, s5, s6, s7, s8, s9]
  refine ⟨rfl, hF, ⟨?_, ?_, ?_, ?_, ?_, ?_, ?_⟩, ⟨by rw [ht.1, Int32.add_zero], by rw [ht.2, Int32.add_zero]⟩, k, hk, rfl, ⟨ever_lt hF.2.2.1 hk hc e1, Or.inl rfl⟩, fun _ => ⟨c, w, hc, hw, e1, rfl, dW_start hc⟩⟩ <;> simp [plZ, upd]
theorem cellOf_c {f : N1} {k : Nat} (hk : k < 12) : fX4_cellOfBall (cls f) (nI k) = f (13 + k) := by
  unfold fX4_cellOfBall
  rw [if_neg (isBN hk), nI_c (by omega), cls_0 hk]
theorem valOf_c {f : N1} {k : Nat} (hk : k < 12) : fX4_valueOfBall (cls f) (nI k) = f (25 + k) := by
  unfold fX4_valueOfBall
  rw [if_neg (isBN hk), nI_c (by omega), cls_1 hk]
theorem valOf_5 {σ : N2} : fX4_valueOfBall σ (-5) = 0 := by
  unfold fX4_valueOfBall
  rw [if_pos (by rfl)]
/-- a played shot: what stands behind it on both sides -/
theorem play_c {z d : N1} {μ : N2} {sp sp' : UInt32} {k w : Nat} {sg sn : Int32} (hF : gF (μ 0)) (hT : gTab μ) (ht : fX4_total (cls (μ 0) 3) = μ 0 10 ∧ fX4_total (cls (μ 0) 4) = μ 0 11) (hk : k < 12) (hw : w < 6) (hcb : ¬ μ 0 (13 + k) = (-5)) (hg : 10 ≤ sg.toInt ∧ sg.toInt ≤ 999) :
    QS (fX3_play z sp d (cls (μ 0)) (nI k) (nI w) sg sn).1 (fX3_play z sp d (cls (μ 0)) (nI k) (nI w) sg sn).2.2.1 (fX3_play z sp d (cls (μ 0)) (nI k) (nI w) sg sn).2.2.2 (fX7_shot μ sp' (nI k) (nI w) sg sn).2.1 ∧ (fX3_play z sp d (cls (μ 0)) (nI k) (nI w) sg sn).2.1 = (fX7_shot μ sp' (nI k) (nI w) sg sn).2.2 ∧ fX4_valueOfBall (fX3_play z sp d (cls (μ 0)) (nI k) (nI w) sg sn).2.2.2 ((fX3_play z sp d (cls (μ 0)) (nI k) (nI w) sg sn).1 6) = (fX7_shot μ sp' (nI k) (nI w) sg sn).1 := by
  have hv := (hF.1.2.1 k hk).resolve_right hcb
  obtain ⟨c, hc, e1⟩ := vin_nI hv
  have hJ := JM0 (μ := μ) (bl := nI k) (di := nI w) (sg := sg) (sn := sn) hF.1 hT (vp_in_nI hk (by decide)) (vp_in_nI hw (by decide)) (by rw [ix13 hk]; exact hv) hg
  have hQ := QS0 (z := z) (d := d) (sn := sn) hF ht hk hc hw e1
  unfold fX3_play fX7_shot
  rw [cellOf_c hk, e1]
  have h := ev_all 1000000 hJ hQ
  have hJ2 := mdN_J 1000000 hJ
  generalize mdN 1000000 (shI μ (nI k) (nI w) sn) (FP.fdiv (FP.i2f sg) 1092616192) = M at h hJ2 ⊢
  generalize plN 1000000 (plZ z (nI k) sn) (FP.fdiv (FP.i2f sg) 1092616192) (fX5_startAt d (nI c) (nI w)) (cls (μ 0)) = P at h ⊢
  refine ⟨h.1, h.2, ?_⟩
  have hz6 : P.1 6 = M.1 9 6 := h.1.2.2.1.2.2.2.2.2.2
  rw [hz6, h.1.1]
  show _ = if M.1 9 6 = (-5) then 0 else M.1 0 (25 + (M.1 9 6)).toNatClampNeg
  by_cases h6 : M.1 9 6 = (-5)
  · rw [if_pos h6, h6, valOf_5]
  · rw [if_neg h6]
    obtain ⟨g, hg2, eg⟩ := vin_nI (hJ2.2.2.2.2.2.2.resolve_left h6)
    rw [eg, valOf_c hg2, ix25 hg2]
theorem lift_rows {σ : N2} {bl : Int32} {i : Nat} (h0 : ¬ i = 0) (h5 : ¬ i = 5) : fX4_lift σ bl i = σ i := by
  unfold fX4_lift
  repeat' split
  · rfl
  · rfl
  · rw [u2_row h0, u2_row h5]
theorem place_rows {σ : N2} {bl ce : Int32} {i : Nat} (h0 : ¬ i = 0) (h5 : ¬ i = 5) : fX4_place σ bl ce i = σ i := by
  unfold fX4_place
  repeat' split
  · rfl
  · rfl
  · rw [u2_row h5, u2_row h0, lift_rows h0 h5]
theorem plB_rows {z : N1} {sp : UInt32} {d : N1} {σ : N2} {i : Nat} (hi : i = 1 ∨ i = 6 ∨ i = 7 ∨ i = 8) : (plB z sp d σ).2.2.2 i = σ i := by
  have h0 : ¬ i = 0 := by omega
  have h2 : ¬ i = 2 := by omega
  have h3 : ¬ i = 3 := by omega
  have h4 : ¬ i = 4 := by omega
  have h5 : ¬ i = 5 := by omega
  have e2 : ∀ bl, fX4_addStep σ bl i = σ i := fun bl => by
    unfold fX4_addStep
    split
    · rfl
    · rw [u2_row h2]
  have e3 : ∀ bl, fX4_addBank σ bl i = σ i := fun bl => by
    unfold fX4_addBank
    split
    · rfl
    · rw [u2_row h3]
  have e4 : ∀ bl, fX4_addHit σ bl i = σ i := fun bl => by
    unfold fX4_addHit
    split
    · rfl
    · rw [u2_row h4]
  unfold plB
  repeat' split
  · rw [bank_cl]
    exact e3 _
  · rw [step_cl]
    split
    · show fX4_place (fX4_addStep σ (z 0)) (z 0) (fX5_cellAhead d) i = σ i
      rw [place_rows h0 h5, e2]
    · show fX4_lift (fX4_place (fX4_addStep σ (z 0)) (z 0) (fX5_cellAhead d)) (z 0) i = σ i
      rw [lift_rows h0 h5, place_rows h0 h5, e2]
  · rw [hit_cl]
    exact e4 _
theorem plN_rows : ∀ (n : Nat) {z : N1} {sp : UInt32} {d : N1} {σ : N2} {i : Nat}, (i = 1 ∨ i = 6 ∨ i = 7 ∨ i = 8) → (plN n z sp d σ).2.2.2 i = σ i := by
  intro n
  induction n with
  | zero => intro z sp d σ i _; rfl
  | succ n ih =>
    intro z sp d σ i hi
    unfold plN
    split
    · rfl
    · split
      · exact (ih hi).trans (plB_rows hi)
      · rfl
theorem play_rows {z : N1} {sp : UInt32} {d : N1} {σ : N2} {bl di sg sn : Int32} {i : Nat} (hi : i = 1 ∨ i = 6 ∨ i = 7 ∨ i = 8) : (fX3_play z sp d σ bl di sg sn).2.2.2 i = σ i := by
  unfold fX3_play
  exact plN_rows _ hi

