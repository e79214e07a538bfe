/-! p24: a whole shot on both felts (wip/p24/p34.lean) -/
/-- what stands of a felt between calls, as far as a shot needs it -/
def gB (f : N1) : Prop := gF f ∧ gP f ∧ (∀ i, i < 3 → gK (f i)) ∧ bnd f 1000000000
theorem cellOf_c {f : N1} {k : Nat} (hk : k < 12) : fX4_cellOfBall (cls f) (nI k) = f (13 + k) := by
  unfold fX4_cellOfBall
  rw [if_neg (isBN hk), nI_c (by omega), cls_0 hk]
theorem plZ_eq {z z' : N1} {bl sn : Int32} (h : ∀ j, 7 ≤ j → z j = z' j) : plZ z bl sn = plZ z' bl sn := by
  funext j
  unfold plZ
  by_cases h7 : 7 ≤ j
  · rw [upd_ne (by omega), upd_ne (by omega), upd_ne (by omega), upd_ne (by omega), upd_ne (by omega), upd_ne (by omega), upd_ne (by omega), upd_ne (by omega), upd_ne (by omega), upd_ne (by omega), upd_ne (by omega), upd_ne (by omega), upd_ne (by omega), upd_ne (by omega), h j h7]
  · have : j = 0 ∨ j = 1 ∨ j = 2 ∨ j = 3 ∨ j = 4 ∨ j = 5 ∨ j = 6 := by omega
    rcases this with rfl | rfl | rfl | rfl | rfl | rfl | rfl <;> simp [upd]
theorem plB_hi {z d : N1} {sp : UInt32} {σ : N2} {j : Nat} (h : 7 ≤ j) : (plB z sp d σ).1 j = z j := by
  unfold plB
  split
  · rw [bank_cl]
    show (upd (upd z 4 (z 4 + 1)) 2 (if z 2 + z 1 < 3 then z 2 + z 1 else z 2 + z 1 - 3)) j = z j
    rw [upd_ne (by omega), upd_ne (by omega)]
  · split
    · rw [step_cl]
      split
      · show (upd z 3 (z 3 + 1)) j = z j
        rw [upd_ne (by omega)]
      · show (upd (upd z 3 (z 3 + 1)) 6 (z 0)) j = z j
        rw [upd_ne (by omega), upd_ne (by omega)]
    · rw [hit_cl]
      show (upd (upd (upd (upd z 5 (z 5 + 1)) 0 _) 1 0) 2 0) j = z j
      rw [upd_ne (by omega), upd_ne (by omega), upd_ne (by omega), upd_ne (by omega)]
theorem plN_hi {j : Nat} (h : 7 ≤ j) : ∀ (m : Nat) (z : N1) (sp : UInt32) (d : N1) (σ : N2), (plN m z sp d σ).1 j = z j := by
  intro m
  induction m with
  | zero => intro z sp d σ; rfl
  | succ m ih =>
    intro z sp d σ
    unfold plN
    split
    · rfl
    · split
      · rw [ih, plB_hi h]
      · rfl
theorem play_hi {z d : N1} {sp : UInt32} {σ : N2} {bl di sg sn : Int32} {j : Nat} (h : 7 ≤ j) : (fX3_play z sp d σ bl di sg sn).1 j = z j := by
  unfold fX3_play
  rw [plN_hi h]
  unfold plZ
  rw [upd_ne (by omega), upd_ne (by omega), upd_ne (by omega), upd_ne (by omega), upd_ne (by omega), upd_ne (by omega), upd_ne (by omega)]
theorem play_rv {f z z' d e : N1} {sp sp' : UInt32} {k w : Nat} {sg sn : Int32} (hF : gF f) (hP : gP f) (hb0 : bnd f 1000000000) (hzz : ∀ j, 7 ≤ j → z j = z' j) (hk : k < 12) (hcb : ¬ f (13 + k) = (-5)) (hw : w < 6) :
    ∃ z1 sp1 d1 e1 f1 n1, n1 ≤ 1000000 ∧ fX3_play z sp d (cls f) (nI k) (nI w) sg sn = (z1, sp1, d1, cls f1) ∧ fX3_play z' sp' e (cls (rt f)) (nI k) (nI (rvN w)) sg sn = (z1, sp1, e1, cls (rt f1)) ∧ QR f n1 z1 d1 e1 f1 := by
  obtain ⟨c, hc, e⟩ := vin_nI ((hF.1.2.1 k hk).resolve_right hcb)
  unfold fX3_play
  rw [← plZ_eq hzz, cellOf_c hk, cellOf_c hk, rt_cell hk, e, rC_c hc]
  refine rv_all hb0 1000000 0 (by omega) ⟨hF, hP, grw_0, k, hk, rfl, ever_lt hF.2.2.1 hk hc e, Or.inl ⟨rfl, fun _ _ => Iff.rfl, c, w, hc, hw, e, DP_start hc⟩⟩
