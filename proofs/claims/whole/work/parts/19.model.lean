/-! the reference: shoot (printed by wip/whole/gen/p19.py) -/
theorem bank_90 {μ : N2} {sp : UInt32} : (fX7_bank μ sp).1 9 0 = μ 9 0 := by
  unfold fX7_bank
  repeat' split
  all_goals simp only [u2_at, u2_row (show ¬ 9 = 0 by decide)]
  all_goals rfl
theorem hit_90 {μ : N2} {sp : UInt32} {ot : Int32} : (fX7_hit μ sp ot).1 9 0 = μ 9 0 := by
  unfold fX7_hit
  simp only [u2_at, u2_row (show ¬ 9 = 0 by decide)]
  rfl
theorem step_90 {μ : N2} {sp : UInt32} {ce : Int32} : (fX7_step μ sp ce).1 9 0 = μ 9 0 := by
  unfold fX7_step
  repeat' split
  all_goals simp only [u2_at, u2_row (show ¬ 9 = 0 by decide)]
  all_goals rfl
theorem mdB_90 {μ : N2} {sp : UInt32} : (mdB μ sp).1 9 0 = μ 9 0 := by
  unfold mdB
  repeat' split
  · exact bank_90
  · exact step_90
  · exact hit_90
theorem mdN_90 : ∀ (n : Nat) {μ : N2} {sp : UInt32}, (mdN n μ sp).1 9 0 = μ 9 0 := by
  intro n
  induction n with
  | zero => intro μ sp; rfl
  | succ n ih =>
    intro μ sp
    unfold mdN
    split
    · split
      · rfl
      · exact ih.trans mdB_90
    · rfl
theorem shot_90 {μ : N2} {sp : UInt32} {bl di sg sn : Int32} : (fX7_shot μ sp bl di sg sn).2.1 9 0 = μ 9 0 := by
  unfold fX7_shot
  refine (mdN_90 1000000 (μ := shI μ bl di sn)).trans ?_
  unfold shI
  simp only [u2_at]
  rfl
