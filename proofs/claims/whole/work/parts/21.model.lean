/-! the reference: what a shot keeps true (printed by wip/whole/gen/p21.py) -/
theorem mdN_J : ∀ (n : Nat) {μ : N2} {sp : UInt32}, JM μ sp → JM (mdN n μ sp).1 (mdN n μ sp).2 := by
  intro n
  induction n with
  | zero => intro μ sp hJ; exact hJ
  | succ n ih =>
    intro μ sp hJ
    unfold mdN
    split
    · rename_i h1
      split
      · exact hJ
      · rename_i h2
        exact ih (mdB_J hJ h1 ((cmp_gV hJ.2.2.1).mp h2)).1
    · exact hJ
theorem shot_J {μ : N2} {sp : UInt32} {bl di sg sn : Int32} (hA : gA (μ 0)) (hTb : gTab μ) (hbl : vp_in bl 12) (hd : vp_in di 6) (hcb : vp_in (μ 0 (13 + bl).toNatClampNeg) 61) (hg : 10 ≤ sg.toInt ∧ sg.toInt ≤ 999) : gA ((fX7_shot μ sp bl di sg sn).2.1 0) ∧ gTab (fX7_shot μ sp bl di sg sn).2.1 := by
  have h := mdN_J 1000000 (JM0 (sn := sn) hA hTb hbl hd hcb hg)
  unfold fX7_shot
  exact ⟨h.1, h.2.1⟩
