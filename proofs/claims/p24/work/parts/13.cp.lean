/-! a row copied up to a place -/
def cpN (f g : N1) (k : Nat) : N1 := fun j => if j < k then f j else g j
theorem cpN_succ (f g : N1) {k : Nat} (h : k < 2 ^ 31) : upd (cpN f g k) (nI k).toNatClampNeg (f (nI k).toNatClampNeg) = cpN f g (k + 1) := by
  rw [nI_clamp h]
  funext j
  unfold upd cpN
  by_cases h1 : j = k
  · subst h1; simp
  · by_cases h2 : j < k
    · rw [if_neg h1, if_pos h2, if_pos (by omega)]
    · rw [if_neg h1, if_neg h2, if_neg (by omega)]
theorem cpN_0 (f g : N1) : cpN f g 0 = g := by funext j; simp [cpN]
