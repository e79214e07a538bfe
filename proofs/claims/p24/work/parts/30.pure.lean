/-! p24: a state of the class as the image of a row of 73 (printed by wip/p24/p30.py) -/
theorem ix_c {c x : Int32} {n : Nat} (hc : 0 ≤ c.toInt) (hx : 0 ≤ x.toInt) (hn : c.toInt + x.toInt < n) (hn2 : n ≤ 1000) : vp_in (c + x) n := by
  rw [vp_in_iff, ti_add (by omega) (by omega)]
  omega
theorem ix_v {c x : Int32} {n m : Nat} (h : vp_in x m) (hc : 0 ≤ c.toInt) (hn : c.toInt + m ≤ n) (hn2 : n ≤ 1000) : vp_in (c + x) n := by
  rw [vp_in_iff] at h
  exact ix_c hc h.1 (by omega) hn2
def boN (f : N1) (ce : Int32) : Nat → Nat → Int32
  | 0, _ => (-5)
  | n + 1, k => if f (13 + nI k).toNatClampNeg = ce then nI k else boN f ce n (k + 1)
theorem u2_row {μ : N2} {a b i : Nat} {v : Int32} (h : ¬ i = a) : u2 μ a b v i = μ i := by
  unfold u2 va_up
  exact if_neg h
theorem u2_at {μ : N2} {a b j : Nat} {v : Int32} : u2 μ a b v a j = if j = b then v else μ a j := by
  unfold u2 va_up upd
  simp only [if_pos]
theorem u2_self {μ : N2} {a b : Nat} {v : Int32} : u2 μ a b v a = upd (μ a) b v := by
  funext j
  rw [u2_at]
  rfl
theorem cl_nat {k : Nat} (h : k < 1000) : (Int32.ofNat k).toNatClampNeg = k := by
  have h2 : (Int32.ofNat k).toInt = (k : Int) := Int32.toInt_ofNat_of_lt (by omega)
  show (Int32.ofNat k).toInt.toNat = k
  rw [h2]
  rfl
theorem vin_cases {x : Int32} {n : Nat} (h : vp_in x n) : ∃ k, k < n ∧ x = Int32.ofNat k := by
  rw [vp_in_iff] at h
  have h3 : x.toInt < 2147483648 := Int32.toInt_lt x
  refine ⟨x.toInt.toNat, by omega, Int32.toInt_inj.mp ?_⟩
  rw [Int32.toInt_ofNat_of_lt (by omega)]
  omega
theorem row_ix : ∀ k : Fin 12, (13 + Int32.ofNat k.val).toNatClampNeg = 13 + k.val ∧ (25 + Int32.ofNat k.val).toNatClampNeg = 25 + k.val ∧ (37 + Int32.ofNat k.val).toNatClampNeg = 37 + k.val ∧ (49 + Int32.ofNat k.val).toNatClampNeg = 49 + k.val ∧ (61 + Int32.ofNat k.val).toNatClampNeg = 61 + k.val := by decide +kernel
def tQ (c : Nat) : Int32 := ([0, 1, 2, 3, 4, -1, 0, 1, 2, 3, 4, -2, -1, 0, 1, 2, 3, 4, -3, -2, -1, 0, 1, 2, 3, 4, -4, -3, -2, -1, 0, 1, 2, 3, 4, -4, -3, -2, -1, 0, 1, 2, 3, -4, -3, -2, -1, 0, 1, 2, -4, -3, -2, -1, 0, 1, -4, -3, -2, -1, 0] : List Int32).getD c 0
def tR (c : Nat) : Int32 := ([-4, -4, -4, -4, -4, -3, -3, -3, -3, -3, -3, -2, -2, -2, -2, -2, -2, -2, -1, -1, -1, -1, -1, -1, -1, -1, 0, 0, 0, 0, 0, 0, 0, 0, 0, 1, 1, 1, 1, 1, 1, 1, 1, 2, 2, 2, 2, 2, 2, 2, 3, 3, 3, 3, 3, 3, 4, 4, 4, 4, 4] : List Int32).getD c 0
def tuD (q r w : Int32) : Int32 := if (fX1_isOut (q + (fX1_stepQ w))) = 0 then (if (fX1_isOut (r + (fX1_stepR w))) = 0 then (fX1_turned (-w) 2) else (if (fX1_isOut ((q + (fX1_stepQ w)) + (r + (fX1_stepR w)))) = 0 then (fX1_turned (-w) 0) else (fX1_turned w 3))) else (if (fX1_isOut (r + (fX1_stepR w))) = 0 then (if (fX1_isOut ((q + (fX1_stepQ w)) + (r + (fX1_stepR w)))) = 0 then (fX1_turned (-w) 4) else (fX1_turned w 3)) else (fX1_turned w 3))
/-- rows of numbers that may be played on -/
def gA (f : N1) : Prop := (0 ≤ (f 12).toInt ∧ (f 12).toInt ≤ 12) ∧ (∀ b : Nat, b < 12 → vp_in (f (13 + b)) 61 ∨ f (13 + b) = (-5)) ∧ True
def ahC (c w : Int32) : Int32 := fX1_cellAt (tQ c.toNatClampNeg + fX1_stepQ w) (tR c.toNatClampNeg + fX1_stepR w)
def tuC (c w : Int32) : Int32 := tuD (tQ c.toNatClampNeg) (tR c.toNatClampNeg) w
def coC (c : Int32) : Int32 := fX1_cornerOf c
def nxC (w : Int32) : Int32 := (w + 1) - (w + 1) / 6 * 6
theorem fin_ah : ∀ c : Fin 61, ∀ w : Fin 6, ahC (.ofNat c.val) (.ofNat w.val) = (-5) ∨ ¬ (ahC (.ofNat c.val) (.ofNat w.val) < 0 ∨ 61 ≤ (ahC (.ofNat c.val) (.ofNat w.val)).toNatClampNeg) := by decide +kernel
theorem fin_tu : ∀ c : Fin 61, ∀ w : Fin 6, ahC (.ofNat c.val) (.ofNat w.val) = (-5) → (¬ (tuC (.ofNat c.val) (.ofNat w.val) < 0 ∨ 6 ≤ (tuC (.ofNat c.val) (.ofNat w.val)).toNatClampNeg)) ∧ ¬ ahC (.ofNat c.val) (tuC (.ofNat c.val) (.ofNat w.val)) = (-5) := by decide +kernel
theorem fin_nx : ∀ w : Fin 6, ¬ (nxC (.ofNat w.val) < 0 ∨ 6 ≤ (nxC (.ofNat w.val)).toNatClampNeg) := by decide +kernel
theorem gA_upd {f : N1} {j : Nat} {x : Int32} (hA : gA f) (hj : 25 ≤ j) : gA (upd f j x) := by
  have hne : ∀ i, i < 25 → upd f j x i = f i := by
    intro i hi
    unfold upd
    exact if_neg (by omega)
  unfold gA
  rw [hne 12 (by decide)]
  refine ⟨hA.1, fun b hb => ?_, trivial⟩
  rw [hne (13 + b) (by omega)]
  exact hA.2.1 b hb
theorem gA_cell {f : N1} {b : Nat} {x : Int32} (hA : gA f) (hx : vp_in x 61 ∨ x = (-5)) : gA (upd f (13 + b) x) := by
  have hne : ∀ i, i < 13 → upd f (13 + b) x i = f i := by
    intro i hi
    unfold upd
    exact if_neg (by omega)
  unfold gA
  rw [hne 12 (by decide)]
  refine ⟨hA.1, fun c hc => ?_, trivial⟩
  unfold upd
  split
  · exact hx
  · exact hA.2.1 c hc
theorem upd_at {f : N1} {j : Nat} {x : Int32} : upd f j x j = x := by simp [upd]
theorem upd_ne {f : N1} {i j : Nat} {x : Int32} (h : ¬ i = j) : upd f j x i = f i := by simp [upd, h]
theorem nI_c {k : Nat} (h : k < 1000) : (nI k).toNatClampNeg = k := nI_clamp (by omega)
theorem ix13 {k : Nat} (h : k < 12) : (13 + nI k).toNatClampNeg = 13 + k := (row_ix ⟨k, h⟩).1
theorem ix25 {k : Nat} (h : k < 12) : (25 + nI k).toNatClampNeg = 25 + k := (row_ix ⟨k, h⟩).2.1
theorem nI_inj {a b : Nat} (ha : a < 1000) (hb : b < 1000) (h : nI a = nI b) : a = b := by
  have := congrArg Int32.toNatClampNeg h
  rw [nI_c ha, nI_c hb] at this
  exact this
theorem nI_no {c : Nat} (h : c < 1000) : ¬ nI c = (-5) := by
  intro q
  have h1 : (nI c).toInt = (c : Int) := Int32.toInt_ofNat_of_lt (show c < 2147483648 by omega)
  rw [q] at h1
  have h2 : ((-5) : Int32).toInt = -5 := rfl
  omega
theorem vin_nI {x : Int32} {n : Nat} (h : vp_in x n) : ∃ k, k < n ∧ x = nI k := vin_cases h
def bo (f : N1) (c : Nat) : Int32 := boN f (nI c) 12 0
/-- the class's state of a row -/
def cls (f : N1) : N2 := fun i j =>
  if i = 0 then (if j < 12 then f (13 + j) else (-5))
  else if i = 1 then (if j < 12 then f (25 + j) else 0)
  else if i = 2 then (if j < 12 then f (37 + j) else 0)
  else if i = 3 then (if j < 12 then f (49 + j) else 0)
  else if i = 4 then (if j < 12 then f (61 + j) else 0)
  else if i = 5 then (if j < 61 then bo f j else (-5))
  else if i = 6 then (if j < 3 then f j else 0)
  else if i = 7 then (if j < 2 then f (6 + j) else 0)
  else if i = 8 then (if j = 0 then f 12 else if j = 1 then f 3 else if j = 2 then f 4 else if j = 3 then f 5 else if j = 4 then f 8 else if j = 5 then f 9 else 0)
  else 0
theorem cls_0 {f : N1} {j : Nat} (h : j < 12) : cls f 0 j = f (13 + j) := by simp [cls, h]
theorem cls_1 {f : N1} {j : Nat} (h : j < 12) : cls f 1 j = f (25 + j) := by simp [cls, h]
theorem cls_2 {f : N1} {j : Nat} (h : j < 12) : cls f 2 j = f (37 + j) := by simp [cls, h]
theorem cls_3 {f : N1} {j : Nat} (h : j < 12) : cls f 3 j = f (49 + j) := by simp [cls, h]
theorem cls_4 {f : N1} {j : Nat} (h : j < 12) : cls f 4 j = f (61 + j) := by simp [cls, h]
theorem cls_5 {f : N1} {j : Nat} (h : j < 61) : cls f 5 j = bo f j := by simp [cls, h]
theorem cls_6 {f : N1} {j : Nat} (h : j < 3) : cls f 6 j = f j := by simp [cls, h]
theorem cls_7 {f : N1} {j : Nat} (h : j < 2) : cls f 7 j = f (6 + j) := by simp [cls, h]
theorem cls_80 {f : N1} : cls f 8 0 = f 12 := by simp [cls]
theorem cls_81 {f : N1} : cls f 8 1 = f 3 := by simp [cls]
theorem cls_82 {f : N1} : cls f 8 2 = f 4 := by simp [cls]
theorem cls_83 {f : N1} : cls f 8 3 = f 5 := by simp [cls]
theorem cls_84 {f : N1} : cls f 8 4 = f 8 := by simp [cls]
theorem cls_85 {f : N1} : cls f 8 5 = f 9 := by simp [cls]
theorem boN_spec (f : N1) (ce : Int32) : ∀ (n k : Nat), k + n ≤ 12 → (boN f ce n k = (-5) ∧ ∀ j, k ≤ j → j < k + n → ¬ f (13 + j) = ce) ∨ ∃ j, k ≤ j ∧ j < k + n ∧ boN f ce n k = nI j ∧ f (13 + j) = ce := by
  intro n
  induction n with
  | zero => intro k hk; exact Or.inl ⟨rfl, fun j h1 h2 => by omega⟩
  | succ n ih =>
    intro k hk
    unfold boN
    rw [ix13 (show k < 12 by omega)]
    by_cases h : f (13 + k) = ce
    · rw [if_pos h]
      exact Or.inr ⟨k, Nat.le_refl _, by omega, rfl, h⟩
    · rw [if_neg h]
      rcases ih (k + 1) (by omega) with ⟨h1, h2⟩ | ⟨j, h1, h2, h3, h4⟩
      · refine Or.inl ⟨h1, fun j h3 h4 => ?_⟩
        by_cases hj : j = k
        · rw [hj]; exact h
        · exact h2 j (by omega) (by omega)
      · exact Or.inr ⟨j, by omega, by omega, h3, h4⟩
theorem boN_congr {f g : N1} {ce : Int32} : ∀ (n k : Nat), k + n ≤ 12 → (∀ b, b < 12 → f (13 + b) = g (13 + b)) → boN f ce n k = boN g ce n k := by
  intro n
  induction n with
  | zero => intro k hk h; rfl
  | succ n ih =>
    intro k hk h
    unfold boN
    rw [ix13 (show k < 12 by omega), h k (by omega), ih (k + 1) (by omega) h]
theorem bo_congr {f g : N1} {c : Nat} (h : ∀ b, b < 12 → f (13 + b) = g (13 + b)) : bo f c = bo g c := boN_congr 12 0 (by omega) h
theorem bo_spec (f : N1) (c : Nat) : (bo f c = (-5) ∧ ∀ j, j < 12 → ¬ f (13 + j) = nI c) ∨ ∃ j, j < 12 ∧ bo f c = nI j ∧ f (13 + j) = nI c := by
  rcases boN_spec f (nI c) 12 0 (by omega) with ⟨h1, h2⟩ | ⟨j, h1, h2, h3, h4⟩
  · exact Or.inl ⟨h1, fun j hj => h2 j (by omega) (by omega)⟩
  · exact Or.inr ⟨j, by omega, h3, h4⟩
/-- no two balls on a cell; balls still to come are away; whose turn -/
def gD (f : N1) : Prop := ∀ a b, a < 12 → b < 12 → f (13 + a) = f (13 + b) → f (13 + a) = (-5) ∨ a = b
def gR (f : N1) : Prop := ∀ b : Nat, b < 12 → (f 12).toInt ≤ (b : Int) → f (13 + b) = (-5)
def gU (f : N1) : Prop := f 4 = 0 ∨ f 4 = 1
def gF (f : N1) : Prop := gA f ∧ gD f ∧ gR f ∧ gU f
theorem bo_one {f : N1} {c k : Nat} (hD : gD f) (hc : c < 61) (hk : k < 12) (h : f (13 + k) = nI c) : bo f c = nI k := by
  rcases bo_spec f c with ⟨h1, h2⟩ | ⟨j, h1, h2, h3⟩
  · exact absurd h (h2 k hk)
  · rcases hD j k h1 hk (h3.trans h.symm) with h4 | h4
    · exact absurd (h3.symm.trans h4) (nI_no (by omega))
    · rw [h2, h4]
theorem bo_non {f : N1} {c : Nat} (h : ∀ j, j < 12 → ¬ f (13 + j) = nI c) : bo f c = (-5) := by
  rcases bo_spec f c with ⟨h1, -⟩ | ⟨j, h1, -, h3⟩
  · exact h1
  · exact absurd h3 (h j h1)
theorem cls_r0 {f g : N1} (h : ∀ b, b < 12 → f (13 + b) = g (13 + b)) : cls f 0 = cls g 0 := by
  funext j
  by_cases hj : j < 12
  · rw [cls_0 hj, cls_0 hj, h j hj]
  · simp [cls, hj]
theorem cls_r1 {f g : N1} (h : ∀ b, b < 12 → f (25 + b) = g (25 + b)) : cls f 1 = cls g 1 := by
  funext j
  by_cases hj : j < 12
  · rw [cls_1 hj, cls_1 hj, h j hj]
  · simp [cls, hj]
theorem cls_r2 {f g : N1} (h : ∀ b, b < 12 → f (37 + b) = g (37 + b)) : cls f 2 = cls g 2 := by
  funext j
  by_cases hj : j < 12
  · rw [cls_2 hj, cls_2 hj, h j hj]
  · simp [cls, hj]
theorem cls_r3 {f g : N1} (h : ∀ b, b < 12 → f (49 + b) = g (49 + b)) : cls f 3 = cls g 3 := by
  funext j
  by_cases hj : j < 12
  · rw [cls_3 hj, cls_3 hj, h j hj]
  · simp [cls, hj]
theorem cls_r4 {f g : N1} (h : ∀ b, b < 12 → f (61 + b) = g (61 + b)) : cls f 4 = cls g 4 := by
  funext j
  by_cases hj : j < 12
  · rw [cls_4 hj, cls_4 hj, h j hj]
  · simp [cls, hj]
theorem cls_r5 {f g : N1} (h : ∀ b, b < 12 → f (13 + b) = g (13 + b)) : cls f 5 = cls g 5 := by
  funext j
  by_cases hj : j < 61
  · rw [cls_5 hj, cls_5 hj, bo_congr h]
  · simp [cls, hj]
theorem cls_r6 {f g : N1} (h : ∀ b, b < 3 → f b = g b) : cls f 6 = cls g 6 := by
  funext j
  by_cases hj : j < 3
  · rw [cls_6 hj, cls_6 hj, h j hj]
  · simp [cls, hj]
theorem cls_r7 {f g : N1} (h : ∀ b, b < 2 → f (6 + b) = g (6 + b)) : cls f 7 = cls g 7 := by
  funext j
  by_cases hj : j < 2
  · rw [cls_7 hj, cls_7 hj, h j hj]
  · simp [cls, hj]
theorem cls_r8 {f g : N1} (h : f 12 = g 12 ∧ f 3 = g 3 ∧ f 4 = g 4 ∧ f 5 = g 5 ∧ f 8 = g 8 ∧ f 9 = g 9) : cls f 8 = cls g 8 := by
  obtain ⟨h1, h2, h3, h4, h5, h6⟩ := h
  funext j
  simp [cls, h1, h2, h3, h4, h5, h6]
theorem cls_hi {f : N1} {i : Nat} (h : 9 ≤ i) : cls f i = fun _ => 0 := by
  funext j
  simp [cls, show ¬ i = 0 by omega, show ¬ i = 1 by omega, show ¬ i = 2 by omega, show ¬ i = 3 by omega, show ¬ i = 4 by omega, show ¬ i = 5 by omega, show ¬ i = 6 by omega, show ¬ i = 7 by omega, show ¬ i = 8 by omega]
theorem cls_rows {σ : N2} {g : N1} (h0 : σ 0 = cls g 0) (h1 : σ 1 = cls g 1) (h2 : σ 2 = cls g 2) (h3 : σ 3 = cls g 3) (h4 : σ 4 = cls g 4) (h5 : σ 5 = cls g 5) (h6 : σ 6 = cls g 6) (h7 : σ 7 = cls g 7) (h8 : σ 8 = cls g 8) (h9 : ∀ i, 9 ≤ i → σ i = fun _ => 0) : σ = cls g := by
  funext i
  match i with
  | 0 => exact h0
  | 1 => exact h1
  | 2 => exact h2
  | 3 => exact h3
  | 4 => exact h4
  | 5 => exact h5
  | 6 => exact h6
  | 7 => exact h7
  | 8 => exact h8
  | i + 9 => rw [h9 (i + 9) (by omega), cls_hi (by omega)]
theorem cls_same {f g : N1} (h : ∀ j, j < 73 → f j = g j) : cls f = cls g :=
  cls_rows (cls_r0 fun b hb => h _ (by omega)) (cls_r1 fun b hb => h _ (by omega)) (cls_r2 fun b hb => h _ (by omega)) (cls_r3 fun b hb => h _ (by omega)) (cls_r4 fun b hb => h _ (by omega)) (cls_r5 fun b hb => h _ (by omega)) (cls_r6 fun b hb => h _ (by omega)) (cls_r7 fun b hb => h _ (by omega)) (cls_r8 ⟨h _ (by omega), h _ (by omega), h _ (by omega), h _ (by omega), h _ (by omega), h _ (by omega)⟩) (fun i hi => cls_hi hi)
theorem cls_u1 {f : N1} {k : Nat} {x : Int32} (hk : k < 12) : u2 (cls f) 1 k x = cls (upd f (25 + k) x) :=
  cls_rows (by rw [u2_row (by decide)]; exact cls_r0 fun b hb => (upd_ne (by omega)).symm) (by
    funext j
    rw [u2_at]
    by_cases hj : j = k
    · rw [if_pos hj, hj, cls_1 hk, upd_at]
    · rw [if_neg hj]
      by_cases h2 : j < 12
      · rw [cls_1 h2, cls_1 h2, upd_ne (by omega)]
      · simp [cls, h2]) (by rw [u2_row (by decide)]; exact cls_r2 fun b hb => (upd_ne (by omega)).symm) (by rw [u2_row (by decide)]; exact cls_r3 fun b hb => (upd_ne (by omega)).symm) (by rw [u2_row (by decide)]; exact cls_r4 fun b hb => (upd_ne (by omega)).symm) (by rw [u2_row (by decide)]; exact cls_r5 fun b hb => (upd_ne (by omega)).symm) (by rw [u2_row (by decide)]; exact cls_r6 fun b hb => (upd_ne (by omega)).symm) (by rw [u2_row (by decide)]; exact cls_r7 fun b hb => (upd_ne (by omega)).symm) (by rw [u2_row (by decide)]; exact cls_r8 ⟨(upd_ne (by omega)).symm, (upd_ne (by omega)).symm, (upd_ne (by omega)).symm, (upd_ne (by omega)).symm, (upd_ne (by omega)).symm, (upd_ne (by omega)).symm⟩) (fun i hi => by rw [u2_row (by omega)]; exact cls_hi hi)
theorem cls_u2 {f : N1} {k : Nat} {x : Int32} (hk : k < 12) : u2 (cls f) 2 k x = cls (upd f (37 + k) x) :=
  cls_rows (by rw [u2_row (by decide)]; exact cls_r0 fun b hb => (upd_ne (by omega)).symm) (by rw [u2_row (by decide)]; exact cls_r1 fun b hb => (upd_ne (by omega)).symm) (by
    funext j
    rw [u2_at]
    by_cases hj : j = k
    · rw [if_pos hj, hj, cls_2 hk, upd_at]
    · rw [if_neg hj]
      by_cases h2 : j < 12
      · rw [cls_2 h2, cls_2 h2, upd_ne (by omega)]
      · simp [cls, h2]) (by rw [u2_row (by decide)]; exact cls_r3 fun b hb => (upd_ne (by omega)).symm) (by rw [u2_row (by decide)]; exact cls_r4 fun b hb => (upd_ne (by omega)).symm) (by rw [u2_row (by decide)]; exact cls_r5 fun b hb => (upd_ne (by omega)).symm) (by rw [u2_row (by decide)]; exact cls_r6 fun b hb => (upd_ne (by omega)).symm) (by rw [u2_row (by decide)]; exact cls_r7 fun b hb => (upd_ne (by omega)).symm) (by rw [u2_row (by decide)]; exact cls_r8 ⟨(upd_ne (by omega)).symm, (upd_ne (by omega)).symm, (upd_ne (by omega)).symm, (upd_ne (by omega)).symm, (upd_ne (by omega)).symm, (upd_ne (by omega)).symm⟩) (fun i hi => by rw [u2_row (by omega)]; exact cls_hi hi)
theorem cls_u3 {f : N1} {k : Nat} {x : Int32} (hk : k < 12) : u2 (cls f) 3 k x = cls (upd f (49 + k) x) :=
  cls_rows (by rw [u2_row (by decide)]; exact cls_r0 fun b hb => (upd_ne (by omega)).symm) (by rw [u2_row (by decide)]; exact cls_r1 fun b hb => (upd_ne (by omega)).symm) (by rw [u2_row (by decide)]; exact cls_r2 fun b hb => (upd_ne (by omega)).symm) (by
    funext j
    rw [u2_at]
    by_cases hj : j = k
    · rw [if_pos hj, hj, cls_3 hk, upd_at]
    · rw [if_neg hj]
      by_cases h2 : j < 12
      · rw [cls_3 h2, cls_3 h2, upd_ne (by omega)]
      · simp [cls, h2]) (by rw [u2_row (by decide)]; exact cls_r4 fun b hb => (upd_ne (by omega)).symm) (by rw [u2_row (by decide)]; exact cls_r5 fun b hb => (upd_ne (by omega)).symm) (by rw [u2_row (by decide)]; exact cls_r6 fun b hb => (upd_ne (by omega)).symm) (by rw [u2_row (by decide)]; exact cls_r7 fun b hb => (upd_ne (by omega)).symm) (by rw [u2_row (by decide)]; exact cls_r8 ⟨(upd_ne (by omega)).symm, (upd_ne (by omega)).symm, (upd_ne (by omega)).symm, (upd_ne (by omega)).symm, (upd_ne (by omega)).symm, (upd_ne (by omega)).symm⟩) (fun i hi => by rw [u2_row (by omega)]; exact cls_hi hi)
theorem cls_u4 {f : N1} {k : Nat} {x : Int32} (hk : k < 12) : u2 (cls f) 4 k x = cls (upd f (61 + k) x) :=
  cls_rows (by rw [u2_row (by decide)]; exact cls_r0 fun b hb => (upd_ne (by omega)).symm) (by rw [u2_row (by decide)]; exact cls_r1 fun b hb => (upd_ne (by omega)).symm) (by rw [u2_row (by decide)]; exact cls_r2 fun b hb => (upd_ne (by omega)).symm) (by rw [u2_row (by decide)]; exact cls_r3 fun b hb => (upd_ne (by omega)).symm) (by
    funext j
    rw [u2_at]
    by_cases hj : j = k
    · rw [if_pos hj, hj, cls_4 hk, upd_at]
    · rw [if_neg hj]
      by_cases h2 : j < 12
      · rw [cls_4 h2, cls_4 h2, upd_ne (by omega)]
      · simp [cls, h2]) (by rw [u2_row (by decide)]; exact cls_r5 fun b hb => (upd_ne (by omega)).symm) (by rw [u2_row (by decide)]; exact cls_r6 fun b hb => (upd_ne (by omega)).symm) (by rw [u2_row (by decide)]; exact cls_r7 fun b hb => (upd_ne (by omega)).symm) (by rw [u2_row (by decide)]; exact cls_r8 ⟨(upd_ne (by omega)).symm, (upd_ne (by omega)).symm, (upd_ne (by omega)).symm, (upd_ne (by omega)).symm, (upd_ne (by omega)).symm, (upd_ne (by omega)).symm⟩) (fun i hi => by rw [u2_row (by omega)]; exact cls_hi hi)
theorem cls_u6 {f : N1} {k : Nat} {x : Int32} (hk : k < 3) : u2 (cls f) 6 k x = cls (upd f k x) :=
  cls_rows (by rw [u2_row (by decide)]; exact cls_r0 fun b hb => (upd_ne (by omega)).symm) (by rw [u2_row (by decide)]; exact cls_r1 fun b hb => (upd_ne (by omega)).symm) (by rw [u2_row (by decide)]; exact cls_r2 fun b hb => (upd_ne (by omega)).symm) (by rw [u2_row (by decide)]; exact cls_r3 fun b hb => (upd_ne (by omega)).symm) (by rw [u2_row (by decide)]; exact cls_r4 fun b hb => (upd_ne (by omega)).symm) (by rw [u2_row (by decide)]; exact cls_r5 fun b hb => (upd_ne (by omega)).symm) (by
    funext j
    rw [u2_at]
    by_cases hj : j = k
    · rw [if_pos hj, hj, cls_6 hk, upd_at]
    · rw [if_neg hj]
      by_cases h2 : j < 3
      · rw [cls_6 h2, cls_6 h2, upd_ne (by omega)]
      · simp [cls, h2]) (by rw [u2_row (by decide)]; exact cls_r7 fun b hb => (upd_ne (by omega)).symm) (by rw [u2_row (by decide)]; exact cls_r8 ⟨(upd_ne (by omega)).symm, (upd_ne (by omega)).symm, (upd_ne (by omega)).symm, (upd_ne (by omega)).symm, (upd_ne (by omega)).symm, (upd_ne (by omega)).symm⟩) (fun i hi => by rw [u2_row (by omega)]; exact cls_hi hi)
theorem cls_u7 {f : N1} {k : Nat} {x : Int32} (hk : k < 2) : u2 (cls f) 7 k x = cls (upd f (6 + k) x) :=
  cls_rows (by rw [u2_row (by decide)]; exact cls_r0 fun b hb => (upd_ne (by omega)).symm) (by rw [u2_row (by decide)]; exact cls_r1 fun b hb => (upd_ne (by omega)).symm) (by rw [u2_row (by decide)]; exact cls_r2 fun b hb => (upd_ne (by omega)).symm) (by rw [u2_row (by decide)]; exact cls_r3 fun b hb => (upd_ne (by omega)).symm) (by rw [u2_row (by decide)]; exact cls_r4 fun b hb => (upd_ne (by omega)).symm) (by rw [u2_row (by decide)]; exact cls_r5 fun b hb => (upd_ne (by omega)).symm) (by rw [u2_row (by decide)]; exact cls_r6 fun b hb => (upd_ne (by omega)).symm) (by
    funext j
    rw [u2_at]
    by_cases hj : j = k
    · rw [if_pos hj, hj, cls_7 hk, upd_at]
    · rw [if_neg hj]
      by_cases h2 : j < 2
      · rw [cls_7 h2, cls_7 h2, upd_ne (by omega)]
      · simp [cls, h2]) (by rw [u2_row (by decide)]; exact cls_r8 ⟨(upd_ne (by omega)).symm, (upd_ne (by omega)).symm, (upd_ne (by omega)).symm, (upd_ne (by omega)).symm, (upd_ne (by omega)).symm, (upd_ne (by omega)).symm⟩) (fun i hi => by rw [u2_row (by omega)]; exact cls_hi hi)
theorem cls_u80 {f : N1} {x : Int32} : u2 (cls f) 8 0 x = cls (upd f 12 x) :=
  cls_rows (by rw [u2_row (by decide)]; exact cls_r0 fun b hb => (upd_ne (by omega)).symm) (by rw [u2_row (by decide)]; exact cls_r1 fun b hb => (upd_ne (by omega)).symm) (by rw [u2_row (by decide)]; exact cls_r2 fun b hb => (upd_ne (by omega)).symm) (by rw [u2_row (by decide)]; exact cls_r3 fun b hb => (upd_ne (by omega)).symm) (by rw [u2_row (by decide)]; exact cls_r4 fun b hb => (upd_ne (by omega)).symm) (by rw [u2_row (by decide)]; exact cls_r5 fun b hb => (upd_ne (by omega)).symm) (by rw [u2_row (by decide)]; exact cls_r6 fun b hb => (upd_ne (by omega)).symm) (by rw [u2_row (by decide)]; exact cls_r7 fun b hb => (upd_ne (by omega)).symm) (by
    funext j
    rw [u2_at]
    by_cases hj : j = 0
    · rw [if_pos hj, hj, cls_80, upd_at]
    · rw [if_neg hj]
      simp [cls, upd, hj]) (fun i hi => by rw [u2_row (by omega)]; exact cls_hi hi)
theorem cls_u81 {f : N1} {x : Int32} : u2 (cls f) 8 1 x = cls (upd f 3 x) :=
  cls_rows (by rw [u2_row (by decide)]; exact cls_r0 fun b hb => (upd_ne (by omega)).symm) (by rw [u2_row (by decide)]; exact cls_r1 fun b hb => (upd_ne (by omega)).symm) (by rw [u2_row (by decide)]; exact cls_r2 fun b hb => (upd_ne (by omega)).symm) (by rw [u2_row (by decide)]; exact cls_r3 fun b hb => (upd_ne (by omega)).symm) (by rw [u2_row (by decide)]; exact cls_r4 fun b hb => (upd_ne (by omega)).symm) (by rw [u2_row (by decide)]; exact cls_r5 fun b hb => (upd_ne (by omega)).symm) (by rw [u2_row (by decide)]; exact cls_r6 fun b hb => (upd_ne (by omega)).symm) (by rw [u2_row (by decide)]; exact cls_r7 fun b hb => (upd_ne (by omega)).symm) (by
    funext j
    rw [u2_at]
    by_cases hj : j = 1
    · rw [if_pos hj, hj, cls_81, upd_at]
    · rw [if_neg hj]
      simp [cls, upd, hj]) (fun i hi => by rw [u2_row (by omega)]; exact cls_hi hi)
theorem cls_u82 {f : N1} {x : Int32} : u2 (cls f) 8 2 x = cls (upd f 4 x) :=
  cls_rows (by rw [u2_row (by decide)]; exact cls_r0 fun b hb => (upd_ne (by omega)).symm) (by rw [u2_row (by decide)]; exact cls_r1 fun b hb => (upd_ne (by omega)).symm) (by rw [u2_row (by decide)]; exact cls_r2 fun b hb => (upd_ne (by omega)).symm) (by rw [u2_row (by decide)]; exact cls_r3 fun b hb => (upd_ne (by omega)).symm) (by rw [u2_row (by decide)]; exact cls_r4 fun b hb => (upd_ne (by omega)).symm) (by rw [u2_row (by decide)]; exact cls_r5 fun b hb => (upd_ne (by omega)).symm) (by rw [u2_row (by decide)]; exact cls_r6 fun b hb => (upd_ne (by omega)).symm) (by rw [u2_row (by decide)]; exact cls_r7 fun b hb => (upd_ne (by omega)).symm) (by
    funext j
    rw [u2_at]
    by_cases hj : j = 2
    · rw [if_pos hj, hj, cls_82, upd_at]
    · rw [if_neg hj]
      simp [cls, upd, hj]) (fun i hi => by rw [u2_row (by omega)]; exact cls_hi hi)
theorem cls_u83 {f : N1} {x : Int32} : u2 (cls f) 8 3 x = cls (upd f 5 x) :=
  cls_rows (by rw [u2_row (by decide)]; exact cls_r0 fun b hb => (upd_ne (by omega)).symm) (by rw [u2_row (by decide)]; exact cls_r1 fun b hb => (upd_ne (by omega)).symm) (by rw [u2_row (by decide)]; exact cls_r2 fun b hb => (upd_ne (by omega)).symm) (by rw [u2_row (by decide)]; exact cls_r3 fun b hb => (upd_ne (by omega)).symm) (by rw [u2_row (by decide)]; exact cls_r4 fun b hb => (upd_ne (by omega)).symm) (by rw [u2_row (by decide)]; exact cls_r5 fun b hb => (upd_ne (by omega)).symm) (by rw [u2_row (by decide)]; exact cls_r6 fun b hb => (upd_ne (by omega)).symm) (by rw [u2_row (by decide)]; exact cls_r7 fun b hb => (upd_ne (by omega)).symm) (by
    funext j
    rw [u2_at]
    by_cases hj : j = 3
    · rw [if_pos hj, hj, cls_83, upd_at]
    · rw [if_neg hj]
      simp [cls, upd, hj]) (fun i hi => by rw [u2_row (by omega)]; exact cls_hi hi)
theorem cls_u84 {f : N1} {x : Int32} : u2 (cls f) 8 4 x = cls (upd f 8 x) :=
  cls_rows (by rw [u2_row (by decide)]; exact cls_r0 fun b hb => (upd_ne (by omega)).symm) (by rw [u2_row (by decide)]; exact cls_r1 fun b hb => (upd_ne (by omega)).symm) (by rw [u2_row (by decide)]; exact cls_r2 fun b hb => (upd_ne (by omega)).symm) (by rw [u2_row (by decide)]; exact cls_r3 fun b hb => (upd_ne (by omega)).symm) (by rw [u2_row (by decide)]; exact cls_r4 fun b hb => (upd_ne (by omega)).symm) (by rw [u2_row (by decide)]; exact cls_r5 fun b hb => (upd_ne (by omega)).symm) (by rw [u2_row (by decide)]; exact cls_r6 fun b hb => (upd_ne (by omega)).symm) (by rw [u2_row (by decide)]; exact cls_r7 fun b hb => (upd_ne (by omega)).symm) (by
    funext j
    rw [u2_at]
    by_cases hj : j = 4
    · rw [if_pos hj, hj, cls_84, upd_at]
    · rw [if_neg hj]
      simp [cls, upd, hj]) (fun i hi => by rw [u2_row (by omega)]; exact cls_hi hi)
theorem cls_u85 {f : N1} {x : Int32} : u2 (cls f) 8 5 x = cls (upd f 9 x) :=
  cls_rows (by rw [u2_row (by decide)]; exact cls_r0 fun b hb => (upd_ne (by omega)).symm) (by rw [u2_row (by decide)]; exact cls_r1 fun b hb => (upd_ne (by omega)).symm) (by rw [u2_row (by decide)]; exact cls_r2 fun b hb => (upd_ne (by omega)).symm) (by rw [u2_row (by decide)]; exact cls_r3 fun b hb => (upd_ne (by omega)).symm) (by rw [u2_row (by decide)]; exact cls_r4 fun b hb => (upd_ne (by omega)).symm) (by rw [u2_row (by decide)]; exact cls_r5 fun b hb => (upd_ne (by omega)).symm) (by rw [u2_row (by decide)]; exact cls_r6 fun b hb => (upd_ne (by omega)).symm) (by rw [u2_row (by decide)]; exact cls_r7 fun b hb => (upd_ne (by omega)).symm) (by
    funext j
    rw [u2_at]
    by_cases hj : j = 5
    · rw [if_pos hj, hj, cls_85, upd_at]
    · rw [if_neg hj]
      simp [cls, upd, hj]) (fun i hi => by rw [u2_row (by omega)]; exact cls_hi hi)
/-- numbers that the class doesn't keep -/
theorem cls_tot {f : N1} {k : Nat} {x : Int32} (hk : k = 10 ∨ k = 11) : cls f = cls (upd f k x) :=
  cls_rows (cls_r0 fun b hb => (upd_ne (by omega)).symm) (cls_r1 fun b hb => (upd_ne (by omega)).symm) (cls_r2 fun b hb => (upd_ne (by omega)).symm) (cls_r3 fun b hb => (upd_ne (by omega)).symm) (cls_r4 fun b hb => (upd_ne (by omega)).symm) (cls_r5 fun b hb => (upd_ne (by omega)).symm) (cls_r6 fun b hb => (upd_ne (by omega)).symm) (cls_r7 fun b hb => (upd_ne (by omega)).symm) (cls_r8 ⟨(upd_ne (by omega)).symm, (upd_ne (by omega)).symm, (upd_ne (by omega)).symm, (upd_ne (by omega)).symm, (upd_ne (by omega)).symm, (upd_ne (by omega)).symm⟩) (fun i hi => cls_hi hi)
/-! a ball goes away, comes, moves -/
theorem isBN {k : Nat} (h : k < 12) : ¬ fX4_isBallNumber (nI k) = 0 := by
  have h2 : ∀ k : Fin 12, ¬ fX4_isBallNumber (nI k.val) = 0 := by decide +kernel
  exact h2 ⟨k, h⟩
theorem isCe {c : Nat} (h : c < 61) : ¬ fX1_isCell (nI c) = 0 := by
  have h2 : ∀ c : Fin 61, ¬ fX1_isCell (nI c.val) = 0 := by decide +kernel
  exact h2 ⟨c, h⟩
theorem isC5 : fX1_isCell (-5) = 0 := rfl
theorem lift_5 {f : N1} {k : Nat} (hk : k < 12) (h : f (13 + k) = (-5)) : fX4_lift (cls f) (nI k) = cls f := by
  unfold fX4_lift
  rw [if_neg (isBN hk), nI_c (by omega), cls_0 hk, h, if_pos isC5]
theorem upd_self {f : N1} {j : Nat} {x : Int32} (h : f j = x) : upd f j x = f := by
  funext i
  by_cases hi : i = j
  · rw [hi, upd_at, h]
  · rw [upd_ne hi]
theorem upd_twice {f : N1} {j : Nat} {x y : Int32} : upd (upd f j x) j y = upd f j y := by
  funext i
  by_cases hi : i = j
  · rw [hi, upd_at, upd_at]
  · rw [upd_ne hi, upd_ne hi, upd_ne hi]
/-- one ball's cell: what the search finds -/
theorem bo_upd {f : N1} {k c : Nat} {x : Int32} (hD : gD f) (hD2 : gD (upd f (13 + k) x)) (hk : k < 12) (hc : c < 61) : bo (upd f (13 + k) x) c = if x = nI c then nI k else if f (13 + k) = nI c then (-5) else bo f c := by
  by_cases h1 : x = nI c
  · rw [if_pos h1]
    exact bo_one hD2 hc hk (by rw [upd_at]; exact h1)
  · rw [if_neg h1]
    by_cases h2 : f (13 + k) = nI c
    · rw [if_pos h2]
      refine bo_non (fun j hj => ?_)
      by_cases hjk : j = k
      · rw [hjk, upd_at]; exact h1
      · rw [upd_ne (by omega)]
        intro h3
        rcases hD j k hj hk (h3.trans h2.symm) with h4 | h4
        · exact nI_no (show c < 1000 by omega) (h3.symm.trans h4)
        · exact hjk h4
    · rw [if_neg h2]
      rcases bo_spec f c with ⟨h3, h4⟩ | ⟨j, h3, h4, h5⟩
      · rw [h3]
        refine bo_non (fun j hj => ?_)
        by_cases hjk : j = k
        · rw [hjk, upd_at]; exact h1
        · rw [upd_ne (by omega)]; exact h4 j hj
      · rw [h4]
        have hjk : ¬ j = k := fun q => h2 (q ▸ h5)
        exact bo_one hD2 hc h3 (by rw [upd_ne (by omega)]; exact h5)
theorem gD_away {f : N1} {k : Nat} (hD : gD f) (hk : k < 12) : gD (upd f (13 + k) (-5)) := by
  intro a b ha hb h
  by_cases h1 : a = k
  · exact Or.inl (by rw [h1, upd_at])
  · by_cases h2 : b = k
    · rw [h2, upd_at] at h
      exact Or.inl h
    · rw [upd_ne (by omega), upd_ne (by omega)] at h
      rw [upd_ne (by omega)]
      exact hD a b ha hb h
theorem gD_put {f : N1} {k c : Nat} (hD : gD f) (hk : k < 12) (h : ∀ j, j < 12 → ¬ f (13 + j) = nI c) : gD (upd f (13 + k) (nI c)) := by
  intro a b ha hb h3
  by_cases h1 : a = k
  · by_cases h2 : b = k
    · exact Or.inr (h1.trans h2.symm)
    · rw [h1, upd_at, upd_ne (by omega)] at h3
      exact absurd h3.symm (h b hb)
  · by_cases h2 : b = k
    · rw [h2, upd_at, upd_ne (by omega)] at h3
      exact absurd h3 (h a ha)
    · rw [upd_ne (by omega), upd_ne (by omega)] at h3
      rw [upd_ne (by omega)]
      exact hD a b ha hb h3
theorem cls_away {f : N1} {k c : Nat} (hD : gD f) (hk : k < 12) (hc : c < 61) (h : f (13 + k) = nI c) : u2 (u2 (cls f) 5 c (-5)) 0 k (-5) = cls (upd f (13 + k) (-5)) := by
  have hD2 := gD_away hD hk
  refine cls_rows ?_ ?_ ?_ ?_ ?_ ?_ ?_ ?_ ?_ (fun i hi => ?_)
  · funext j
    rw [u2_at, u2_row (by decide)]
    by_cases hj : j = k
    · rw [if_pos hj, hj, cls_0 hk, upd_at]
    · rw [if_neg hj]
      by_cases h2 : j < 12
      · rw [cls_0 h2, cls_0 h2, upd_ne (by omega)]
      · simp [cls, h2]
  · rw [u2_row (by decide), u2_row (by decide)]; exact cls_r1 fun b hb => (upd_ne (by omega)).symm
  · rw [u2_row (by decide), u2_row (by decide)]; exact cls_r2 fun b hb => (upd_ne (by omega)).symm
  · rw [u2_row (by decide), u2_row (by decide)]; exact cls_r3 fun b hb => (upd_ne (by omega)).symm
  · rw [u2_row (by decide), u2_row (by decide)]; exact cls_r4 fun b hb => (upd_ne (by omega)).symm
  · rw [u2_row (by decide)]
    funext j
    rw [u2_at]
    by_cases hj : j < 61
    · rw [cls_5 hj, cls_5 hj, bo_upd hD hD2 hk hj, if_neg (show ¬ (-5) = nI j from fun q => nI_no (show j < 1000 by omega) q.symm), h]
      by_cases h2 : j = c
      · rw [if_pos h2, h2, if_pos rfl]
      · rw [if_neg h2, if_neg (show ¬ nI c = nI j from fun q => h2 (nI_inj (by omega) (by omega) q).symm)]
    · rw [if_neg (by omega)]
      simp [cls, hj]
  · rw [u2_row (by decide), u2_row (by decide)]; exact cls_r6 fun b hb => (upd_ne (by omega)).symm
  · rw [u2_row (by decide), u2_row (by decide)]; exact cls_r7 fun b hb => (upd_ne (by omega)).symm
  · rw [u2_row (by decide), u2_row (by decide)]; exact cls_r8 ⟨(upd_ne (by omega)).symm, (upd_ne (by omega)).symm, (upd_ne (by omega)).symm, (upd_ne (by omega)).symm, (upd_ne (by omega)).symm, (upd_ne (by omega)).symm⟩
  · rw [u2_row (by omega), u2_row (by omega)]; exact cls_hi hi
theorem lift_c {f : N1} {k : Nat} (hA : gA f) (hD : gD f) (hk : k < 12) : fX4_lift (cls f) (nI k) = cls (upd f (13 + k) (-5)) := by
  rcases hA.2.1 k hk with h | h
  · obtain ⟨c, hc, e⟩ := vin_nI h
    unfold fX4_lift
    rw [if_neg (isBN hk), nI_c (by omega), cls_0 hk, e, if_neg (isCe hc), nI_c (show c < 1000 by omega)]
    exact cls_away hD hk hc e
  · rw [lift_5 hk h, upd_self h]
theorem cls_come {f : N1} {k c : Nat} (hD : gD f) (hk : k < 12) (hc : c < 61) (h5 : f (13 + k) = (-5)) (h : ∀ j, j < 12 → ¬ f (13 + j) = nI c) : u2 (u2 (cls f) 0 k (nI c)) 5 c (nI k) = cls (upd f (13 + k) (nI c)) := by
  have hD2 := gD_put hD hk h
  refine cls_rows ?_ ?_ ?_ ?_ ?_ ?_ ?_ ?_ ?_ (fun i hi => ?_)
  · rw [u2_row (by decide)]
    funext j
    rw [u2_at]
    by_cases hj : j = k
    · rw [if_pos hj, hj, cls_0 hk, upd_at]
    · rw [if_neg hj]
      by_cases h2 : j < 12
      · rw [cls_0 h2, cls_0 h2, upd_ne (by omega)]
      · simp [cls, h2]
  · rw [u2_row (by decide), u2_row (by decide)]; exact cls_r1 fun b hb => (upd_ne (by omega)).symm
  · rw [u2_row (by decide), u2_row (by decide)]; exact cls_r2 fun b hb => (upd_ne (by omega)).symm
  · rw [u2_row (by decide), u2_row (by decide)]; exact cls_r3 fun b hb => (upd_ne (by omega)).symm
  · rw [u2_row (by decide), u2_row (by decide)]; exact cls_r4 fun b hb => (upd_ne (by omega)).symm
  · funext j
    rw [u2_at, u2_row (by decide)]
    by_cases hj : j < 61
    · rw [cls_5 hj, cls_5 hj, bo_upd hD hD2 hk hj]
      by_cases h2 : j = c
      · rw [if_pos h2, h2, if_pos rfl]
      · rw [if_neg h2, if_neg (show ¬ nI c = nI j from fun q => h2 (nI_inj (by omega) (by omega) q).symm), h5, if_neg (show ¬ (-5) = nI j from fun q => nI_no (show j < 1000 by omega) q.symm)]
    · rw [if_neg (by omega)]
      simp [cls, hj]
  · rw [u2_row (by decide), u2_row (by decide)]; exact cls_r6 fun b hb => (upd_ne (by omega)).symm
  · rw [u2_row (by decide), u2_row (by decide)]; exact cls_r7 fun b hb => (upd_ne (by omega)).symm
  · rw [u2_row (by decide), u2_row (by decide)]; exact cls_r8 ⟨(upd_ne (by omega)).symm, (upd_ne (by omega)).symm, (upd_ne (by omega)).symm, (upd_ne (by omega)).symm, (upd_ne (by omega)).symm, (upd_ne (by omega)).symm⟩
  · rw [u2_row (by omega), u2_row (by omega)]; exact cls_hi hi
theorem place_c {f : N1} {k c : Nat} (hA : gA f) (hD : gD f) (hk : k < 12) (hc : c < 61) (h : ∀ j, j < 12 → ¬ f (13 + j) = nI c) : fX4_place (cls f) (nI k) (nI c) = cls (upd f (13 + k) (nI c)) := by
  unfold fX4_place
  rw [if_neg (isBN hk), if_neg (isCe hc), lift_c hA hD hk, nI_c (show k < 1000 by omega), nI_c (show c < 1000 by omega)]
  rw [cls_come (gD_away hD hk) hk hc upd_at (fun j hj => ?_), upd_twice]
  by_cases hjk : j = k
  · rw [hjk, upd_at]
    exact fun q => nI_no (show c < 1000 by omega) q.symm
  · rw [upd_ne (by omega)]
    exact h j hj
theorem gm_start : ∀ c : Fin 61, fX1_columnOf (nI c.val) = tQ c.val ∧ fX1_rowOf (nI c.val) = tR c.val := by decide +kernel
theorem gm_ahead : ∀ c : Fin 61, ∀ w : Fin 6, fX1_cellAt (tQ c.val + fX1_stepQ (nI w.val)) (tR c.val + fX1_stepR (nI w.val)) = ahC (nI c.val) (nI w.val) := by decide +kernel
theorem gm_step : ∀ c : Fin 61, ∀ w : Fin 6, ahC (nI c.val) (nI w.val) = (-5) ∨ (tQ c.val + fX1_stepQ (nI w.val) = tQ (ahC (nI c.val) (nI w.val)).toNatClampNeg ∧ tR c.val + fX1_stepR (nI w.val) = tR (ahC (nI c.val) (nI w.val)).toNatClampNeg) := by decide +kernel
theorem tuD_f (d : N1) : fX5_turnAtBank d = upd d 2 (tuD (d 0) (d 1) (d 2)) := by
  unfold fX5_turnAtBank tuD
  repeat' split
  all_goals rfl
theorem gm_turn : ∀ c : Fin 61, ∀ w : Fin 6, ¬ ahC (nI c.val) (nI w.val) = (-5) ∨ tuD (tQ c.val) (tR c.val) (nI w.val) = tuC (nI c.val) (nI w.val) := by decide +kernel
theorem gm_next : ∀ w : Fin 6, fX1_turned (nI w.val) 1 = nxC (nI w.val) := by decide +kernel
theorem gm_corner : ∀ c : Fin 61, fX1_cornerOf (nI c.val) = coC (nI c.val) := by decide +kernel
theorem nI_back {x : Int32} {n : Nat} (h : vp_in x n) (hn : n ≤ 1000) : nI x.toNatClampNeg = x ∧ x.toNatClampNeg < n := by
  obtain ⟨k, hk, rfl⟩ := vin_nI h
  rw [nI_c (by omega)]
  exact ⟨rfl, hk⟩
theorem ah_in {c w : Nat} (hc : c < 61) (hw : w < 6) (h : ¬ ahC (nI c) (nI w) = (-5)) : vp_in (ahC (nI c) (nI w)) 61 := by
  rcases fin_ah ⟨c, hc⟩ ⟨w, hw⟩ with h2 | h2
  · exact absurd h2 h
  · exact h2
theorem tu_vin {c w : Nat} (hc : c < 61) (hw : w < 6) (h : ahC (nI c) (nI w) = (-5)) : vp_in (tuC (nI c) (nI w)) 6 := (fin_tu ⟨c, hc⟩ ⟨w, hw⟩ h).1
theorem nx_vin {w : Nat} (hw : w < 6) : vp_in (nxC (nI w)) 6 := fin_nx ⟨w, hw⟩
/-- the walker on a cell, looking in a direction -/
def dW (d : N1) (c w : Nat) : Prop := d 0 = tQ c ∧ d 1 = tR c ∧ d 2 = nI w
theorem dW_start {d : N1} {c w : Nat} (hc : c < 61) : dW (fX5_startAt d (nI c) (nI w)) c w := by
  have h := gm_start ⟨c, hc⟩
  unfold fX5_startAt dW
  rw [upd_at, upd_ne (show ¬ 0 = 2 by decide), upd_ne (show ¬ 0 = 1 by decide), upd_at, upd_ne (show ¬ 1 = 2 by decide), upd_at]
  exact ⟨h.1, h.2, rfl⟩
theorem dW_ahead {d : N1} {c w : Nat} (h : dW d c w) (hc : c < 61) (hw : w < 6) : fX5_cellAhead d = ahC (nI c) (nI w) := by
  unfold fX5_cellAhead
  rw [h.1, h.2.1, h.2.2]
  exact gm_ahead ⟨c, hc⟩ ⟨w, hw⟩
theorem dW_step {d : N1} {c w : Nat} (h : dW d c w) (hc : c < 61) (hw : w < 6) (hn : ¬ ahC (nI c) (nI w) = (-5)) : dW (fX5_stepAhead d) (ahC (nI c) (nI w)).toNatClampNeg w := by
  have g := (gm_step ⟨c, hc⟩ ⟨w, hw⟩).resolve_left hn
  unfold fX5_stepAhead dW
  rw [upd_ne (show ¬ 0 = 1 by decide), upd_at, upd_at, upd_ne (show ¬ 1 = 0 by decide), upd_ne (show ¬ 2 = 0 by decide), upd_ne (show ¬ 2 = 1 by decide), upd_ne (show ¬ 2 = 0 by decide), h.1, h.2.1, h.2.2]
  exact ⟨g.1, g.2, rfl⟩
theorem dW_dir {d : N1} {c w v : Nat} (h : dW d c w) : dW (upd d 2 (nI v)) c v := by
  unfold dW
  rw [upd_ne (show ¬ 0 = 2 by decide), upd_ne (show ¬ 1 = 2 by decide), upd_at]
  exact ⟨h.1, h.2.1, rfl⟩
theorem dW_bank {d : N1} {c w : Nat} (h : dW d c w) (hc : c < 61) (hw : w < 6) (hn : ahC (nI c) (nI w) = (-5)) : dW (fX5_turnAtBank d) c (tuC (nI c) (nI w)).toNatClampNeg := by
  have g := (gm_turn ⟨c, hc⟩ ⟨w, hw⟩).resolve_left (fun q => q hn)
  rw [tuD_f, h.1, h.2.1, h.2.2]
  have g2 : tuD (tQ c) (tR c) (nI w) = nI (tuC (nI c) (nI w)).toNatClampNeg := by
    rw [(nI_back (tu_vin hc hw hn) (by decide)).1]
    exact g
  rw [g2]
  exact dW_dir h
theorem dW_open {d : N1} {c w : Nat} (h : dW d c w) (hc : c < 61) (hw : w < 6) : dW (fX5_turnOnIfOpen d) c (if ahC (nI c) (nxC (nI w)) = (-5) then nI w else nxC (nI w)).toNatClampNeg := by
  have g : fX1_turned (nI w) 1 = nxC (nI w) := gm_next ⟨w, hw⟩
  obtain ⟨b1, b2⟩ := nI_back (nx_vin hw) (by decide)
  have e : fX1_cellAt ((d 0) + (fX1_stepQ (fX1_turned (d 2) 1))) ((d 1) + (fX1_stepR (fX1_turned (d 2) 1))) = ahC (nI c) (nxC (nI w)) := by
    rw [h.1, h.2.1, h.2.2, g, ← b1]
    exact gm_ahead ⟨c, hc⟩ ⟨_, b2⟩
  unfold fX5_turnOnIfOpen
  rw [e]
  by_cases h5 : ahC (nI c) (nxC (nI w)) = (-5)
  · rw [if_pos h5, if_pos h5, nI_c (by omega)]
    exact h
  · rw [if_neg h5, if_neg h5, h.2.2, g]
    have := dW_dir (v := (nxC (nI w)).toNatClampNeg) h
    rw [b1] at this
    exact this
/-! sums -/
theorem tot_up {g : N1} {k : Nat} (hk : k < 12) : ∀ n : Nat, n ≤ 12 → fX4_totalN (upd g k (g k + 1)) n = if k < n then fX4_totalN g n + 1 else fX4_totalN g n := by
  intro n
  induction n with
  | zero => intro _; rw [if_neg (by omega)]; rfl
  | succ n ih =>
    intro hn
    unfold fX4_totalN
    rw [ih (by omega), nI_c (show n < 1000 by omega)]
    by_cases h1 : k < n
    · rw [if_pos h1, if_pos (by omega), upd_ne (by omega), Int32.add_assoc, Int32.add_comm 1, ← Int32.add_assoc]
    · rw [if_neg h1]
      by_cases h2 : n = k
      · rw [h2, upd_at, if_pos (by omega), ← Int32.add_assoc]
      · rw [upd_ne h2, if_neg (by omega)]
theorem tot_cls3 {f : N1} {k : Nat} (hk : k < 12) : fX4_total (cls (upd f (49 + k) (f (49 + k) + 1)) 3) = fX4_total (cls f 3) + 1 := by
  rw [← cls_u3 hk, u2_self, ← cls_3 (f := f) hk]
  unfold fX4_total
  rw [tot_up hk 12 (by omega), if_pos hk]
theorem tot_cls4 {f : N1} {k : Nat} (hk : k < 12) : fX4_total (cls (upd f (61 + k) (f (61 + k) + 1)) 4) = fX4_total (cls f 4) + 1 := by
  rw [← cls_u4 hk, u2_self, ← cls_4 (f := f) hk]
  unfold fX4_total
  rw [tot_up hk 12 (by omega), if_pos hk]
theorem gF_upd {f : N1} {j : Nat} {x : Int32} (h : gF f) (hj : 25 ≤ j) : gF (upd f j x) := by
  obtain ⟨hA, hD, hR, hU⟩ := h
  refine ⟨gA_upd hA hj, fun a b ha hb => ?_, fun b hb => ?_, ?_⟩
  · rw [upd_ne (by omega), upd_ne (by omega)]
    exact hD a b ha hb
  · rw [upd_ne (by omega), upd_ne (by omega)]
    exact hR b hb
  · unfold gU
    rw [upd_ne (by omega)]
    exact hU
theorem gF_away {f : N1} {k : Nat} (h : gF f) (hk : k < 12) : gF (upd f (13 + k) (-5)) := by
  obtain ⟨hA, hD, hR, hU⟩ := h
  refine ⟨gA_cell hA (Or.inr rfl), gD_away hD hk, fun b hb => ?_, ?_⟩
  · rw [upd_ne (show ¬ 12 = 13 + k by omega)]
    by_cases h2 : b = k
    · rw [h2, upd_at]; exact fun _ => rfl
    · rw [upd_ne (by omega)]
      exact hR b hb
  · unfold gU
    rw [upd_ne (by omega)]
    exact hU
theorem gF_put {f : N1} {k c : Nat} (h : gF f) (hk : k < 12) (hc : c < 61) (he : (k : Int) < (f 12).toInt) (hn : ∀ j, j < 12 → ¬ f (13 + j) = nI c) : gF (upd f (13 + k) (nI c)) := by
  obtain ⟨hA, hD, hR, hU⟩ := h
  refine ⟨gA_cell hA (Or.inl (vp_in_nI hc (by decide))), gD_put hD hk hn, fun b hb => ?_, ?_⟩
  · rw [upd_ne (show ¬ 12 = 13 + k by omega)]
    intro h2
    rw [upd_ne (by omega)]
    exact hR b hb h2
  · unfold gU
    rw [upd_ne (by omega)]
    exact hU
theorem ever_lt {f : N1} {k c : Nat} (hR : gR f) (hk : k < 12) (hc : c < 61) (h : f (13 + k) = nI c) : (k : Int) < (f 12).toInt := by
  by_cases h2 : (k : Int) < (f 12).toInt
  · exact h2
  · exact absurd (h.symm.trans (hR k hk (by omega))) (nI_no (by omega))
/-! the class's events in short -/
theorem bank_cl (z : N1) (sp : UInt32) (d : N1) (σ : N2) : fX3_bank z sp d σ = (upd (upd z 4 (z 4 + 1)) 2 (if z 2 + z 1 < 3 then z 2 + z 1 else z 2 + z 1 - 3), FP.fmul sp (kF (σ 6 1)), if z 2 + z 1 < 3 then fX5_turnAtBank d else fX5_turnOnIfOpen (fX5_turnAtBank d), fX4_addBank σ (z 0)) := by
  unfold fX3_bank
  simp only [upd_at, upd_twice, upd_ne (f := z) (show ¬ 2 = 4 by decide), upd_ne (f := z) (show ¬ 1 = 4 by decide), upd_ne (f := z) (show ¬ 0 = 4 by decide)]
  split
  · rfl
  · rfl
theorem hit_cl (z : N1) (sp : UInt32) (d : N1) (σ : N2) (ot : Int32) : fX3_hit z sp d σ ot = (upd (upd (upd (upd z 5 (z 5 + 1)) 0 ot) 1 0) 2 0, FP.fmul sp (kF (σ 6 2)), fX5_stepAhead d, fX4_addHit σ (z 0)) := by
  unfold fX3_hit
  simp only [upd_ne (f := z) (show ¬ 0 = 5 by decide)]
  rfl
theorem step_cl (z : N1) (sp : UInt32) (d : N1) (σ : N2) (ce : Int32) : fX3_step z sp d σ ce = if fX4_isOpenPot (fX4_place (fX4_addStep σ (z 0)) (z 0) ce) ce = 0 then (upd z 3 (z 3 + 1), FP.fmul sp (kF (σ 6 0)), fX5_stepAhead d, fX4_place (fX4_addStep σ (z 0)) (z 0) ce) else (upd (upd z 3 (z 3 + 1)) 6 (z 0), FP.fmul sp (kF (σ 6 0)), fX5_stepAhead d, fX4_lift (fX4_place (fX4_addStep σ (z 0)) (z 0) ce) (z 0)) := by
  unfold fX3_step
  simp only [upd_ne (f := z) (show ¬ 0 = 3 by decide)]
  rfl
theorem pot_cl {f : N1} {c : Nat} (hc : c < 61) : fX4_isOpenPot (cls f) (nI c) = if coC (nI c) = (-5) then 0 else if (((f 3) >>> ((coC (nI c)) &&& 31)) &&& 1) = 1 then 1 else 0 := by
  unfold fX4_isOpenPot
  rw [gm_corner ⟨c, hc⟩, cls_81]
theorem bank_add {f : N1} {k : Nat} (hk : k < 12) : fX4_addBank (cls f) (nI k) = cls (upd f (49 + k) (f (49 + k) + 1)) := by
  unfold fX4_addBank
  rw [if_neg (isBN hk), nI_c (by omega), cls_3 hk, cls_u3 hk]
theorem hit_add {f : N1} {k : Nat} (hk : k < 12) : fX4_addHit (cls f) (nI k) = cls (upd f (61 + k) (f (61 + k) + 1)) := by
  unfold fX4_addHit
  rw [if_neg (isBN hk), nI_c (by omega), cls_4 hk, cls_u4 hk]
theorem step_add {f : N1} {k : Nat} (hk : k < 12) : fX4_addStep (cls f) (nI k) = cls (upd f (37 + k) (f (37 + k) + 1)) := by
  unfold fX4_addStep
  rw [if_neg (isBN hk), nI_c (by omega), cls_2 hk, cls_u2 hk]
theorem upd_comm {f : N1} {i j : Nat} {x y : Int32} (h : ¬ i = j) : upd (upd f i x) j y = upd (upd f j y) i x := by
  funext k
  by_cases h1 : k = i
  · by_cases h2 : k = j
    · exact absurd (h1.symm.trans h2) h
    · rw [upd_ne h2, h1, upd_at, upd_at]
  · by_cases h2 : k = j
    · rw [upd_ne h1, h2, upd_at, upd_at]
    · rw [upd_ne h2, upd_ne h1, upd_ne h1, upd_ne h2]
