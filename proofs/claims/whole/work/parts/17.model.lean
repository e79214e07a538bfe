/-! the reference: a shot (printed by wip/whole/gen/p17.py) -/
def tQ (c : Nat) : Int32 := ([0, 1, 2, 3, 4, -1, 0, 1, 2, 3, 4, -2, -1, 0, 1, 2, 3, 4, -3, -2, -1, 0, 1, 2, 3, 4, -4, -3, -2, -1, 0, 1, 2, 3, 4, -4, -3, -2, -1, 0, 1, 2, 3, -4, -3, -2, -1, 0, 1, 2, -4, -3, -2, -1, 0, 1, -4, -3, -2, -1, 0] : List Int32).getD c 0
def tR (c : Nat) : Int32 := ([-4, -4, -4, -4, -4, -3, -3, -3, -3, -3, -3, -2, -2, -2, -2, -2, -2, -2, -1, -1, -1, -1, -1, -1, -1, -1, 0, 0, 0, 0, 0, 0, 0, 0, 0, 1, 1, 1, 1, 1, 1, 1, 1, 2, 2, 2, 2, 2, 2, 2, 3, 3, 3, 3, 3, 3, 4, 4, 4, 4, 4] : List Int32).getD c 0
def tAt (i : Nat) : Int32 := ([-5, -5, -5, -5, 0, 1, 2, 3, 4, -5, -5, -5, 5, 6, 7, 8, 9, 10, -5, -5, 11, 12, 13, 14, 15, 16, 17, -5, 18, 19, 20, 21, 22, 23, 24, 25, 26, 27, 28, 29, 30, 31, 32, 33, 34, 35, 36, 37, 38, 39, 40, 41, 42, -5, 43, 44, 45, 46, 47, 48, 49, -5, -5, 50, 51, 52, 53, 54, 55, -5, -5, -5, 56, 57, 58, 59, 60, -5, -5, -5, -5] : List Int32).getD i 0
/-- the reference's tables of cells -/
def gTab (μ : N2) : Prop := (∀ c : Nat, c < 61 → μ 5 c = tQ c) ∧ (∀ c : Nat, c < 61 → μ 6 c = tR c) ∧ ∀ i : Nat, i < 81 → μ 7 i = tAt i
/-- rows of numbers that may be played on -/
def gA (f : N1) : Prop := (0 ≤ (f 12).toInt ∧ (f 12).toInt ≤ 12) ∧ (∀ b : Nat, b < 12 → vp_in (f (13 + b)) 61 ∨ f (13 + b) = (-5)) ∧ (∀ i : Nat, i < 3 → gK (f i)) ∧ ¬ f 0 = 100 ∧ ¬ f 2 = 100
/-- in a shot -/
def JM (μ : N2) (sp : UInt32) : Prop := gA (μ 0) ∧ gTab μ ∧ gW sp ∧ vp_in (μ 9 2) 12 ∧ vp_in (μ 9 3) 6 ∧ (μ 9 6 = (-5) → vp_in (μ 0 (13 + (μ 9 2)).toNatClampNeg) 61) ∧ (μ 9 6 = (-5) ∨ vp_in (μ 9 6) 12)
def mM (μ : N2) (sp : UInt32) : Nat := 2 * ((sp.toNat - 1056964608) / 1000) + (if fX7_ahead μ sp (μ 0 (13 + (μ 9 2)).toNatClampNeg) (μ 9 3) = (-5) then 1 else 0)
theorem mM_lt {μ : N2} {sp : UInt32} (h : gW sp) : mM μ sp < 1000000 := by
  unfold mM
  have h2 := h.2
  split <;> omega
/-- one event of a shot -/
def mdB (μ : N2) (sp : UInt32) : N2 × UInt32 := if fX7_ahead μ sp (μ 0 (13 + (μ 9 2)).toNatClampNeg) (μ 9 3) = (-5) then fX7_bank μ sp else if fX7_ballOn μ sp (fX7_ahead μ sp (μ 0 (13 + (μ 9 2)).toNatClampNeg) (μ 9 3)) = (-5) then fX7_step μ sp (fX7_ahead μ sp (μ 0 (13 + (μ 9 2)).toNatClampNeg) (μ 9 3)) else fX7_hit μ sp (fX7_ballOn μ sp (fX7_ahead μ sp (μ 0 (13 + (μ 9 2)).toNatClampNeg) (μ 9 3)))
def mdN : Nat → N2 → UInt32 → N2 × UInt32
  | 0, μ, sp => (μ, sp)
  | n + 1, μ, sp => if μ 9 6 = (-5) then (if (Op.cmpValue (FP.fcmp sp FP.fconst1) .l) < 0 then (μ, sp) else mdN n (mdB μ sp).1 (mdB μ sp).2) else (μ, sp)
def shI (μ : N2) (bl di sn : Int32) : N2 := u2 (u2 (u2 (u2 (u2 (u2 (u2 (u2 μ 9 2 bl) 9 3 di) 9 5 sn) 9 4 0) 9 6 (-5)) 9 7 0) 9 8 0) 9 9 0
def fX7_shot (μ : N2) (sp : UInt32) (bl di sg sn : Int32) : Int32 × N2 × UInt32 := (if (mdN 1000000 (shI μ bl di sn) (FP.fdiv (FP.i2f sg) 1092616192)).1 9 6 = (-5) then 0 else (mdN 1000000 (shI μ bl di sn) (FP.fdiv (FP.i2f sg) 1092616192)).1 0 (25 + ((mdN 1000000 (shI μ bl di sn) (FP.fdiv (FP.i2f sg) 1092616192)).1 9 6)).toNatClampNeg, (mdN 1000000 (shI μ bl di sn) (FP.fdiv (FP.i2f sg) 1092616192)).1, (mdN 1000000 (shI μ bl di sn) (FP.fdiv (FP.i2f sg) 1092616192)).2)
theorem JM0 {μ : N2} {bl di sg sn : Int32} (hA : gA (μ 0)) (hTb : gTab μ) (hb : vp_in bl 12) (hd : vp_in di 6) (hcb : vp_in (μ 0 (13 + bl).toNatClampNeg) 61) (hg : 10 ≤ sg.toInt ∧ sg.toInt ≤ 999) : JM (shI μ bl di sn) (FP.fdiv (FP.i2f sg) 1092616192) :=
  ⟨hA, ⟨hTb.1, hTb.2.1, hTb.2.2⟩, gV_gW (first_gV hg.1 hg.2), hb, hd, fun _ => hcb, Or.inl rfl⟩
theorem u2_row {μ : N2} {a b i : Nat} {v : Int32} (h : ¬ i = a) : u2 μ a b v i = μ i := by
  unfold u2 va_up
  exact if_neg h
theorem u2_at {μ : N2} {a b j : Nat} {v : Int32} : u2 μ a b v a j = if j = b then v else μ a j := by
  unfold u2 va_up upd
  simp only [if_pos]
theorem cl_nat {k : Nat} (h : k < 1000) : (Int32.ofNat k).toNatClampNeg = k := by
  have h2 : (Int32.ofNat k).toInt = (k : Int) := Int32.toInt_ofNat_of_lt (by omega)
  show (Int32.ofNat k).toInt.toNat = k
  rw [h2]
  rfl
theorem vin_cases {x : Int32} {n : Nat} (h : vp_in x n) : ∃ k, k < n ∧ x = Int32.ofNat k := by
  rw [vp_in_iff] at h
  have h3 : x.toInt < 2147483648 := Int32.toInt_lt x
  refine ⟨x.toInt.toNat, by omega, Int32.toInt_inj.mp ?_⟩
  rw [Int32.toInt_ofNat_of_lt (by omega)]
  omega
/-- the tables alone -/
def tabs : N2 := fun i j => if i = 5 then tQ j else if i = 6 then tR j else tAt j
def ahC (c w : Int32) : Int32 := fX7_ahead tabs 0 c w
def tuC (c w : Int32) : Int32 := fX7_turned tabs 0 c w
def coC (c : Int32) : Int32 := fX7_cornerOf tabs 0 c
def nxC (w : Int32) : Int32 := (w + 1) - (w + 1) / 6 * 6
theorem fin_ix : ∀ c : Fin 61, ∀ w : Fin 6, fX7_in ((tQ c.val) + (fX7_qBy (.ofNat w.val))).toInt64 (-4) 4 = 0 ∨ fX7_in ((tR c.val) + (fX7_rBy (.ofNat w.val))).toInt64 (-4) 4 = 0 ∨ (((9 * (((tR c.val) + (fX7_rBy (.ofNat w.val))) + 4)) + ((tQ c.val) + (fX7_qBy (.ofNat w.val)))) + 4).toNatClampNeg < 81 := by decide +kernel
theorem fin_ah : ∀ c : Fin 61, ∀ w : Fin 6, ahC (.ofNat c.val) (.ofNat w.val) = (-5) ∨ ¬ (ahC (.ofNat c.val) (.ofNat w.val) < 0 ∨ 61 ≤ (ahC (.ofNat c.val) (.ofNat w.val)).toNatClampNeg) := by decide +kernel
theorem fin_tu : ∀ c : Fin 61, ∀ w : Fin 6, ahC (.ofNat c.val) (.ofNat w.val) = (-5) → (¬ (tuC (.ofNat c.val) (.ofNat w.val) < 0 ∨ 6 ≤ (tuC (.ofNat c.val) (.ofNat w.val)).toNatClampNeg)) ∧ ¬ ahC (.ofNat c.val) (tuC (.ofNat c.val) (.ofNat w.val)) = (-5) := by decide +kernel
theorem fin_nx : ∀ w : Fin 6, ¬ (nxC (.ofNat w.val) < 0 ∨ 6 ≤ (nxC (.ofNat w.val)).toNatClampNeg) := by decide +kernel
theorem ahead_tab {μ : N2} {sp : UInt32} {c w : Int32} (hT : gTab μ) (hc : vp_in c 61) (hw : vp_in w 6) : fX7_ahead μ sp c w = ahC c w := by
  obtain ⟨k, hk, rfl⟩ := vin_cases hc
  obtain ⟨i, hi, rfl⟩ := vin_cases hw
  have hf := fin_ix ⟨k, hk⟩ ⟨i, hi⟩
  have e5 : μ 5 (Int32.ofNat k).toNatClampNeg = tQ k := by rw [cl_nat (by omega)]; exact hT.1 k hk
  have e6 : μ 6 (Int32.ofNat k).toNatClampNeg = tR k := by rw [cl_nat (by omega)]; exact hT.2.1 k hk
  have t5 : tabs 5 (Int32.ofNat k).toNatClampNeg = tQ k := by rw [cl_nat (by omega)]; rfl
  have t6 : tabs 6 (Int32.ofNat k).toNatClampNeg = tR k := by rw [cl_nat (by omega)]; rfl
  unfold ahC fX7_ahead fX7_cellAt
  rw [e5, e6, t5, t6]
  by_cases h1 : fX7_in ((tQ k) + (fX7_qBy (.ofNat i))).toInt64 (-4) 4 = 0
  · rw [if_pos h1, if_pos h1]
  · rw [if_neg h1, if_neg h1]
    by_cases h2 : fX7_in ((tR k) + (fX7_rBy (.ofNat i))).toInt64 (-4) 4 = 0
    · rw [if_pos h2, if_pos h2]
    · rw [if_neg h2, if_neg h2]
      exact hT.2.2 _ ((hf.resolve_left h1).resolve_left h2)
theorem turned_tab {μ : N2} {sp : UInt32} {c w : Int32} (hT : gTab μ) (hc : vp_in c 61) : fX7_turned μ sp c w = tuC c w := by
  obtain ⟨k, hk, rfl⟩ := vin_cases hc
  have e5 : μ 5 (Int32.ofNat k).toNatClampNeg = tabs 5 (Int32.ofNat k).toNatClampNeg := by rw [cl_nat (by omega)]; exact hT.1 k hk
  have e6 : μ 6 (Int32.ofNat k).toNatClampNeg = tabs 6 (Int32.ofNat k).toNatClampNeg := by rw [cl_nat (by omega)]; exact hT.2.1 k hk
  unfold tuC fX7_turned
  rw [e5, e6]
theorem corner_tab {μ : N2} {sp : UInt32} {c : Int32} (hT : gTab μ) (hc : vp_in c 61) : fX7_cornerOf μ sp c = coC c := by
  obtain ⟨k, hk, rfl⟩ := vin_cases hc
  have e5 : μ 5 (Int32.ofNat k).toNatClampNeg = tabs 5 (Int32.ofNat k).toNatClampNeg := by rw [cl_nat (by omega)]; exact hT.1 k hk
  have e6 : μ 6 (Int32.ofNat k).toNatClampNeg = tabs 6 (Int32.ofNat k).toNatClampNeg := by rw [cl_nat (by omega)]; exact hT.2.1 k hk
  unfold coC fX7_cornerOf
  rw [e5, e6]
theorem ahead_in {μ : N2} {sp : UInt32} {c wy : Int32} (hT : gTab μ) (hc : vp_in c 61) (hw : vp_in wy 6) (h : ¬ fX7_ahead μ sp c wy = (-5)) : vp_in (fX7_ahead μ sp c wy) 61 := by
  rw [ahead_tab hT hc hw] at h ⊢
  obtain ⟨k, hk, rfl⟩ := vin_cases hc
  obtain ⟨i, hi, rfl⟩ := vin_cases hw
  exact (fin_ah ⟨k, hk⟩ ⟨i, hi⟩).resolve_left h
theorem row_ix : ∀ k : Fin 12, (13 + Int32.ofNat k.val).toNatClampNeg = 13 + k.val ∧ (25 + Int32.ofNat k.val).toNatClampNeg = 25 + k.val ∧ (37 + Int32.ofNat k.val).toNatClampNeg = 37 + k.val ∧ (49 + Int32.ofNat k.val).toNatClampNeg = 49 + k.val ∧ (61 + Int32.ofNat k.val).toNatClampNeg = 61 + k.val := by decide +kernel
def hitC (μ : N2) (k : Nat) (ot : Int32) : N2 := u2 (u2 (u2 (u2 (u2 μ 0 (61 + k) (μ 0 (61 + k) + 1)) 9 9 (μ 9 9 + 1)) 9 2 ot) 9 5 0) 9 4 0
def stepC (μ : N2) (k : Nat) (ce : Int32) : N2 := u2 (u2 (u2 μ 0 (13 + k) ce) 0 (37 + k) (μ 0 (37 + k) + 1)) 9 7 (μ 9 7 + 1)
def goneC (μ : N2) (k : Nat) (ce : Int32) : N2 := u2 (u2 (stepC μ k ce) 9 6 (Int32.ofNat k)) 0 (13 + k) (-5)
def bankC (μ : N2) (k : Nat) (wy th : Int32) : N2 := u2 (u2 (u2 (u2 μ 9 3 wy) 9 4 th) 0 (49 + k) (μ 0 (49 + k) + 1)) 9 8 (μ 9 8 + 1)
theorem u2_twice {μ : N2} {a b : Nat} {x y : Int32} : u2 (u2 μ a b x) a b y = u2 μ a b y := by
  funext i j
  by_cases h : i = a
  · subst h
    rw [u2_at, u2_at, u2_at]
    split <;> rfl
  · rw [u2_row h, u2_row h, u2_row h]
theorem u2_swap {μ : N2} {a b d : Nat} {x y : Int32} (h : ¬ b = d) : u2 (u2 μ a b x) a d y = u2 (u2 μ a d y) a b x := by
  funext i j
  by_cases h2 : i = a
  · subst h2
    rw [u2_at, u2_at, u2_at, u2_at]
    by_cases h3 : j = d
    · rw [if_pos h3, if_neg (fun e => h (e.symm.trans h3)), if_pos h3]
    · rw [if_neg h3, if_neg h3]
  · rw [u2_row h2, u2_row h2, u2_row h2, u2_row h2]
theorem hit_form {μ : N2} {sp : UInt32} {ot : Int32} {k : Nat} (hk : k < 12) (hm : μ 9 2 = Int32.ofNat k) : fX7_hit μ sp ot = (hitC μ k ot, FP.fmul sp (kF (μ 0 2))) := by
  have hi := row_ix ⟨k, hk⟩
  have h1 : ¬ 2 = 61 + k := by omega
  unfold fX7_hit hitC kF
  simp only [hm, hi.2.2.2.2, u2_at, u2_row (show ¬ 9 = 0 by decide), u2_row (show ¬ 0 = 9 by decide), if_neg h1]
theorem step_form {μ : N2} {sp : UInt32} {ce : Int32} {k : Nat} (hk : k < 12) (hm : μ 9 2 = Int32.ofNat k) (hT : gTab μ) (hc : vp_in ce 61) : fX7_step μ sp ce = if coC ce = (-5) then (stepC μ k ce, FP.fmul sp (kF (μ 0 0))) else if ((μ 0 3 >>> (coC ce &&& 31)) &&& 1) = 1 then (goneC μ k ce, FP.fmul sp (kF (μ 0 0))) else (stepC μ k ce, FP.fmul sp (kF (μ 0 0))) := by
  have hi := row_ix ⟨k, hk⟩
  have h1 : ¬ 0 = 13 + k := by omega
  have h2 : ¬ 3 = 13 + k := by omega
  have h3 : ¬ 3 = 37 + k := by omega
  have h4 : ¬ 37 + k = 13 + k := by omega
  have hq : ∀ (M : N2) (s : UInt32), M 5 = μ 5 → M 6 = μ 6 → fX7_cornerOf M s ce = coC ce := by
    intro M s a b
    obtain ⟨j, hj, rfl⟩ := vin_cases hc
    have e5 : M 5 (Int32.ofNat j).toNatClampNeg = tabs 5 (Int32.ofNat j).toNatClampNeg := by rw [a, cl_nat (by omega)]; exact hT.1 j hj
    have e6 : M 6 (Int32.ofNat j).toNatClampNeg = tabs 6 (Int32.ofNat j).toNatClampNeg := by rw [b, cl_nat (by omega)]; exact hT.2.1 j hj
    unfold coC fX7_cornerOf
    rw [e5, e6]
  unfold fX7_step goneC stepC kF
  simp only [hm, hi.1, hi.2.2.1, u2_at, u2_row (show ¬ 9 = 0 by decide), u2_row (show ¬ 0 = 9 by decide), if_neg h1, if_neg h2, if_neg h3, if_neg h4, if_neg (show ¬ 2 = 7 by decide), if_neg (show ¬ 2 = 6 by decide)]
  rw [hq _ _ (by rw [u2_row (by decide), u2_row (by decide), u2_row (by decide)]) (by rw [u2_row (by decide), u2_row (by decide), u2_row (by decide)])]
theorem bank_form {μ : N2} {sp : UInt32} {k : Nat} (hk : k < 12) (hm : μ 9 2 = Int32.ofNat k) (hT : gTab μ) (hc : vp_in (μ 0 (13 + k)) 61) (ht : vp_in (tuC (μ 0 (13 + k)) (μ 9 3)) 6) : fX7_bank μ sp = (bankC μ k (if μ 9 4 + μ 9 5 < 3 then tuC (μ 0 (13 + k)) (μ 9 3) else if ahC (μ 0 (13 + k)) (nxC (tuC (μ 0 (13 + k)) (μ 9 3))) = (-5) then tuC (μ 0 (13 + k)) (μ 9 3) else nxC (tuC (μ 0 (13 + k)) (μ 9 3))) (if μ 9 4 + μ 9 5 < 3 then μ 9 4 + μ 9 5 else μ 9 4 + μ 9 5 - 3), FP.fmul sp (kF (μ 0 1))) := by
  have hi := row_ix ⟨k, hk⟩
  obtain ⟨W, hw⟩ : ∃ W, W = tuC (μ 0 (13 + k)) (μ 9 3) := ⟨_, rfl⟩
  have hw2 : ∀ s, fX7_turned μ s (μ 0 (13 + k)) (μ 9 3) = W := fun s => (turned_tab hT hc).trans hw.symm
  rw [← hw] at ht ⊢
  have hn : vp_in (nxC W) 6 := by
    obtain ⟨i, hi, rfl⟩ := vin_cases ht
    exact fin_nx ⟨i, hi⟩
  have hA : ∀ (M : N2) (s : UInt32), M 5 = μ 5 → M 6 = μ 6 → M 7 = μ 7 → fX7_ahead M s (μ 0 (13 + k)) (W + 1 - (W + 1) / 6 * 6) = ahC (μ 0 (13 + k)) (nxC W) := by
    intro M s a b d
    exact ahead_tab (μ := M) ⟨fun j h => by rw [a]; exact hT.1 j h, fun j h => by rw [b]; exact hT.2.1 j h, fun j h => by rw [d]; exact hT.2.2 j h⟩ hc hn
  unfold fX7_bank bankC kF
  simp only [hm, hi.1, hi.2.2.2.1, hw2, u2_at, u2_row (show ¬ 9 = 0 by decide), u2_row (show ¬ 0 = 9 by decide), if_neg (show ¬ 4 = 3 by decide), if_neg (show ¬ 5 = 3 by decide), if_neg (show ¬ 2 = 3 by decide), if_neg (show ¬ 2 = 4 by decide), if_neg (show ¬ 3 = 4 by decide), if_neg (show ¬ 8 = 4 by decide), if_neg (show ¬ 8 = 3 by decide), if_pos]
  rw [hA _ _ (by rw [u2_row (by decide), u2_row (by decide), u2_row (by decide)]) (by rw [u2_row (by decide), u2_row (by decide), u2_row (by decide)]) (by rw [u2_row (by decide), u2_row (by decide), u2_row (by decide)])]
  by_cases h1 : μ 9 4 + μ 9 5 < 3
  · simp only [if_pos h1]
  · by_cases h2 : ahC (μ 0 (13 + k)) (nxC W) = (-5)
    · simp only [if_neg h1, if_pos h2]
      rw [u2_twice, u2_swap (b := 4) (d := 3) (by decide), u2_twice]
    · simp only [if_neg h1, if_neg h2]
      rw [u2_twice, u2_swap (b := 4) (d := 3) (by decide), u2_twice]
      rfl
theorem gA_upd {f : N1} {j : Nat} {x : Int32} (hA : gA f) (hj : 25 ≤ j) : gA (upd f j x) := by
  have hne : ∀ i, i < 25 → upd f j x i = f i := by
    intro i hi
    unfold upd
    exact if_neg (by omega)
  unfold gA
  rw [hne 12 (by decide), hne 0 (by decide), hne 2 (by decide)]
  refine ⟨hA.1, fun b hb => ?_, fun i hi => ?_, hA.2.2.2⟩
  · rw [hne (13 + b) (by omega)]
    exact hA.2.1 b hb
  · rw [hne i (by omega)]
    exact hA.2.2.1 i hi
theorem gA_cell {f : N1} {b : Nat} {x : Int32} (hA : gA f) (hx : vp_in x 61 ∨ x = (-5)) : gA (upd f (13 + b) x) := by
  have hne : ∀ i, i < 13 → upd f (13 + b) x i = f i := by
    intro i hi
    unfold upd
    exact if_neg (by omega)
  unfold gA
  rw [hne 12 (by decide), hne 0 (by decide), hne 2 (by decide)]
  refine ⟨hA.1, fun c hc => ?_, fun i hi => ?_, hA.2.2.2⟩
  · unfold upd
    split
    · exact hx
    · exact hA.2.1 c hc
  · rw [hne i (by omega)]
    exact hA.2.2.1 i hi
theorem u2_self {μ : N2} {a b : Nat} {v : Int32} : u2 μ a b v a = upd (μ a) b v := by
  funext j
  rw [u2_at]
  rfl
theorem gTab_row {μ μ2 : N2} (hT : gTab μ) (h5 : μ2 5 = μ 5) (h6 : μ2 6 = μ 6) (h7 : μ2 7 = μ 7) : gTab μ2 := by
  unfold gTab
  rw [h5, h6, h7]
  exact hT
theorem mM_big {μ μ2 : N2} {sp sp2 : UInt32} (h1 : 1056964608 ≤ sp2.toNat) (h : sp2.toNat + 1000 ≤ sp.toNat) : mM μ2 sp2 < mM μ sp := by
  unfold mM
  split <;> split <;> omega
theorem mM_one {μ μ2 : N2} {sp sp2 : UInt32} (h : sp2.toNat ≤ sp.toNat) (ha : fX7_ahead μ sp (μ 0 (13 + (μ 9 2)).toNatClampNeg) (μ 9 3) = (-5)) (hb : ¬ fX7_ahead μ2 sp2 (μ2 0 (13 + (μ2 9 2)).toNatClampNeg) (μ2 9 3) = (-5)) : mM μ2 sp2 < mM μ sp := by
  unfold mM
  rw [if_pos ha, if_neg hb]
  omega
theorem boN_in {f : N1} {ce : Int32} : ∀ (n i : Nat), i + n ≤ 12 → ¬ boN f ce n i = (-5) → ∃ k, k < 12 ∧ boN f ce n i = Int32.ofNat k ∧ f (13 + k) = ce := by
  intro n
  induction n with
  | zero => intro i _ h; exact absurd rfl h
  | succ n ih =>
    intro i hi h
    unfold boN at h ⊢
    by_cases h2 : f (13 + nI i).toNatClampNeg = ce
    · rw [if_pos h2]
      rw [show (13 + nI i).toNatClampNeg = 13 + i from (row_ix ⟨i, by omega⟩).1] at h2
      exact ⟨i, by omega, rfl, h2⟩
    · rw [if_neg h2] at h ⊢
      exact ih (i + 1) (by omega) h
theorem mdB_J {μ : N2} {sp : UInt32} (hJ : JM μ sp) (h : μ 9 6 = (-5)) (hv : gV sp) : JM (mdB μ sp).1 (mdB μ sp).2 ∧ ((mdB μ sp).1 9 6 = (-5) → mM (mdB μ sp).1 (mdB μ sp).2 < mM μ sp) := by
  obtain ⟨hA, hT, hW, hm, hw, hc, hg⟩ := hJ
  have hc2 := hc h
  obtain ⟨k, hk, ek⟩ := vin_cases hm
  have hi := row_ix ⟨k, hk⟩
  have ei : (13 + μ 9 2).toNatClampNeg = 13 + k := by rw [ek]; exact hi.1
  have hS : ∀ {x : Int32}, gK x → (FP.fmul sp (kF x)).toNat ≤ sp.toNat ∧ 1056964608 ≤ (FP.fmul sp (kF x)).toNat ∧ (¬ x = 100 → (FP.fmul sp (kF x)).toNat + 1000 ≤ sp.toNat) := fun hx => slow_val hv hx
  unfold mdB
  rw [ei] at hc2 ⊢
  have hae : ∀ s, fX7_ahead μ s (μ 0 (13 + k)) (μ 9 3) = ahC (μ 0 (13 + k)) (μ 9 3) := fun s => ahead_tab hT hc2 hw
  by_cases h1 : fX7_ahead μ sp (μ 0 (13 + k)) (μ 9 3) = (-5)
  · rw [if_pos h1]
    have h1c := h1
    rw [hae] at h1c
    have hft : vp_in (tuC (μ 0 (13 + k)) (μ 9 3)) 6 ∧ ¬ ahC (μ 0 (13 + k)) (tuC (μ 0 (13 + k)) (μ 9 3)) = (-5) := by
      obtain ⟨i, hi, e⟩ := vin_cases hc2
      obtain ⟨j, hj, e2⟩ := vin_cases hw
      rw [e, e2] at h1c ⊢
      exact fin_tu ⟨i, hi⟩ ⟨j, hj⟩ h1c
    rw [bank_form hk ek hT hc2 hft.1]
    obtain ⟨W, hWe⟩ : ∃ W, W = (if μ 9 4 + μ 9 5 < 3 then tuC (μ 0 (13 + k)) (μ 9 3) else if ahC (μ 0 (13 + k)) (nxC (tuC (μ 0 (13 + k)) (μ 9 3))) = (-5) then tuC (μ 0 (13 + k)) (μ 9 3) else nxC (tuC (μ 0 (13 + k)) (μ 9 3))) := ⟨_, rfl⟩
    have hWt : vp_in W 6 ∧ ¬ ahC (μ 0 (13 + k)) W = (-5) := by
      rw [hWe]
      split
      · exact hft
      · split
        · exact hft
        · rename_i hq
          refine ⟨?_, hq⟩
          obtain ⟨i, hi, e⟩ := vin_cases hft.1
          rw [e]
          exact fin_nx ⟨i, hi⟩
    rw [← hWe]
    obtain ⟨T, hTe⟩ : ∃ T, T = (if μ 9 4 + μ 9 5 < 3 then μ 9 4 + μ 9 5 else μ 9 4 + μ 9 5 - 3) := ⟨_, rfl⟩
    rw [← hTe]
    have q0 : bankC μ k W T 0 = upd (μ 0) (49 + k) (μ 0 (49 + k) + 1) := by
      unfold bankC
      rw [u2_row (by decide), u2_self, u2_row (by decide), u2_row (by decide)]
    have q5 : bankC μ k W T 5 = μ 5 := by
      unfold bankC
      rw [u2_row (by decide), u2_row (by decide), u2_row (by decide), u2_row (by decide)]
    have q6 : bankC μ k W T 6 = μ 6 := by
      unfold bankC
      rw [u2_row (by decide), u2_row (by decide), u2_row (by decide), u2_row (by decide)]
    have q7 : bankC μ k W T 7 = μ 7 := by
      unfold bankC
      rw [u2_row (by decide), u2_row (by decide), u2_row (by decide), u2_row (by decide)]
    have r2 : bankC μ k W T 9 2 = μ 9 2 := by
      unfold bankC
      simp only [u2_at, u2_row (show ¬ 9 = 0 by decide)]
      rfl
    have r3 : bankC μ k W T 9 3 = W := by
      unfold bankC
      simp only [u2_at, u2_row (show ¬ 9 = 0 by decide)]
      rfl
    have r6 : bankC μ k W T 9 6 = μ 9 6 := by
      unfold bankC
      simp only [u2_at, u2_row (show ¬ 9 = 0 by decide)]
      rfl
    have rc : bankC μ k W T 0 (13 + k) = μ 0 (13 + k) := by
      rw [q0]
      unfold upd
      exact if_neg (by omega)
    have hS1 := hS (hA.2.2.1 1 (by decide))
    have hT2 := gTab_row hT q5 q6 q7
    show JM (bankC μ k W T) (FP.fmul sp (kF (μ 0 1))) ∧ ((bankC μ k W T) 9 6 = (-5) → mM (bankC μ k W T) (FP.fmul sp (kF (μ 0 1))) < mM μ sp)
    refine ⟨⟨?_, hT2, slow_gW hv (hA.2.2.1 1 (by decide)), by rw [r2]; exact hm, by rw [r3]; exact hWt.1, fun _ => ?_, Or.inl (by rw [r6]; exact h)⟩, fun _ => ?_⟩
    · rw [q0]
      exact gA_upd hA (by omega)
    · rw [r2, ei, rc]
      exact hc2
    · refine mM_one hS1.1 (by rw [ei]; exact h1) ?_
      rw [r2, ei, rc, r3]
      rw [ahead_tab hT2 hc2 hWt.1]
      exact hWt.2
  · rw [if_neg h1]
    have hce : vp_in (fX7_ahead μ sp (μ 0 (13 + k)) (μ 9 3)) 61 := ahead_in hT hc2 hw h1
    generalize fX7_ahead μ sp (μ 0 (13 + k)) (μ 9 3) = ce at hce h1
    by_cases h2 : fX7_ballOn μ sp ce = (-5)
    · rw [if_pos h2]
      have hS0 := hS (hA.2.2.1 0 (by decide))
      have q0 : stepC μ k ce 0 = upd (upd (μ 0) (13 + k) ce) (37 + k) (μ 0 (37 + k) + 1) := by
        unfold stepC
        rw [u2_row (by decide), u2_self, u2_self]
      have q5 : stepC μ k ce 5 = μ 5 := by
        unfold stepC
        rw [u2_row (by decide), u2_row (by decide), u2_row (by decide)]
      have q6 : stepC μ k ce 6 = μ 6 := by
        unfold stepC
        rw [u2_row (by decide), u2_row (by decide), u2_row (by decide)]
      have q7 : stepC μ k ce 7 = μ 7 := by
        unfold stepC
        rw [u2_row (by decide), u2_row (by decide), u2_row (by decide)]
      have r2 : stepC μ k ce 9 2 = μ 9 2 := by
        unfold stepC
        simp only [u2_at, u2_row (show ¬ 9 = 0 by decide)]
        rfl
      have r3 : stepC μ k ce 9 3 = μ 9 3 := by
        unfold stepC
        simp only [u2_at, u2_row (show ¬ 9 = 0 by decide)]
        rfl
      have r6 : stepC μ k ce 9 6 = μ 9 6 := by
        unfold stepC
        simp only [u2_at, u2_row (show ¬ 9 = 0 by decide)]
        rfl
      have rc : stepC μ k ce 0 (13 + k) = ce := by
        rw [q0]
        unfold upd
        rw [if_neg (by omega), if_pos rfl]
      have hA2 : gA (stepC μ k ce 0) := by
        rw [q0]
        exact gA_upd (gA_cell hA (Or.inl hce)) (by omega)
      have hT2 := gTab_row hT q5 q6 q7
      have hstep : JM (stepC μ k ce) (FP.fmul sp (kF (μ 0 0))) ∧ ((stepC μ k ce) 9 6 = (-5) → mM (stepC μ k ce) (FP.fmul sp (kF (μ 0 0))) < mM μ sp) := by
        refine ⟨⟨hA2, hT2, slow_gW hv (hA.2.2.1 0 (by decide)), by rw [r2]; exact hm, by rw [r3]; exact hw, fun _ => ?_, Or.inl (by rw [r6]; exact h)⟩, fun _ => mM_big hS0.2.1 (hS0.2.2 hA.2.2.2.1)⟩
        rw [r2, ei, rc]
        exact hce
      rw [step_form hk ek hT hce]
      split
      · exact hstep
      · split
        · have g0 : goneC μ k ce 0 = upd (stepC μ k ce 0) (13 + k) (-5) := by
            unfold goneC
            rw [u2_self, u2_row (by decide)]
          have g5 : goneC μ k ce 5 = μ 5 := by
            unfold goneC
            rw [u2_row (by decide), u2_row (by decide), q5]
          have g6 : goneC μ k ce 6 = μ 6 := by
            unfold goneC
            rw [u2_row (by decide), u2_row (by decide), q6]
          have g7 : goneC μ k ce 7 = μ 7 := by
            unfold goneC
            rw [u2_row (by decide), u2_row (by decide), q7]
          have s2 : goneC μ k ce 9 2 = μ 9 2 := by
            unfold goneC
            rw [u2_row (by decide), u2_at, if_neg (by decide), r2]
          have s3 : goneC μ k ce 9 3 = μ 9 3 := by
            unfold goneC
            rw [u2_row (by decide), u2_at, if_neg (by decide), r3]
          have s6 : goneC μ k ce 9 6 = Int32.ofNat k := by
            unfold goneC
            rw [u2_row (by decide), u2_at, if_pos rfl]
          have hne : ¬ Int32.ofNat k = (-5) := by
            have := (show ∀ k : Fin 12, ¬ Int32.ofNat k.val = (-5) by decide +kernel) ⟨k, hk⟩
            exact this
          show JM (goneC μ k ce) (FP.fmul sp (kF (μ 0 0))) ∧ ((goneC μ k ce) 9 6 = (-5) → mM (goneC μ k ce) (FP.fmul sp (kF (μ 0 0))) < mM μ sp)
          refine ⟨⟨?_, gTab_row hT g5 g6 g7, slow_gW hv (hA.2.2.1 0 (by decide)), by rw [s2]; exact hm, by rw [s3]; exact hw, fun q => absurd (s6.symm.trans q) hne, Or.inr (by rw [s6, ← ek]; exact hm)⟩, fun q => absurd (s6.symm.trans q) hne⟩
          rw [g0]
          exact gA_cell hA2 (Or.inr rfl)
        · exact hstep
    · rw [if_neg h2]
      have hS2 := hS (hA.2.2.1 2 (by decide))
      obtain ⟨b, hb, eb, ec⟩ := boN_in (f := μ 0) (ce := ce) (μ 0 12).toNatClampNeg 0 (by have := hA.1; show 0 + (μ 0 12).toInt.toNat ≤ 12; omega) h2
      have eb2 : fX7_ballOn μ sp ce = Int32.ofNat b := eb
      rw [eb2, hit_form hk ek]
      have q0 : hitC μ k (Int32.ofNat b) 0 = upd (μ 0) (61 + k) (μ 0 (61 + k) + 1) := by
        unfold hitC
        rw [u2_row (by decide), u2_row (by decide), u2_row (by decide), u2_row (by decide), u2_self]
      have q5 : hitC μ k (Int32.ofNat b) 5 = μ 5 := by
        unfold hitC
        rw [u2_row (by decide), u2_row (by decide), u2_row (by decide), u2_row (by decide), u2_row (by decide)]
      have q6 : hitC μ k (Int32.ofNat b) 6 = μ 6 := by
        unfold hitC
        rw [u2_row (by decide), u2_row (by decide), u2_row (by decide), u2_row (by decide), u2_row (by decide)]
      have q7 : hitC μ k (Int32.ofNat b) 7 = μ 7 := by
        unfold hitC
        rw [u2_row (by decide), u2_row (by decide), u2_row (by decide), u2_row (by decide), u2_row (by decide)]
      have r2 : hitC μ k (Int32.ofNat b) 9 2 = Int32.ofNat b := by
        unfold hitC
        simp only [u2_at, u2_row (show ¬ 9 = 0 by decide)]
        rfl
      have r3 : hitC μ k (Int32.ofNat b) 9 3 = μ 9 3 := by
        unfold hitC
        simp only [u2_at, u2_row (show ¬ 9 = 0 by decide)]
        rfl
      have r6 : hitC μ k (Int32.ofNat b) 9 6 = μ 9 6 := by
        unfold hitC
        simp only [u2_at, u2_row (show ¬ 9 = 0 by decide)]
        rfl
      have rc : hitC μ k (Int32.ofNat b) 0 (13 + b) = ce := by
        rw [q0]
        unfold upd
        rw [if_neg (by omega), ec]
      have hbv : vp_in (Int32.ofNat b) 12 := by
        have := (show ∀ k : Fin 12, ¬ (Int32.ofNat k.val < 0 ∨ 12 ≤ (Int32.ofNat k.val).toNatClampNeg) by decide +kernel) ⟨b, hb⟩
        exact this
      show JM (hitC μ k (Int32.ofNat b)) (FP.fmul sp (kF (μ 0 2))) ∧ ((hitC μ k (Int32.ofNat b)) 9 6 = (-5) → mM (hitC μ k (Int32.ofNat b)) (FP.fmul sp (kF (μ 0 2))) < mM μ sp)
      refine ⟨⟨?_, gTab_row hT q5 q6 q7, slow_gW hv (hA.2.2.1 2 (by decide)), by rw [r2]; exact hbv, by rw [r3]; exact hw, fun _ => ?_, Or.inl (by rw [r6]; exact h)⟩, fun _ => mM_big hS2.2.1 (hS2.2.2 hA.2.2.2.2)⟩
      · rw [q0]
        exact gA_upd hA (by omega)
      · rw [r2, (row_ix ⟨b, hb⟩).1, rc]
        exact hce

theorem dX7_shot_0 : decode cX7_shot 0 = .ok (.aload_n 0, 1) := by decide +kernel
theorem dX7_shot_1 : decode cX7_shot 1 = .ok (.iload_n 1, 1) := by decide +kernel
theorem dX7_shot_2 : decode cX7_shot 2 = .ok (.putfield 71, 3) := by decide +kernel
theorem dX7_shot_5 : decode cX7_shot 5 = .ok (.aload_n 0, 1) := by decide +kernel
theorem dX7_shot_6 : decode cX7_shot 6 = .ok (.iload_n 2, 1) := by decide +kernel
theorem dX7_shot_7 : decode cX7_shot 7 = .ok (.putfield 74, 3) := by decide +kernel
theorem dX7_shot_10 : decode cX7_shot 10 = .ok (.aload_n 0, 1) := by decide +kernel
theorem dX7_shot_11 : decode cX7_shot 11 = .ok (.iload 4, 2) := by decide +kernel
theorem dX7_shot_13 : decode cX7_shot 13 = .ok (.putfield 83, 3) := by decide +kernel
theorem dX7_shot_16 : decode cX7_shot 16 = .ok (.aload_n 0, 1) := by decide +kernel
theorem dX7_shot_17 : decode cX7_shot 17 = .ok (.iconst 0, 1) := by decide +kernel
theorem dX7_shot_18 : decode cX7_shot 18 = .ok (.putfield 80, 3) := by decide +kernel
theorem dX7_shot_21 : decode cX7_shot 21 = .ok (.aload_n 0, 1) := by decide +kernel
theorem dX7_shot_22 : decode cX7_shot 22 = .ok (.iload_n 3, 1) := by decide +kernel
theorem dX7_shot_23 : decode cX7_shot 23 = .ok (.i2f, 1) := by decide +kernel
theorem dX7_shot_24 : decode cX7_shot 24 = .ok (.ldc 104, 2) := by decide +kernel
theorem dX7_shot_26 : decode cX7_shot 26 = .ok (.fdiv, 1) := by decide +kernel
theorem dX7_shot_27 : decode cX7_shot 27 = .ok (.putfield 66, 3) := by decide +kernel
theorem dX7_shot_30 : decode cX7_shot 30 = .ok (.aload_n 0, 1) := by decide +kernel
theorem dX7_shot_31 : decode cX7_shot 31 = .ok (.bipush (-5), 2) := by decide +kernel
theorem dX7_shot_33 : decode cX7_shot 33 = .ok (.putfield 101, 3) := by decide +kernel
theorem dX7_shot_36 : decode cX7_shot 36 = .ok (.aload_n 0, 1) := by decide +kernel
theorem dX7_shot_37 : decode cX7_shot 37 = .ok (.iconst 0, 1) := by decide +kernel
theorem dX7_shot_38 : decode cX7_shot 38 = .ok (.putfield 95, 3) := by decide +kernel
theorem dX7_shot_41 : decode cX7_shot 41 = .ok (.aload_n 0, 1) := by decide +kernel
theorem dX7_shot_42 : decode cX7_shot 42 = .ok (.iconst 0, 1) := by decide +kernel
theorem dX7_shot_43 : decode cX7_shot 43 = .ok (.putfield 89, 3) := by decide +kernel
theorem dX7_shot_46 : decode cX7_shot 46 = .ok (.aload_n 0, 1) := by decide +kernel
theorem dX7_shot_47 : decode cX7_shot 47 = .ok (.iconst 0, 1) := by decide +kernel
theorem dX7_shot_48 : decode cX7_shot 48 = .ok (.putfield 92, 3) := by decide +kernel
theorem dX7_shot_51 : decode cX7_shot 51 = .ok (.aload_n 0, 1) := by decide +kernel
theorem dX7_shot_52 : decode cX7_shot 52 = .ok (.getfield 101, 3) := by decide +kernel
theorem dX7_shot_55 : decode cX7_shot 55 = .ok (.bipush (-5), 2) := by decide +kernel
theorem dX7_shot_57 : decode cX7_shot 57 = .ok (.if_icmp .ne 93, 3) := by decide +kernel
theorem dX7_shot_60 : decode cX7_shot 60 = .ok (.aload_n 0, 1) := by decide +kernel
theorem dX7_shot_61 : decode cX7_shot 61 = .ok (.getfield 66, 3) := by decide +kernel
theorem dX7_shot_64 : decode cX7_shot 64 = .ok (.fconst 1, 1) := by decide +kernel
theorem dX7_shot_65 : decode cX7_shot 65 = .ok (.fcmp .l, 1) := by decide +kernel
theorem dX7_shot_66 : decode cX7_shot 66 = .ok (.ifCond .lt 84, 3) := by decide +kernel
theorem dX7_shot_69 : decode cX7_shot 69 = .ok (.aload_n 0, 1) := by decide +kernel
theorem dX7_shot_70 : decode cX7_shot 70 = .ok (.aload_n 0, 1) := by decide +kernel
theorem dX7_shot_71 : decode cX7_shot 71 = .ok (.getfield 7, 3) := by decide +kernel
theorem dX7_shot_74 : decode cX7_shot 74 = .ok (.bipush 13, 2) := by decide +kernel
theorem dX7_shot_76 : decode cX7_shot 76 = .ok (.aload_n 0, 1) := by decide +kernel
theorem dX7_shot_77 : decode cX7_shot 77 = .ok (.getfield 71, 3) := by decide +kernel
theorem dX7_shot_80 : decode cX7_shot 80 = .ok (.iadd, 1) := by decide +kernel
theorem dX7_shot_81 : decode cX7_shot 81 = .ok (.iaload, 1) := by decide +kernel
theorem dX7_shot_82 : decode cX7_shot 82 = .ok (.aload_n 0, 1) := by decide +kernel
theorem dX7_shot_83 : decode cX7_shot 83 = .ok (.getfield 74, 3) := by decide +kernel
theorem dX7_shot_86 : decode cX7_shot 86 = .ok (.invokevirtual 86, 3) := by decide +kernel
theorem dX7_shot_89 : decode cX7_shot 89 = .ok (.istore 5, 2) := by decide +kernel
theorem dX7_shot_91 : decode cX7_shot 91 = .ok (.iload 5, 2) := by decide +kernel
theorem dX7_shot_93 : decode cX7_shot 93 = .ok (.bipush (-5), 2) := by decide +kernel
theorem dX7_shot_95 : decode cX7_shot 95 = .ok (.if_icmp .ne 8, 3) := by decide +kernel
theorem dX7_shot_98 : decode cX7_shot 98 = .ok (.bipush (-5), 2) := by decide +kernel
theorem dX7_shot_100 : decode cX7_shot 100 = .ok (.goto 9, 3) := by decide +kernel
theorem dX7_shot_103 : decode cX7_shot 103 = .ok (.aload_n 0, 1) := by decide +kernel
theorem dX7_shot_104 : decode cX7_shot 104 = .ok (.iload 5, 2) := by decide +kernel
theorem dX7_shot_106 : decode cX7_shot 106 = .ok (.invokevirtual 105, 3) := by decide +kernel
theorem dX7_shot_109 : decode cX7_shot 109 = .ok (.istore 6, 2) := by decide +kernel
theorem dX7_shot_111 : decode cX7_shot 111 = .ok (.iload 5, 2) := by decide +kernel
theorem dX7_shot_113 : decode cX7_shot 113 = .ok (.bipush (-5), 2) := by decide +kernel
theorem dX7_shot_115 : decode cX7_shot 115 = .ok (.if_icmp .ne 10, 3) := by decide +kernel
theorem dX7_shot_118 : decode cX7_shot 118 = .ok (.aload_n 0, 1) := by decide +kernel
theorem dX7_shot_119 : decode cX7_shot 119 = .ok (.invokevirtual 108, 3) := by decide +kernel
theorem dX7_shot_122 : decode cX7_shot 122 = .ok (.goto 25, 3) := by decide +kernel
theorem dX7_shot_125 : decode cX7_shot 125 = .ok (.iload 6, 2) := by decide +kernel
theorem dX7_shot_127 : decode cX7_shot 127 = .ok (.bipush (-5), 2) := by decide +kernel
theorem dX7_shot_129 : decode cX7_shot 129 = .ok (.if_icmp .eq 12, 3) := by decide +kernel
theorem dX7_shot_132 : decode cX7_shot 132 = .ok (.aload_n 0, 1) := by decide +kernel
theorem dX7_shot_133 : decode cX7_shot 133 = .ok (.iload 6, 2) := by decide +kernel
theorem dX7_shot_135 : decode cX7_shot 135 = .ok (.invokevirtual 111, 3) := by decide +kernel
theorem dX7_shot_138 : decode cX7_shot 138 = .ok (.goto 9, 3) := by decide +kernel
theorem dX7_shot_141 : decode cX7_shot 141 = .ok (.aload_n 0, 1) := by decide +kernel
theorem dX7_shot_142 : decode cX7_shot 142 = .ok (.iload 5, 2) := by decide +kernel
theorem dX7_shot_144 : decode cX7_shot 144 = .ok (.invokevirtual 115, 3) := by decide +kernel
theorem dX7_shot_147 : decode cX7_shot 147 = .ok (.goto (-96), 3) := by decide +kernel
theorem dX7_shot_150 : decode cX7_shot 150 = .ok (.aload_n 0, 1) := by decide +kernel
theorem dX7_shot_151 : decode cX7_shot 151 = .ok (.getfield 101, 3) := by decide +kernel
theorem dX7_shot_154 : decode cX7_shot 154 = .ok (.bipush (-5), 2) := by decide +kernel
theorem dX7_shot_156 : decode cX7_shot 156 = .ok (.if_icmp .ne 7, 3) := by decide +kernel
theorem dX7_shot_159 : decode cX7_shot 159 = .ok (.iconst 0, 1) := by decide +kernel
theorem dX7_shot_160 : decode cX7_shot 160 = .ok (.goto 15, 3) := by decide +kernel
theorem dX7_shot_163 : decode cX7_shot 163 = .ok (.aload_n 0, 1) := by decide +kernel
theorem dX7_shot_164 : decode cX7_shot 164 = .ok (.getfield 7, 3) := by decide +kernel
theorem dX7_shot_167 : decode cX7_shot 167 = .ok (.bipush 25, 2) := by decide +kernel
theorem dX7_shot_169 : decode cX7_shot 169 = .ok (.aload_n 0, 1) := by decide +kernel
theorem dX7_shot_170 : decode cX7_shot 170 = .ok (.getfield 101, 3) := by decide +kernel
theorem dX7_shot_173 : decode cX7_shot 173 = .ok (.iadd, 1) := by decide +kernel
theorem dX7_shot_174 : decode cX7_shot 174 = .ok (.iaload, 1) := by decide +kernel
theorem dX7_shot_175 : decode cX7_shot 175 = .ok (.ireturn, 1) := by decide +kernel
theorem ck_X7_108 : CkV RX7 108 RX7 yX7_bank cX7_bank 2 none 0 := ⟨wm_X7_108, wim_yX7_bank, wse_yX7_bank, wi_X7, wc_yX7_bank, by decide +kernel⟩
theorem ck_X7_111 : CkV RX7 111 RX7 yX7_hit cX7_hit 2 none 1 := ⟨wm_X7_111, wim_yX7_hit, wse_yX7_hit, wi_X7, wc_yX7_hit, by decide +kernel⟩
theorem ck_X7_115 : CkV RX7 115 RX7 yX7_step cX7_step 3 none 1 := ⟨wm_X7_115, wim_yX7_step, wse_yX7_step, wi_X7, wc_yX7_step, by decide +kernel⟩
set_option maxHeartbeats 4000000 in
set_option maxRecDepth 100000 in
theorem kX7_shot (l : Launch) (E : Ev) (a : Nat → Nat) (μ : N2) (sp : UInt32) (bl : Int32) (di : Int32) (sg : Int32) (sn : Int32) (hA : gA (μ 0)) (hTb : gTab μ) (hbl : vp_in bl 12) (hd : vp_in di 6) (hcb : vp_in (μ 0 (13 + bl).toNatClampNeg) 61) (hg : 10 ≤ sg.toInt ∧ sg.toInt ≤ 999) : KQ l yX7_shot cX7_shot 7 (some .int) 4 90 E [.ref (a 0), .int bl, .int di, .int sg, .int sn] (wMd E a μ sp) (QI E (wMd E a μ sp) (fX7_shot μ sp bl di sg sn).1 (wMd E a ((fX7_shot μ sp bl di sg sn).2.1) ((fX7_shot μ sp bl di sg sn).2.2))) := by
  refine KQ.mk RX7 rfl (by decide +kernel) (Nat.le_of_ble_eq_true rfl) ?_
  intro p e s m below meth c ls X hr w hl
  have hx := X.1
  have hb := X.2.1
  have hl : lv_has ls 7 [(0, .ref (a 0)), (1, .int bl), (2, .int di), (3, .int sg), (4, .int sn)] := hl
  refine lv_aload_n hx hb dX7_shot_0 rfl (lv_at hl 0 rfl) ?_
  refine lv_iload_n hx hb dX7_shot_1 rfl (lv_at hl 1 rfl) ?_
  refine r_put X w (wMd E a (u2 μ 9 2 bl) sp) CL7 10 (by decide) wf_X7_71 0 rfl rfl rfl rfl (Nat.le_of_ble_eq_true rfl) (ax_92 (E := E)) dX7_shot_2 (fun H locs w => ?_)
  refine lv_aload_n hx hb dX7_shot_5 rfl (lv_at hl 0 rfl) ?_
  refine lv_iload_n hx hb dX7_shot_6 rfl (lv_at hl 2 rfl) ?_
  refine r_put X w (wMd E a (u2 (u2 μ 9 2 bl) 9 3 di) sp) CL7 11 (by decide) wf_X7_74 0 rfl rfl rfl rfl (Nat.le_of_ble_eq_true rfl) (ax_88 (E := E)) dX7_shot_7 (fun H locs w => ?_)
  refine lv_aload_n hx hb dX7_shot_10 rfl (lv_at hl 0 rfl) ?_
  refine lv_iload hx hb dX7_shot_11 (lv_at hl 4 rfl) ?_
  refine r_put X w (wMd E a (u2 (u2 (u2 μ 9 2 bl) 9 3 di) 9 5 sn) sp) CL7 13 (by decide) wf_X7_83 0 rfl rfl rfl rfl (Nat.le_of_ble_eq_true rfl) (ax_93 (E := E)) dX7_shot_13 (fun H locs w => ?_)
  refine lv_aload_n hx hb dX7_shot_16 rfl (lv_at hl 0 rfl) ?_
  refine lv_iconst (v := 0) hx hb dX7_shot_17 (by decide) ?_
  refine r_put X w (wMd E a (u2 (u2 (u2 (u2 μ 9 2 bl) 9 3 di) 9 5 sn) 9 4 0) sp) CL7 12 (by decide) wf_X7_80 0 rfl rfl rfl rfl (Nat.le_of_ble_eq_true rfl) (ax_89 (E := E)) dX7_shot_18 (fun H locs w => ?_)
  refine lv_aload_n hx hb dX7_shot_21 rfl (lv_at hl 0 rfl) ?_
  refine lv_iload_n hx hb dX7_shot_22 rfl (lv_at hl 3 rfl) ?_
  refine lv_i2f hx hb dX7_shot_23 ?_
  refine r_ldcf X wk_X7_104 dX7_shot_24 ?_
  refine lv_fdiv hx hb dX7_shot_26 (gV_n32 (first_gV hg.1 hg.2)) ?_
  refine r_put X w (wMd E a (u2 (u2 (u2 (u2 μ 9 2 bl) 9 3 di) 9 5 sn) 9 4 0) (FP.fdiv (FP.i2f sg) 1092616192)) CL7 14 (by decide) wf_X7_66 0 rfl rfl rfl rfl (Nat.le_of_ble_eq_true rfl) (ax_87 (E := E)) dX7_shot_27 (fun H locs w => ?_)
  refine lv_aload_n hx hb dX7_shot_30 rfl (lv_at hl 0 rfl) ?_
  refine lv_bipush (v := (-5)) hx hb dX7_shot_31 (by decide) ?_
  refine r_put X w (wMd E a (u2 (u2 (u2 (u2 (u2 μ 9 2 bl) 9 3 di) 9 5 sn) 9 4 0) 9 6 (-5)) (FP.fdiv (FP.i2f sg) 1092616192)) CL7 15 (by decide) wf_X7_101 0 rfl rfl rfl rfl (Nat.le_of_ble_eq_true rfl) (ax_95 (E := E)) dX7_shot_33 (fun H locs w => ?_)
  refine lv_aload_n hx hb dX7_shot_36 rfl (lv_at hl 0 rfl) ?_
  refine lv_iconst (v := 0) hx hb dX7_shot_37 (by decide) ?_
  refine r_put X w (wMd E a (u2 (u2 (u2 (u2 (u2 (u2 μ 9 2 bl) 9 3 di) 9 5 sn) 9 4 0) 9 6 (-5)) 9 7 0) (FP.fdiv (FP.i2f sg) 1092616192)) CL7 16 (by decide) wf_X7_95 0 rfl rfl rfl rfl (Nat.le_of_ble_eq_true rfl) (ax_94 (E := E)) dX7_shot_38 (fun H locs w => ?_)
  refine lv_aload_n hx hb dX7_shot_41 rfl (lv_at hl 0 rfl) ?_
  refine lv_iconst (v := 0) hx hb dX7_shot_42 (by decide) ?_
  refine r_put X w (wMd E a (u2 (u2 (u2 (u2 (u2 (u2 (u2 μ 9 2 bl) 9 3 di) 9 5 sn) 9 4 0) 9 6 (-5)) 9 7 0) 9 8 0) (FP.fdiv (FP.i2f sg) 1092616192)) CL7 17 (by decide) wf_X7_89 0 rfl rfl rfl rfl (Nat.le_of_ble_eq_true rfl) (ax_90 (E := E)) dX7_shot_43 (fun H locs w => ?_)
  refine lv_aload_n hx hb dX7_shot_46 rfl (lv_at hl 0 rfl) ?_
  refine lv_iconst (v := 0) hx hb dX7_shot_47 (by decide) ?_
  refine r_put X w (wMd E a (u2 (u2 (u2 (u2 (u2 (u2 (u2 (u2 μ 9 2 bl) 9 3 di) 9 5 sn) 9 4 0) 9 6 (-5)) 9 7 0) 9 8 0) 9 9 0) (FP.fdiv (FP.i2f sg) 1092616192)) CL7 18 (by decide) wf_X7_92 0 rfl rfl rfl rfl (Nat.le_of_ble_eq_true rfl) (ax_91 (E := E)) dX7_shot_48 (fun H locs w => ?_)
  have loop : ∀ (n : Nat) (μ1 : N2) (sp1 : UInt32), JM μ1 sp1 → (μ1 9 6 = (-5) → mM μ1 sp1 < n) → mdN n μ1 sp1 = mdN 1000000 (shI μ bl di sn) (FP.fdiv (FP.i2f sg) 1092616192) → ∀ (H : Heap) (locs : List Loc), Wd E (hB (wMd E a μ sp)) s (wMd E a μ1 sp1) H locs → ∀ (ls : Array Slot), lv_has ls 7 [(0, .ref (a 0)), (1, .int bl), (2, .int di), (3, .int sg), (4, .int sn)] → W p l e { frames := 4, cells := 0, slots := 0, locals := 90 } s m (([.ref (a 0), .int bl, .int di, .int sg, .int sn] : List Value)).toArray below meth c H locs 0 0 (MQ below (QI E (wMd E a μ sp) (fX7_shot μ sp bl di sg sn).1 (wMd E a ((fX7_shot μ sp bl di sg sn).2.1) ((fX7_shot μ sp bl di sg sn).2.2))) (([.ref (a 0), .int bl, .int di, .int sg, .int sn] : List Value)).toArray s 0 0 (hB (wMd E a μ sp))) (F0 m 51 ls []) := by
    intro n
    induction n with
    | zero =>
      intro μ1 sp1 hJ hM hR H locs w ls hl
      refine lv_aload_n hx hb dX7_shot_51 rfl (lv_at hl 0 rfl) ?_
      refine r_get X w CL7 15 (by decide) wf_X7_101 0 rfl rfl dX7_shot_52 ?_
      refine lv_bipush (v := (-5)) hx hb dX7_shot_55 (by decide) ?_
      refine lv_icmp_ne (tgt := 150) hx hb dX7_shot_57 (by decide) (fun c57_1 => ?_) (fun c57_1 => ?_)
      · refine lv_aload_n hx hb dX7_shot_150 rfl (lv_at hl 0 rfl) ?_
        refine r_get X w CL7 15 (by decide) wf_X7_101 0 rfl rfl dX7_shot_151 ?_
        refine lv_bipush (v := (-5)) hx hb dX7_shot_154 (by decide) ?_
        refine lv_icmp_ne (tgt := 163) hx hb dX7_shot_156 (by decide) (fun _ => ?_) (fun h => absurd h c57_1)
        refine lv_aload_n hx hb dX7_shot_163 rfl (lv_at hl 0 rfl) ?_
        refine r_get X w CL7 0 (by decide) wf_X7_7 0 rfl rfl dX7_shot_164 ?_
        refine lv_bipush (v := 25) hx hb dX7_shot_167 (by decide) ?_
        refine lv_aload_n hx hb dX7_shot_169 rfl (lv_at hl 0 rfl) ?_
        refine r_get X w CL7 15 (by decide) wf_X7_101 0 rfl rfl dX7_shot_170 ?_
        refine lv_iadd hx hb dX7_shot_173 ?_
        refine r_iald X w 1 rfl (ix_v (hJ.2.2.2.2.2.2.resolve_left c57_1) (by decide) (by decide) (by decide)) dX7_shot_174 ?_
        have hq : fX7_shot μ sp bl di sg sn = (μ1 0 (25 + (μ1 9 6)).toNatClampNeg, μ1, sp1) := by have hq2 : (μ1, sp1) = mdN 1000000 (shI μ bl di sn) (FP.fdiv (FP.i2f sg) 1092616192) := hR; unfold fX7_shot; rw [← hq2]; simp only [if_neg c57_1]
        obtain ⟨h0_, h1_, h2_⟩ := tup3 hq
        rw [h0_, h1_, h2_]
        exact r_iret X w hr rfl dX7_shot_175
      · exact absurd (hM c57_1) (Nat.not_lt_zero _)
    | succ n ih =>
      intro μ1 sp1 hJ hM hR H locs w ls hl
      refine lv_aload_n hx hb dX7_shot_51 rfl (lv_at hl 0 rfl) ?_
      refine r_get X w CL7 15 (by decide) wf_X7_101 0 rfl rfl dX7_shot_52 ?_
      refine lv_bipush (v := (-5)) hx hb dX7_shot_55 (by decide) ?_
      refine lv_icmp_ne (tgt := 150) hx hb dX7_shot_57 (by decide) (fun c57_2 => ?_) (fun c57_2 => ?_)
      · refine lv_aload_n hx hb dX7_shot_150 rfl (lv_at hl 0 rfl) ?_
        refine r_get X w CL7 15 (by decide) wf_X7_101 0 rfl rfl dX7_shot_151 ?_
        refine lv_bipush (v := (-5)) hx hb dX7_shot_154 (by decide) ?_
        refine lv_icmp_ne (tgt := 163) hx hb dX7_shot_156 (by decide) (fun _ => ?_) (fun h => absurd h c57_2)
        refine lv_aload_n hx hb dX7_shot_163 rfl (lv_at hl 0 rfl) ?_
        refine r_get X w CL7 0 (by decide) wf_X7_7 0 rfl rfl dX7_shot_164 ?_
        refine lv_bipush (v := 25) hx hb dX7_shot_167 (by decide) ?_
        refine lv_aload_n hx hb dX7_shot_169 rfl (lv_at hl 0 rfl) ?_
        refine r_get X w CL7 15 (by decide) wf_X7_101 0 rfl rfl dX7_shot_170 ?_
        refine lv_iadd hx hb dX7_shot_173 ?_
        refine r_iald X w 1 rfl (ix_v (hJ.2.2.2.2.2.2.resolve_left c57_2) (by decide) (by decide) (by decide)) dX7_shot_174 ?_
        have hq : fX7_shot μ sp bl di sg sn = (μ1 0 (25 + (μ1 9 6)).toNatClampNeg, μ1, sp1) := by have hq2 : (μ1, sp1) = mdN 1000000 (shI μ bl di sn) (FP.fdiv (FP.i2f sg) 1092616192) := (by rw [← hR]; simp only [mdN, if_neg c57_2]); unfold fX7_shot; rw [← hq2]; simp only [if_neg c57_2]
        obtain ⟨h0_, h1_, h2_⟩ := tup3 hq
        rw [h0_, h1_, h2_]
        exact r_iret X w hr rfl dX7_shot_175
      · refine lv_aload_n hx hb dX7_shot_60 rfl (lv_at hl 0 rfl) ?_
        refine r_get X w CL7 14 (by decide) wf_X7_66 0 rfl rfl dX7_shot_61 ?_
        refine lv_fconst1 hx hb dX7_shot_64 ?_
        refine lv_fcmp hx hb dX7_shot_65 ?_
        refine lv_if_lt (tgt := 150) hx hb dX7_shot_66 (by decide) (fun c66_3 => ?_) (fun c66_3 => ?_)
        · refine lv_aload_n hx hb dX7_shot_150 rfl (lv_at hl 0 rfl) ?_
          refine r_get X w CL7 15 (by decide) wf_X7_101 0 rfl rfl dX7_shot_151 ?_
          refine lv_bipush (v := (-5)) hx hb dX7_shot_154 (by decide) ?_
          refine lv_icmp_ne (tgt := 163) hx hb dX7_shot_156 (by decide) (fun h => absurd c57_2 h) (fun _ => ?_)
          refine lv_iconst (v := 0) hx hb dX7_shot_159 (by decide) ?_
          refine lv_goto (tgt := 175) hx hb dX7_shot_160 (by decide) ?_
          have hq : fX7_shot μ sp bl di sg sn = (0, μ1, sp1) := by have hq2 : (μ1, sp1) = mdN 1000000 (shI μ bl di sn) (FP.fdiv (FP.i2f sg) 1092616192) := (by rw [← hR]; simp only [mdN, if_pos c57_2, if_pos c66_3]); unfold fX7_shot; rw [← hq2]; simp only [if_pos c57_2]
          obtain ⟨h0_, h1_, h2_⟩ := tup3 hq
          rw [h0_, h1_, h2_]
          exact r_iret X w hr rfl dX7_shot_175
        · refine lv_aload_n hx hb dX7_shot_69 rfl (lv_at hl 0 rfl) ?_
          refine lv_aload_n hx hb dX7_shot_70 rfl (lv_at hl 0 rfl) ?_
          refine r_get X w CL7 0 (by decide) wf_X7_7 0 rfl rfl dX7_shot_71 ?_
          refine lv_bipush (v := 13) hx hb dX7_shot_74 (by decide) ?_
          refine lv_aload_n hx hb dX7_shot_76 rfl (lv_at hl 0 rfl) ?_
          refine r_get X w CL7 10 (by decide) wf_X7_71 0 rfl rfl dX7_shot_77 ?_
          refine lv_iadd hx hb dX7_shot_80 ?_
          refine r_iald X w 1 rfl (ix_v hJ.2.2.2.1 (by decide) (by decide) (by decide)) dX7_shot_81 ?_
          refine lv_aload_n hx hb dX7_shot_82 rfl (lv_at hl 0 rfl) ?_
          refine r_get X w CL7 11 (by decide) wf_X7_74 0 rfl rfl dX7_shot_83 ?_
          refine r_ci w (r_runV (As := [.int (μ1 0 (13 + (μ1 9 2)).toNatClampNeg), .int (μ1 9 3)]) (rest := []) X w (kX7_ahead l E a μ1 sp1 (μ1 0 (13 + (μ1 9 2)).toNatClampNeg) (μ1 9 3) (hJ.2.2.2.2.2.1 c57_2)) ck_X7_86 ⟨Nat.le_of_ble_eq_true rfl, Nat.le_of_ble_eq_true rfl⟩ [0, 1, 2, 3, 4, 5, 6, 7, 8, 9] (hc_81 (E := E)) (by decide +kernel) (k0 := 0) CL7 rfl hl.1 (Nat.le_of_ble_eq_true rfl) rfl dX7_shot_86 ⟨Nat.le_of_ble_eq_true rfl, Nat.le_of_ble_eq_true rfl⟩) (wMd E a μ1 sp1) [0, 1, 2, 3, 4, 5, 6, 7, 8, 9] (hc_81 (E := E)) (by decide +kernel) (ha_81 (E := E)) (hw_81 (E := E)) (fun H locs w => ?_)
          refine lv_istore (lv' := [(5, .int (fX7_ahead μ1 sp1 (μ1 0 (13 + (μ1 9 2)).toNatClampNeg) (μ1 9 3))), (0, .ref (a 0)), (1, .int bl), (2, .int di), (3, .int sg), (4, .int sn)]) hx hb dX7_shot_89 hl (by decide) rfl (fun ls hl => ?_)
          refine lv_iload hx hb dX7_shot_91 (lv_at hl 0 rfl) ?_
          refine lv_bipush (v := (-5)) hx hb dX7_shot_93 (by decide) ?_
          refine lv_icmp_ne (tgt := 103) hx hb dX7_shot_95 (by decide) (fun c95_4 => ?_) (fun c95_4 => ?_)
          · refine lv_aload_n hx hb dX7_shot_103 rfl (lv_at hl 1 rfl) ?_
            refine lv_iload hx hb dX7_shot_104 (lv_at hl 0 rfl) ?_
            refine r_ci w (r_runV (As := [.int (fX7_ahead μ1 sp1 (μ1 0 (13 + (μ1 9 2)).toNatClampNeg) (μ1 9 3))]) (rest := []) X w (kX7_ballOn l E a μ1 sp1 (fX7_ahead μ1 sp1 (μ1 0 (13 + (μ1 9 2)).toNatClampNeg) (μ1 9 3)) hJ.1.1) ck_X7_105 ⟨Nat.le_of_ble_eq_true rfl, Nat.le_of_ble_eq_true rfl⟩ [0, 1, 2, 3, 4, 5, 6, 7, 8, 9] (hc_81 (E := E)) (by decide +kernel) (k0 := 0) CL7 rfl hl.1 (Nat.le_of_ble_eq_true rfl) rfl dX7_shot_106 ⟨Nat.le_of_ble_eq_true rfl, Nat.le_of_ble_eq_true rfl⟩) (wMd E a μ1 sp1) [0, 1, 2, 3, 4, 5, 6, 7, 8, 9] (hc_81 (E := E)) (by decide +kernel) (ha_81 (E := E)) (hw_81 (E := E)) (fun H locs w => ?_)
            refine lv_istore (lv' := [(6, .int (fX7_ballOn μ1 sp1 (fX7_ahead μ1 sp1 (μ1 0 (13 + (μ1 9 2)).toNatClampNeg) (μ1 9 3)))), (5, .int (fX7_ahead μ1 sp1 (μ1 0 (13 + (μ1 9 2)).toNatClampNeg) (μ1 9 3))), (0, .ref (a 0)), (1, .int bl), (2, .int di), (3, .int sg), (4, .int sn)]) hx hb dX7_shot_109 hl (by decide) rfl (fun ls hl => ?_)
            refine lv_iload hx hb dX7_shot_111 (lv_at hl 1 rfl) ?_
            refine lv_bipush (v := (-5)) hx hb dX7_shot_113 (by decide) ?_
            refine lv_icmp_ne (tgt := 125) hx hb dX7_shot_115 (by decide) (fun _ => ?_) (fun h => absurd h c95_4)
            refine lv_iload hx hb dX7_shot_125 (lv_at hl 0 rfl) ?_
            refine lv_bipush (v := (-5)) hx hb dX7_shot_127 (by decide) ?_
            refine lv_icmp_eq (tgt := 141) hx hb dX7_shot_129 (by decide) (fun c129_5 => ?_) (fun c129_5 => ?_)
            · refine lv_aload_n hx hb dX7_shot_141 rfl (lv_at hl 2 rfl) ?_
              refine lv_iload hx hb dX7_shot_142 (lv_at hl 1 rfl) ?_
              refine r_cv w (r_runV (As := [.int (fX7_ahead μ1 sp1 (μ1 0 (13 + (μ1 9 2)).toNatClampNeg) (μ1 9 3))]) (rest := []) X w (kX7_step l E a μ1 sp1 (fX7_ahead μ1 sp1 (μ1 0 (13 + (μ1 9 2)).toNatClampNeg) (μ1 9 3)) hJ.2.2.2.1 (ahead_in hJ.2.1 (hJ.2.2.2.2.2.1 c57_2) hJ.2.2.2.2.1 c95_4) ((cmp_gV hJ.2.2.1).mp c66_3) (hJ.1.2.2.1 0 (by decide))) ck_X7_115 ⟨Nat.le_of_ble_eq_true rfl, Nat.le_of_ble_eq_true rfl⟩ [0, 1, 2, 3, 4, 5, 6, 7, 8, 9] (hc_81 (E := E)) (by decide +kernel) (k0 := 0) CL7 rfl hl.1 (Nat.le_of_ble_eq_true rfl) rfl dX7_shot_144 ⟨Nat.le_of_ble_eq_true rfl, Nat.le_of_ble_eq_true rfl⟩) (wMd E a ((fX7_step μ1 sp1 (fX7_ahead μ1 sp1 (μ1 0 (13 + (μ1 9 2)).toNatClampNeg) (μ1 9 3))).1) ((fX7_step μ1 sp1 (fX7_ahead μ1 sp1 (μ1 0 (13 + (μ1 9 2)).toNatClampNeg) (μ1 9 3))).2)) [0, 1, 2, 3, 4, 5, 6, 7, 8, 9] (hc_81 (E := E)) (by decide +kernel) (ha_81 (E := E)) (hw_81 (E := E)) (fun H locs w => ?_)
              refine lv_goto (tgt := 51) hx hb dX7_shot_147 (by decide) ?_
              have eB : mdB μ1 sp1 = fX7_step μ1 sp1 (fX7_ahead μ1 sp1 (μ1 0 (13 + (μ1 9 2)).toNatClampNeg) (μ1 9 3)) := by unfold mdB; rw [if_neg c95_4, if_pos c129_5]
              exact ih _ _ (eB ▸ (mdB_J hJ c57_2 ((cmp_gV hJ.2.2.1).mp c66_3)).1) (fun h => Nat.lt_of_lt_of_le (eB ▸ (mdB_J hJ c57_2 ((cmp_gV hJ.2.2.1).mp c66_3)).2 (by rw [eB]; exact h)) (Nat.le_of_lt_succ (hM c57_2))) (by rw [← hR]; simp only [mdN, if_pos c57_2, if_neg c66_3, eB]) _ _ w ls (lv_sub hl [2, 3, 4, 5, 6] rfl)
            · refine lv_aload_n hx hb dX7_shot_132 rfl (lv_at hl 2 rfl) ?_
              refine lv_iload hx hb dX7_shot_133 (lv_at hl 0 rfl) ?_
              refine r_cv w (r_runV (As := [.int (fX7_ballOn μ1 sp1 (fX7_ahead μ1 sp1 (μ1 0 (13 + (μ1 9 2)).toNatClampNeg) (μ1 9 3)))]) (rest := []) X w (kX7_hit l E a μ1 sp1 (fX7_ballOn μ1 sp1 (fX7_ahead μ1 sp1 (μ1 0 (13 + (μ1 9 2)).toNatClampNeg) (μ1 9 3))) hJ.2.2.2.1 ((cmp_gV hJ.2.2.1).mp c66_3) (hJ.1.2.2.1 2 (by decide))) ck_X7_111 ⟨Nat.le_of_ble_eq_true rfl, Nat.le_of_ble_eq_true rfl⟩ [0, 1, 2, 3, 4, 5, 6, 7, 8, 9] (hc_81 (E := E)) (by decide +kernel) (k0 := 0) CL7 rfl hl.1 (Nat.le_of_ble_eq_true rfl) rfl dX7_shot_135 ⟨Nat.le_of_ble_eq_true rfl, Nat.le_of_ble_eq_true rfl⟩) (wMd E a ((fX7_hit μ1 sp1 (fX7_ballOn μ1 sp1 (fX7_ahead μ1 sp1 (μ1 0 (13 + (μ1 9 2)).toNatClampNeg) (μ1 9 3)))).1) ((fX7_hit μ1 sp1 (fX7_ballOn μ1 sp1 (fX7_ahead μ1 sp1 (μ1 0 (13 + (μ1 9 2)).toNatClampNeg) (μ1 9 3)))).2)) [0, 1, 2, 3, 4, 5, 6, 7, 8, 9] (hc_81 (E := E)) (by decide +kernel) (ha_81 (E := E)) (hw_81 (E := E)) (fun H locs w => ?_)
              refine lv_goto (tgt := 147) hx hb dX7_shot_138 (by decide) ?_
              refine lv_goto (tgt := 51) hx hb dX7_shot_147 (by decide) ?_
              have eB : mdB μ1 sp1 = fX7_hit μ1 sp1 (fX7_ballOn μ1 sp1 (fX7_ahead μ1 sp1 (μ1 0 (13 + (μ1 9 2)).toNatClampNeg) (μ1 9 3))) := by unfold mdB; rw [if_neg c95_4, if_neg c129_5]
              exact ih _ _ (eB ▸ (mdB_J hJ c57_2 ((cmp_gV hJ.2.2.1).mp c66_3)).1) (fun h => Nat.lt_of_lt_of_le (eB ▸ (mdB_J hJ c57_2 ((cmp_gV hJ.2.2.1).mp c66_3)).2 (by rw [eB]; exact h)) (Nat.le_of_lt_succ (hM c57_2))) (by rw [← hR]; simp only [mdN, if_pos c57_2, if_neg c66_3, eB]) _ _ w ls (lv_sub hl [2, 3, 4, 5, 6] rfl)
          · refine lv_bipush (v := (-5)) hx hb dX7_shot_98 (by decide) ?_
            refine lv_goto (tgt := 109) hx hb dX7_shot_100 (by decide) ?_
            refine lv_istore (lv' := [(6, .int (-5)), (5, .int (fX7_ahead μ1 sp1 (μ1 0 (13 + (μ1 9 2)).toNatClampNeg) (μ1 9 3))), (0, .ref (a 0)), (1, .int bl), (2, .int di), (3, .int sg), (4, .int sn)]) hx hb dX7_shot_109 hl (by decide) rfl (fun ls hl => ?_)
            refine lv_iload hx hb dX7_shot_111 (lv_at hl 1 rfl) ?_
            refine lv_bipush (v := (-5)) hx hb dX7_shot_113 (by decide) ?_
            refine lv_icmp_ne (tgt := 125) hx hb dX7_shot_115 (by decide) (fun h => absurd c95_4 h) (fun _ => ?_)
            refine lv_aload_n hx hb dX7_shot_118 rfl (lv_at hl 2 rfl) ?_
            refine r_cv w (r_runV (As := []) (rest := []) X w (kX7_bank l E a μ1 sp1 hJ.2.2.2.1 (hJ.2.2.2.2.2.1 c57_2) ((cmp_gV hJ.2.2.1).mp c66_3) (hJ.1.2.2.1 1 (by decide))) ck_X7_108 ⟨Nat.le_of_ble_eq_true rfl, Nat.le_of_ble_eq_true rfl⟩ [0, 1, 2, 3, 4, 5, 6, 7, 8, 9] (hc_81 (E := E)) (by decide +kernel) (k0 := 0) CL7 rfl hl.1 (Nat.le_of_ble_eq_true rfl) rfl dX7_shot_119 ⟨Nat.le_of_ble_eq_true rfl, Nat.le_of_ble_eq_true rfl⟩) (wMd E a ((fX7_bank μ1 sp1).1) ((fX7_bank μ1 sp1).2)) [0, 1, 2, 3, 4, 5, 6, 7, 8, 9] (hc_81 (E := E)) (by decide +kernel) (ha_81 (E := E)) (hw_81 (E := E)) (fun H locs w => ?_)
            refine lv_goto (tgt := 147) hx hb dX7_shot_122 (by decide) ?_
            refine lv_goto (tgt := 51) hx hb dX7_shot_147 (by decide) ?_
            have eB : mdB μ1 sp1 = fX7_bank μ1 sp1 := by unfold mdB; rw [if_pos c95_4]
            exact ih _ _ (eB ▸ (mdB_J hJ c57_2 ((cmp_gV hJ.2.2.1).mp c66_3)).1) (fun h => Nat.lt_of_lt_of_le (eB ▸ (mdB_J hJ c57_2 ((cmp_gV hJ.2.2.1).mp c66_3)).2 (by rw [eB]; exact h)) (Nat.le_of_lt_succ (hM c57_2))) (by rw [← hR]; simp only [mdN, if_pos c57_2, if_neg c66_3, eB]) _ _ w ls (lv_sub hl [2, 3, 4, 5, 6] rfl)
  exact loop 1000000 _ _ (JM0 hA hTb hbl hd hcb hg) (fun _ => mM_lt (gV_gW (first_gV hg.1 hg.2))) rfl _ _ w ls (lv_sub hl [0, 1, 2, 3, 4] rfl)
