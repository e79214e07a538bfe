/-! p24: an event of a shot on both felts (wip/p24/p32.lean) -/
/-- both walkers -/
def DP (d e : N1) (c w : Nat) : Prop := dW d c w ∧ dW e (60 - c) (rvN w)
theorem DP_start {d e : N1} {c w : Nat} (hc : c < 61) : DP (fX5_startAt d (nI c) (nI w)) (fX5_startAt e (nI (60 - c)) (nI (rvN w))) c w :=
  ⟨dW_start hc, dW_start (by omega)⟩
theorem DP_ahead {d e : N1} {c w : Nat} (h : DP d e c w) (hc : c < 61) (hw : w < 6) : fX5_cellAhead d = ahC (nI c) (nI w) ∧ fX5_cellAhead e = rC (ahC (nI c) (nI w)) :=
  ⟨dW_ahead h.1 hc hw, (dW_ahead h.2 (by omega) (rv_lt w)).trans (rt_ah ⟨c, hc⟩ ⟨w, hw⟩)⟩
theorem ah_or {c w : Nat} (hc : c < 61) (hw : w < 6) : vp_in (ahC (nI c) (nI w)) 61 ∨ ahC (nI c) (nI w) = (-5) := (fin_ah ⟨c, hc⟩ ⟨w, hw⟩).symm
theorem DP_step {d e : N1} {c w b : Nat} (h : DP d e c w) (hc : c < 61) (hw : w < 6) (hb : b < 61) (ha : ahC (nI c) (nI w) = nI b) : DP (fX5_stepAhead d) (fX5_stepAhead e) b w := by
  have h1 := dW_step h.1 hc hw (by rw [ha]; exact nI_no (by omega))
  have ea : ahC (nI (60 - c)) (nI (rvN w)) = nI (60 - b) := (rt_ah ⟨c, hc⟩ ⟨w, hw⟩).trans (by rw [ha, rC_c hb])
  have h2 := dW_step h.2 (show 60 - c < 61 by omega) (rv_lt w) (by rw [ea]; exact nI_no (by omega))
  rw [ha, nI_c (by omega)] at h1
  rw [ea, nI_c (by omega)] at h2
  exact ⟨h1, h2⟩
theorem DP_bank {d e : N1} {c w : Nat} (h : DP d e c w) (hc : c < 61) (hw : w < 6) (ha : ahC (nI c) (nI w) = (-5)) : ∃ v, v < 6 ∧ DP (fX5_turnAtBank d) (fX5_turnAtBank e) c v := by
  have h1 := dW_bank h.1 hc hw ha
  have ea : ahC (nI (60 - c)) (nI (rvN w)) = (-5) := (rt_ah ⟨c, hc⟩ ⟨w, hw⟩).trans (by rw [ha, rC_5])
  have h2 := dW_bank h.2 (show 60 - c < 61 by omega) (rv_lt w) ea
  have et := (rt_tu ⟨c, hc⟩ ⟨w, hw⟩).resolve_left (fun q => q ha)
  rw [et, nI_c (Nat.lt_trans (rv_lt _) (by decide))] at h2
  exact ⟨_, (nI_back (tu_vin hc hw ha) (by decide)).2, h1, h2⟩
theorem DP_open {d e : N1} {c w : Nat} (h : DP d e c w) (hc : c < 61) (hw : w < 6) : ∃ v, v < 6 ∧ DP (fX5_turnOnIfOpen d) (fX5_turnOnIfOpen e) c v := by
  have h1 := dW_open h.1 hc hw
  have h2 := dW_open h.2 (show 60 - c < 61 by omega) (rv_lt w)
  obtain ⟨b1, b2⟩ := nI_back (nx_vin hw) (by decide)
  have en := rt_nx ⟨w, hw⟩
  have ea : ahC (nI (60 - c)) (nxC (nI (rvN w))) = rC (ahC (nI c) (nxC (nI w))) := by
    rw [en]
    refine (rt_ah ⟨c, hc⟩ ⟨_, b2⟩).trans ?_
    rw [b1]
  have eo : vp_in (ahC (nI c) (nxC (nI w))) 61 ∨ ahC (nI c) (nxC (nI w)) = (-5) := by
    rw [← b1]
    exact ah_or hc b2
  rw [ea] at h2
  by_cases h5 : ahC (nI c) (nxC (nI w)) = (-5)
  · rw [if_pos h5, nI_c (by omega)] at h1
    rw [if_pos ((rC_no eo).mpr h5), nI_c (Nat.lt_trans (rv_lt _) (by decide))] at h2
    exact ⟨w, hw, h1, h2⟩
  · rw [if_neg h5] at h1
    rw [if_neg (fun q => h5 ((rC_no eo).mp q)), en, nI_c (Nat.lt_trans (rv_lt _) (by decide))] at h2
    exact ⟨_, b2, h1, h2⟩
/-- rows that only grow -/
def grw (f0 : N1) (n : Nat) (f : N1) : Prop := (∀ j, j < 13 ∨ 25 ≤ j ∧ j < 37 → f j = f0 j) ∧ (∀ j, 37 ≤ j → j < 73 → (f0 j).toInt ≤ (f j).toInt ∧ (f j).toInt ≤ (f0 j).toInt + n) ∧ ∀ b : Nat, b < 12 → (f0 12).toInt ≤ (b : Int) → f (37 + b) = f0 (37 + b)
def bnd (f : N1) (M : Int) : Prop := ∀ j, 37 ≤ j → j < 73 → 0 ≤ (f j).toInt ∧ (f j).toInt ≤ M
theorem grw_0 {f : N1} : grw f 0 f := ⟨fun _ _ => rfl, fun j _ _ => by omega, fun _ _ _ => rfl⟩
theorem inc_i {x : Int32} (h : 0 ≤ x.toInt) (h2 : x.toInt ≤ 2000000000) : (x + 1).toInt = x.toInt + 1 := by
  have h1 : (1 : Int32).toInt = 1 := rfl
  rw [ti_add (by omega) (by omega), h1]
theorem grw_inc {f0 f : N1} {n j : Nat} (hg : grw f0 n f) (hb : bnd f0 1000000000) (hn : n ≤ 1000000) (h1 : 37 ≤ j) (h2 : j < 73) (h3 : ∀ b : Nat, b < 12 → (f0 12).toInt ≤ (b : Int) → ¬ 37 + b = j) : grw f0 (n + 1) (upd f j (f j + 1)) := by
  refine ⟨fun i hi => ?_, fun i hi hi2 => ?_, fun b hb hb2 => ?_⟩
  · rw [upd_ne (by omega)]
    exact hg.1 i hi
  · have a := hg.2.1 i hi hi2
    have b := hb i hi hi2
    by_cases h4 : i = j
    · subst h4
      rw [upd_at, inc_i (by omega) (by omega)]
      omega
    · rw [upd_ne h4]
      omega
  · rw [upd_ne (h3 b hb hb2)]
    exact hg.2.2 b hb hb2
theorem grw_cell {f0 f : N1} {n k : Nat} {x : Int32} (hg : grw f0 n f) (hk : k < 12) : grw f0 n (upd f (13 + k) x) := by
  refine ⟨fun i hi => ?_, fun i hi hi2 => ?_, fun b hb hb2 => ?_⟩
  · rw [upd_ne (by omega)]
    exact hg.1 i hi
  · rw [upd_ne (by omega)]
    exact hg.2.1 i hi hi2
  · rw [upd_ne (by omega)]
    exact hg.2.2 b hb hb2
/-- in a shot, on both felts: begun at f0, after n events -/
def QR (f0 : N1) (n : Nat) (z d e f : N1) : Prop := gF f ∧ gP f ∧ grw f0 n f ∧ ∃ k, k < 12 ∧ z 0 = nI k ∧ (k : Int) < (f 12).toInt ∧
  ((z 6 = (-5) ∧ (∀ b, b < 12 → (f (13 + b) = (-5) ↔ f0 (13 + b) = (-5))) ∧ ∃ c w, c < 61 ∧ w < 6 ∧ f (13 + k) = nI c ∧ DP d e c w) ∨
   (z 6 = nI k ∧ f (13 + k) = (-5) ∧ ¬ f0 (13 + k) = (-5) ∧ ∀ b, b < 12 → ¬ b = k → (f (13 + b) = (-5) ↔ f0 (13 + b) = (-5))))
theorem gP_upd {f : N1} {j : Nat} {x : Int32} (h : gP f) (hj : ¬ j = 3) : gP (upd f j x) := by
  unfold gP
  rw [upd_ne (fun q => hj q.symm)]
  exact h
