/-! p24: a felt turned half around (wip/p24/p31.lean) -/
/-- a cell on the turned felt -/
def rC (x : Int32) : Int32 := if x < 0 then x else if (60 : Int32) < x then x else 60 - x
/-- a direction, a corner on the turned felt -/
def rvN (w : Nat) : Nat := (w + 3) % 6
/-- open pots on the turned felt -/
def rP (x : Int32) : Int32 := (x >>> ((3 : Int32) &&& 31)) ||| ((x &&& 7) <<< ((3 : Int32) &&& 31))
/-- the turned felt -/
def rt (f : N1) : N1 := fun j => if j = 3 then rP (f 3) else if 13 ≤ j ∧ j < 25 then rC (f j) else f j
def gP (f : N1) : Prop := vp_in (f 3) 64
theorem rC_5 : rC (-5) = (-5) := by decide +kernel
theorem rC_c {c : Nat} (h : c < 61) : rC (nI c) = nI (60 - c) := by
  have h2 : ∀ c : Fin 61, rC (nI c.val) = nI (60 - c.val) := by decide +kernel
  exact h2 ⟨c, h⟩
theorem rv_lt (w : Nat) : rvN w < 6 := Nat.mod_lt _ (by decide)
theorem rt_cell {f : N1} {k : Nat} (h : k < 12) : rt f (13 + k) = rC (f (13 + k)) := by
  unfold rt
  rw [if_neg (by omega), if_pos ⟨by omega, by omega⟩]
theorem rt_3 {f : N1} : rt f 3 = rP (f 3) := by
  unfold rt
  rw [if_pos rfl]
theorem rt_oth {f : N1} {j : Nat} (h : j < 3 ∨ 3 < j ∧ j < 13 ∨ 25 ≤ j) : rt f j = f j := by
  unfold rt
  rw [if_neg (by omega), if_neg (by omega)]
theorem rt_upd {f : N1} {j : Nat} {x : Int32} (h : j < 3 ∨ 3 < j ∧ j < 13 ∨ 25 ≤ j) : rt (upd f j x) = upd (rt f) j x := by
  funext i
  by_cases hi : i = j
  · rw [hi, upd_at, rt_oth h, upd_at]
  · rw [upd_ne hi]
    unfold rt
    rw [upd_ne hi, upd_ne (show ¬ 3 = j by omega)]
theorem rt_updc {f : N1} {k : Nat} {x : Int32} (h : k < 12) : rt (upd f (13 + k) x) = upd (rt f) (13 + k) (rC x) := by
  funext i
  by_cases hi : i = 13 + k
  · rw [hi, upd_at, rt_cell h, upd_at]
  · rw [upd_ne hi]
    unfold rt
    rw [upd_ne hi, upd_ne (show ¬ 3 = 13 + k by omega)]
theorem rt_upd3 {f : N1} {x : Int32} : rt (upd f 3 x) = upd (rt f) 3 (rP x) := by
  funext i
  by_cases hi : i = 3
  · rw [hi, upd_at, rt_3, upd_at]
  · rw [upd_ne hi]
    unfold rt
    rw [if_neg hi, if_neg hi, upd_ne hi]
/-! the felt's facts -/
theorem rt_ah : ∀ c : Fin 61, ∀ w : Fin 6, ahC (nI (60 - c.val)) (nI (rvN w.val)) = rC (ahC (nI c.val) (nI w.val)) := by decide +kernel
theorem rt_tu : ∀ c : Fin 61, ∀ w : Fin 6, ¬ ahC (nI c.val) (nI w.val) = (-5) ∨ tuC (nI (60 - c.val)) (nI (rvN w.val)) = nI (rvN (tuC (nI c.val) (nI w.val)).toNatClampNeg) := by decide +kernel
theorem rt_nx : ∀ w : Fin 6, nxC (nI (rvN w.val)) = nI (rvN (nxC (nI w.val)).toNatClampNeg) := by decide +kernel
theorem rt_co : ∀ c : Fin 61, (coC (nI c.val) = (-5) ∧ coC (nI (60 - c.val)) = (-5)) ∨ (∃ k : Fin 6, coC (nI c.val) = nI k.val ∧ coC (nI (60 - c.val)) = nI (rvN k.val)) := by decide +kernel
theorem rt_pot : ∀ o : Fin 64, ∀ k : Fin 6, ((rP (nI o.val)) >>> ((nI (rvN k.val)) &&& 31)) &&& 1 = ((nI o.val) >>> ((nI k.val) &&& 31)) &&& 1 := by decide +kernel
theorem rt_pots : ∀ o : Fin 64, (¬ (rP (nI o.val) < 0 ∨ 64 ≤ (rP (nI o.val)).toNatClampNeg)) ∧ rP (rP (nI o.val)) = nI o.val := by decide +kernel
theorem rt_open {f : N1} {c : Nat} (hp : gP f) (hc : c < 61) : fX4_isOpenPot (cls (rt f)) (nI (60 - c)) = fX4_isOpenPot (cls f) (nI c) := by
  obtain ⟨o, ho, e⟩ := vin_nI hp
  rw [pot_cl (by omega), pot_cl hc, rt_3, e]
  rcases rt_co ⟨c, hc⟩ with ⟨h1, h2⟩ | ⟨k, h1, h2⟩
  · rw [if_pos h1, if_pos h2]
  · rw [h1, h2, rt_pot ⟨o, ho⟩ k, if_neg (fun q => nI_no (show rvN k.val < 1000 from Nat.lt_trans (rv_lt _) (by decide)) q), if_neg (fun q => nI_no (show k.val < 1000 by omega) q)]
theorem rC_iff {x : Int32} {c : Nat} (hx : vp_in x 61 ∨ x = (-5)) (hc : c < 61) : rC x = nI (60 - c) ↔ x = nI c := by
  rcases hx with h | h
  · obtain ⟨k, hk, rfl⟩ := vin_nI h
    rw [rC_c hk]
    constructor
    · intro q
      have := nI_inj (show 60 - k < 1000 by omega) (show 60 - c < 1000 by omega) q
      rw [show k = c by omega]
    · intro q
      have := nI_inj (show k < 1000 by omega) (show c < 1000 by omega) q
      rw [this]
  · rw [h, rC_5]
    constructor
    · intro q; exact absurd q.symm (nI_no (by omega))
    · intro q; exact absurd q.symm (nI_no (by omega))
theorem rC_no {x : Int32} (hx : vp_in x 61 ∨ x = (-5)) : rC x = (-5) ↔ x = (-5) := by
  rcases hx with h | h
  · obtain ⟨k, hk, rfl⟩ := vin_nI h
    rw [rC_c hk]
    exact ⟨fun q => absurd q (nI_no (by omega)), fun q => absurd q (nI_no (by omega))⟩
  · rw [h, rC_5]
theorem rC_in {x : Int32} (hx : vp_in x 61 ∨ x = (-5)) : vp_in (rC x) 61 ∨ rC x = (-5) := by
  rcases hx with h | h
  · obtain ⟨k, hk, rfl⟩ := vin_nI h
    rw [rC_c hk]
    exact Or.inl (vp_in_nI (by omega) (by decide))
  · rw [h, rC_5]
    exact Or.inr rfl
theorem rC_inj {x y : Int32} (hx : vp_in x 61 ∨ x = (-5)) (hy : vp_in y 61 ∨ y = (-5)) (h : rC x = rC y) : x = y := by
  rcases hx with h1 | h1
  · obtain ⟨k, hk, rfl⟩ := vin_nI h1
    rw [rC_c hk] at h
    exact ((rC_iff hy hk).mp h.symm).symm
  · rw [h1, rC_5] at h
    rw [h1, (rC_no hy).mp h.symm]
theorem rt_bo {f : N1} {c : Nat} (hF : gF f) (hc : c < 61) : bo (rt f) (60 - c) = bo f c := by
  obtain ⟨hA, hD, hR, -⟩ := hF
  have hD2 : gD (rt f) := by
    intro a b ha hb h
    rw [rt_cell ha, rt_cell hb] at h
    have := rC_inj (hA.2.1 a ha) (hA.2.1 b hb) h
    rcases hD a b ha hb this with h2 | h2
    · rw [rt_cell ha, h2]
      exact Or.inl rC_5
    · exact Or.inr h2
  rcases bo_spec f c with ⟨h1, h2⟩ | ⟨j, h1, h2, h3⟩
  · rw [h1]
    refine bo_non (fun j hj => ?_)
    rw [rt_cell hj]
    exact fun q => h2 j hj ((rC_iff (hA.2.1 j hj) hc).mp q)
  · rw [h2]
    refine bo_one hD2 (by omega) h1 ?_
    rw [rt_cell h1]
    exact (rC_iff (hA.2.1 j h1) hc).mpr h3
theorem rt_gF {f : N1} (hF : gF f) : gF (rt f) := by
  obtain ⟨hA, hD, hR, hU⟩ := hF
  refine ⟨⟨?_, fun b hb => ?_, trivial⟩, fun a b ha hb h => ?_, fun b hb h => ?_, ?_⟩
  · rw [rt_oth (by omega)]
    exact hA.1
  · rw [rt_cell hb]
    exact rC_in (hA.2.1 b hb)
  · rw [rt_cell ha, rt_cell hb] at h
    rcases hD a b ha hb (rC_inj (hA.2.1 a ha) (hA.2.1 b hb) h) with h2 | h2
    · rw [rt_cell ha, h2]
      exact Or.inl rC_5
    · exact Or.inr h2
  · rw [rt_oth (by omega)] at h
    rw [rt_cell hb, hR b hb h]
    exact rC_5
  · unfold gU
    rw [rt_oth (by omega)]
    exact hU
