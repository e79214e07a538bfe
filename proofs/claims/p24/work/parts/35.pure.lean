/-! p24: what stands between calls; put (wip/p24/p35.py, p35.lean) -/
theorem toI {k : Nat} (h : k < 1000) : (nI k).toInt = (k : Int) := Int32.toInt_ofNat_of_lt (show k < 2147483648 by omega)
theorem of_toI {x : Int32} {k : Nat} (hk : k < 1000) (h : x.toInt = (k : Int)) : x = nI k := Int32.toInt_inj.mp (h.trans (toI hk).symm)
theorem up_ne {α : Type} {η : Nat → α} {i j : Nat} {x : α} (h : ¬ i = j) : va_up η j x i = η i := by simp [va_up, h]
theorem up_at {α : Type} {η : Nat → α} {j : Nat} {x : α} : va_up η j x j = x := by simp [va_up]
theorem bn_iff {bl : Int32} : fX4_isBallNumber bl = 0 ↔ (bl.toInt < 0 ∨ 11 < bl.toInt) := by
  unfold fX4_isBallNumber
  have e12 : (12 : Int32).toInt = 12 := rfl
  by_cases h1 : bl < 0
  · rw [if_pos h1]
    rw [Int32.lt_iff_toInt_lt, Int32.toInt_zero] at h1
    exact ⟨fun _ => Or.inl h1, fun _ => rfl⟩
  · rw [if_neg h1]
    rw [Int32.lt_iff_toInt_lt, Int32.toInt_zero] at h1
    by_cases h2 : 12 ≤ bl
    · rw [if_pos h2]
      rw [Int32.le_iff_toInt_le, e12] at h2
      exact ⟨fun _ => Or.inr (by omega), fun _ => rfl⟩
    · rw [if_neg h2]
      rw [Int32.le_iff_toInt_le, e12] at h2
      exact ⟨fun q => absurd q (by decide), fun q => by omega⟩
theorem ball_iff {f : N1} {bl : Int32} : fX4_hasBall (cls f) bl = 0 ↔ ¬ ∃ k, k < 12 ∧ bl = nI k ∧ ¬ f (13 + k) = (-5) := by
  unfold fX4_hasBall
  by_cases h : fX4_isBallNumber bl = 0
  · rw [if_pos h]
    refine ⟨fun _ => ?_, fun _ => rfl⟩
    rintro ⟨k, hk, rfl, -⟩
    exact isBN hk h
  · rw [if_neg h]
    rw [bn_iff] at h
    have hv : vp_in bl 12 := vp_in_iff.mpr ⟨by omega, by omega⟩
    obtain ⟨k, hk, rfl⟩ := vin_nI hv
    rw [nI_c (by omega), cls_0 hk]
    by_cases h5 : f (13 + k) = (-5)
    · rw [if_pos h5]
      refine ⟨fun _ => ?_, fun _ => rfl⟩
      rintro ⟨j, hj, e, h6⟩
      rw [nI_inj (by omega) (by omega) e] at h5
      exact h6 h5
    · rw [if_neg h5]
      exact ⟨fun q => absurd q (by decide), fun q => absurd ⟨k, hk, rfl, h5⟩ q⟩
theorem ball_nI {f : N1} {bl : Int32} (h : ¬ fX4_hasBall (cls f) bl = 0) : ∃ k, k < 12 ∧ bl = nI k ∧ ¬ f (13 + k) = (-5) := by
  rw [ball_iff] at h
  exact Classical.not_not.mp h
theorem dir_iff {di : Int32} : fX1_isDirection di = 0 ↔ (di.toInt < 0 ∨ 5 < di.toInt) := by
  unfold fX1_isDirection
  have e6 : (6 : Int32).toInt = 6 := rfl
  by_cases h1 : di < 0
  · rw [if_pos h1]
    rw [Int32.lt_iff_toInt_lt, Int32.toInt_zero] at h1
    exact ⟨fun _ => Or.inl h1, fun _ => rfl⟩
  · rw [if_neg h1]
    rw [Int32.lt_iff_toInt_lt, Int32.toInt_zero] at h1
    by_cases h2 : 6 ≤ di
    · rw [if_pos h2]
      rw [Int32.le_iff_toInt_le, e6] at h2
      exact ⟨fun _ => Or.inr (by omega), fun _ => rfl⟩
    · rw [if_neg h2]
      rw [Int32.le_iff_toInt_le, e6] at h2
      exact ⟨fun q => absurd q (by decide), fun q => by omega⟩
theorem nI_s {e : Nat} (h : e < 999) : nI e + 1 = nI (e + 1) := by
  have h1 : (1 : Int32).toInt = 1 := rfl
  have h2 := toI (show e < 1000 by omega)
  refine of_toI (by omega) ?_
  rw [ti_add (by omega) (by omega), h1, h2]
  omega
/-- balls on the felt among the first -/
def onN (f : N1) : Nat → Nat
  | 0 => 0
  | k + 1 => onN f k + (if f (13 + k) = (-5) then 0 else 1)
theorem onN_le (f : N1) : ∀ n, onN f n ≤ n := by
  intro n
  induction n with
  | zero => exact Nat.le_refl 0
  | succ n ih =>
    unfold onN
    split <;> omega
theorem felt_n (f : N1) : ∀ n, n ≤ 12 → fX4_feltN (cls f) n = nI (onN f n) := by
  intro n
  induction n with
  | zero => intro _; rfl
  | succ n ih =>
    intro hn
    unfold fX4_feltN onN
    rw [nI_c (by omega), cls_0 (by omega), ih (by omega)]
    have := onN_le f n
    split
    · rfl
    · exact nI_s (by omega)
theorem felt_on (f : N1) : fX4_ballsOnFelt (cls f) = nI (onN f 12) := felt_n f 12 (by omega)
theorem onN_congr {f g : N1} : ∀ n, n ≤ 12 → (∀ b, b < n → (f (13 + b) = (-5) ↔ g (13 + b) = (-5))) → onN f n = onN g n := by
  intro n
  induction n with
  | zero => intro _ _; rfl
  | succ n ih =>
    intro hn h
    unfold onN
    rw [ih (by omega) (fun b hb => h b (by omega))]
    have := h n (by omega)
    by_cases h1 : f (13 + n) = (-5)
    · rw [if_pos h1, if_pos (this.mp h1)]
    · rw [if_neg h1, if_neg (fun q => h1 (this.mpr q))]
/-- one ball's cell -/
theorem onN_cell {f g : N1} {k : Nat} : ∀ n, n ≤ 12 → (∀ b, b < n → ¬ b = k → (f (13 + b) = (-5) ↔ g (13 + b) = (-5))) → onN f n + (if k < n ∧ ¬ g (13 + k) = (-5) then 1 else 0) = onN g n + (if k < n ∧ ¬ f (13 + k) = (-5) then 1 else 0) := by
  intro n
  induction n with
  | zero => intro _ _; rw [if_neg (by omega), if_neg (by omega)]; rfl
  | succ n ih =>
    intro hn h
    have h2 := ih (by omega) (fun b hb hb2 => h b (by omega) hb2)
    unfold onN
    by_cases hk : n = k
    · subst hk
      rw [if_neg (fun q => absurd q.1 (by omega)), if_neg (fun q => absurd q.1 (by omega))] at h2
      by_cases h3 : f (13 + n) = (-5) <;> by_cases h4 : g (13 + n) = (-5)
      · rw [if_pos h3, if_pos h4, if_neg (fun q => q.2 h4), if_neg (fun q => q.2 h3)]; omega
      · rw [if_pos h3, if_neg h4, if_pos ⟨by omega, h4⟩, if_neg (fun q => q.2 h3)]; omega
      · rw [if_neg h3, if_pos h4, if_neg (fun q => q.2 h4), if_pos ⟨by omega, h3⟩]; omega
      · rw [if_neg h3, if_neg h4, if_pos ⟨by omega, h4⟩, if_pos ⟨by omega, h3⟩]; omega
    · have h5 := h n (by omega) hk
      have e1 : (k < n + 1 ∧ ¬ g (13 + k) = (-5)) ↔ (k < n ∧ ¬ g (13 + k) = (-5)) := ⟨fun q => ⟨by omega, q.2⟩, fun q => ⟨by omega, q.2⟩⟩
      have e2 : (k < n + 1 ∧ ¬ f (13 + k) = (-5)) ↔ (k < n ∧ ¬ f (13 + k) = (-5)) := ⟨fun q => ⟨by omega, q.2⟩, fun q => ⟨by omega, q.2⟩⟩
      simp only [e1, e2]
      by_cases h3 : f (13 + n) = (-5)
      · rw [if_pos h3, if_pos (h5.mp h3)]; omega
      · rw [if_neg h3, if_neg (fun q => h3 (h5.mpr q))]; omega
/-- balls' values; balls that are not yet put have gone no steps -/
def gVl (f : N1) : Prop := ∀ b : Nat, b < 12 → ((b : Int) < (f 12).toInt → 1 ≤ (f (25 + b)).toInt ∧ (f (25 + b)).toInt ≤ 20) ∧ ((f 12).toInt ≤ (b : Int) → f (37 + b) = 0)
/-- run, balls gone, shots, scores -/
def gC (M : Nat) (f : N1) : Prop := 0 ≤ (f 5).toInt ∧ (f 5).toInt ≤ (f 9).toInt ∧ (f 9).toInt ≤ (f 8).toInt ∧ (f 8).toInt ≤ (M : Int) ∧ (onN f 12 : Int) + (f 9).toInt ≤ (f 12).toInt ∧ (0 ≤ (f 6).toInt ∧ (f 6).toInt ≤ 20 * (M : Int)) ∧ (0 ≤ (f 7).toInt ∧ (f 7).toInt ≤ 20 * (M : Int))
/-- what stands between calls, after M calls -/
def gG (M : Nat) (f : N1) : Prop := gF f ∧ gP f ∧ (∀ i, i < 3 → gK (f i)) ∧ bnd f (1000000 * (M : Int)) ∧ gVl f ∧ gC M f
theorem bnd_le {f : N1} {M N : Int} (h : bnd f M) (hN : M ≤ N) : bnd f N := fun j h1 h2 => ⟨(h j h1 h2).1, Int.le_trans (h j h1 h2).2 hN⟩
theorem gG_b {M : Nat} {f : N1} (h : gG M f) (hM : M ≤ 100) : bnd f 1000000000 := bnd_le h.2.2.2.1 (by omega)
/-- a ball more -/
def addF (f : N1) (e c : Nat) (v : Int32) : N1 := upd (upd (upd f 12 (nI (e + 1))) (25 + e) v) (13 + e) (nI c)
theorem addF_rt {f : N1} {e c : Nat} {v : Int32} (he : e < 12) (hc : c < 61) : rt (addF f e c v) = addF (rt f) e (60 - c) v := by
  unfold addF
  rw [rt_updc he, rC_c hc, rt_upd (by omega), rt_upd (by omega)]
theorem gF_ever {f : N1} {e : Nat} (h : gF f) (he : f 12 = nI e) (he2 : e < 12) : gF (upd f 12 (nI (e + 1))) := by
  obtain ⟨⟨a1, a2, -⟩, hD, hR, hU⟩ := h
  have h2 := toI (show e + 1 < 1000 by omega)
  have h3 := toI (show e < 1000 by omega)
  refine ⟨⟨?_, fun b hb => ?_, trivial⟩, fun a b ha hb => ?_, fun b hb hb2 => ?_, ?_⟩
  · rw [upd_at]; omega
  · rw [upd_ne (by omega)]; exact a2 b hb
  · rw [upd_ne (by omega), upd_ne (by omega)]; exact hD a b ha hb
  · rw [upd_at] at hb2
    rw [upd_ne (by omega)]
    exact hR b hb (by rw [he]; omega)
  · unfold gU; rw [upd_ne (by omega)]; exact hU
theorem add_pre {f : N1} {e c : Nat} {v : Int32} (hF : gF f) (he : f 12 = nI e) (he2 : e < 12) (hfr : ∀ j, j < 12 → ¬ f (13 + j) = nI c) : gF (upd (upd f 12 (nI (e + 1))) (25 + e) v) ∧ (∀ j, j < 12 → ¬ (upd (upd f 12 (nI (e + 1))) (25 + e) v) (13 + j) = nI c) := by
  refine ⟨gF_upd (gF_ever hF he he2) (by omega), fun j hj => ?_⟩
  rw [upd_ne (by omega), upd_ne (by omega)]
  exact hfr j hj
theorem add_c {f : N1} {e c : Nat} {v : Int32} (hF : gF f) (he : f 12 = nI e) (he2 : e < 12) (hc : c < 61) (hfr : ∀ j, j < 12 → ¬ f (13 + j) = nI c) : fX4_addBall (cls f) (nI c) v = (nI e, cls (addF f e c v)) := by
  obtain ⟨hF1, hfr1⟩ := add_pre (v := v) hF he he2 hfr
  unfold fX4_addBall addF
  rw [cls_80, he, if_neg (isBN he2), nI_c (show e < 1000 by omega), nI_s (by omega), cls_u80, cls_u1 he2, place_c hF1.1 hF1.2.1 he2 hc hfr1]
theorem add_gF {f : N1} {e c : Nat} {v : Int32} (hF : gF f) (he : f 12 = nI e) (he2 : e < 12) (hc : c < 61) (hfr : ∀ j, j < 12 → ¬ f (13 + j) = nI c) : gF (addF f e c v) := by
  obtain ⟨hF1, hfr1⟩ := add_pre (v := v) hF he he2 hfr
  refine gF_put hF1 he2 hc ?_ hfr1
  rw [upd_ne (by omega), upd_at, toI (by omega)]
  omega
theorem add_gG {M : Nat} {f : N1} {e c : Nat} {v : Int32} (hG : gG M f) (he : f 12 = nI e) (he2 : e < 12) (hc : c < 61) (hv : 1 ≤ v.toInt ∧ v.toInt ≤ 20) (hfr : ∀ j, j < 12 → ¬ f (13 + j) = nI c) : gG M (addF f e c v) := by
  obtain ⟨hF, hP, hS, hb, hV, hC⟩ := hG
  have hte := toI (show e + 1 < 1000 by omega)
  have hte2 := toI (show e < 1000 by omega)
  have h5 : f (13 + e) = (-5) := hF.2.2.1 e he2 (by rw [he]; omega)
  have a12 : addF f e c v 12 = nI (e + 1) := by unfold addF; rw [upd_ne (by omega), upd_ne (by omega), upd_at]
  have alo : ∀ j, j < 12 → addF f e c v j = f j := fun j hj => by unfold addF; rw [upd_ne (by omega), upd_ne (by omega), upd_ne (by omega)]
  have ahi : ∀ j, 37 ≤ j → addF f e c v j = f j := fun j hj => by unfold addF; rw [upd_ne (by omega), upd_ne (by omega), upd_ne (by omega)]
  have ace : addF f e c v (13 + e) = nI c := by unfold addF; rw [upd_at]
  have aco : ∀ b, ¬ b = e → b < 12 → addF f e c v (13 + b) = f (13 + b) := fun b hb hb2 => by unfold addF; rw [upd_ne (by omega), upd_ne (by omega), upd_ne (by omega)]
  have ave : addF f e c v (25 + e) = v := by unfold addF; rw [upd_ne (by omega), upd_at]
  have avo : ∀ b, ¬ b = e → addF f e c v (25 + b) = f (25 + b) := fun b hb => by unfold addF; rw [upd_ne (by omega), upd_ne (by omega), upd_ne (by omega)]
  refine ⟨add_gF hF he he2 hc hfr, ?_, fun i hi => ?_, fun j h1 h2 => ?_, fun b hb => ⟨fun h => ?_, fun h => ?_⟩, ?_⟩
  · unfold gP; rw [alo 3 (by omega)]; exact hP
  · rw [alo i (by omega)]; exact hS i hi
  · rw [ahi j h1]; exact hb j h1 h2
  · rw [a12] at h
    by_cases hbe : b = e
    · rw [hbe, ave]; exact hv
    · rw [avo b hbe]
      exact (hV b hb).1 (by rw [he]; omega)
  · rw [a12] at h
    rw [ahi (37 + b) (by omega)]
    exact (hV b hb).2 (by rw [he]; omega)
  · have hon := onN_cell (f := addF f e c v) (g := f) (k := e) 12 (Nat.le_refl 12) (fun b hb hbe => by rw [aco b hbe hb])
    rw [if_neg (fun q => q.2 h5), if_pos ⟨he2, by rw [ace]; exact nI_no (by omega)⟩] at hon
    obtain ⟨c1, c2, c3, c4, c5, c6, c7⟩ := hC
    unfold gC
    rw [alo 5 (by omega), alo 9 (by omega), alo 8 (by omega), alo 6 (by omega), alo 7 (by omega), a12]
    rw [he] at c5
    exact ⟨c1, c2, c3, c4, by omega, c6, c7⟩
