/-! p24: taking off, moving, passing on both felts (wip/p24/p37.lean) -/
theorem has_rt {f : N1} {bl : Int32} (hF : gF f) : fX4_hasBall (cls (rt f)) bl = 0 ↔ fX4_hasBall (cls f) bl = 0 := by
  rw [ball_iff, ball_iff]
  have h : (∃ k, k < 12 ∧ bl = nI k ∧ ¬ rt f (13 + k) = (-5)) ↔ ∃ k, k < 12 ∧ bl = nI k ∧ ¬ f (13 + k) = (-5) := by
    constructor
    · rintro ⟨k, hk, e, h⟩
      exact ⟨k, hk, e, fun q => h (by rw [rt_cell hk, q]; exact rC_5)⟩
    · rintro ⟨k, hk, e, h⟩
      refine ⟨k, hk, e, fun q => h ?_⟩
      rw [rt_cell hk] at q
      exact (rC_no (hF.1.2.1 k hk)).mp q
  rw [h]
theorem gG_cell {M : Nat} {f : N1} {k : Nat} {x : Int32} (hG : gG M f) (hk : k < 12) (hF : gF (upd f (13 + k) x)) (hx : x = (-5) ∨ ¬ f (13 + k) = (-5)) : gG M (upd f (13 + k) x) := by
  obtain ⟨-, hP, hS, hb, hV, c1, c2, c3, c4, c5, c6, c7⟩ := hG
  have hlo : ∀ j, j < 13 → upd f (13 + k) x j = f j := fun j hj => upd_ne (by omega)
  have hhi : ∀ j, 25 ≤ j → upd f (13 + k) x j = f j := fun j hj => upd_ne (by omega)
  refine ⟨hF, gP_upd hP (by omega), fun i hi => ?_, fun j h1 h2 => ?_, fun b hb2 => ?_, ?_⟩
  · rw [hlo i (by omega)]; exact hS i hi
  · rw [hhi j (by omega)]; exact hb j h1 h2
  · rw [hlo 12 (by omega), hhi (25 + b) (by omega), hhi (37 + b) (by omega)]
    exact hV b hb2
  · unfold gC
    rw [hlo 5 (by omega), hlo 9 (by omega), hlo 8 (by omega), hlo 6 (by omega), hlo 7 (by omega), hlo 12 (by omega)]
    have hon := onN_cell (f := upd f (13 + k) x) (g := f) (k := k) 12 (Nat.le_refl 12) (fun b hb hbe => by rw [upd_ne (by omega)])
    rw [upd_at] at hon
    have hle : onN (upd f (13 + k) x) 12 ≤ onN f 12 := by
      rcases hx with h | h
      · rw [if_neg (show ¬ (k < 12 ∧ ¬ x = (-5)) from fun q => q.2 h)] at hon
        split at hon <;> omega
      · rw [if_pos ⟨hk, h⟩] at hon
        split at hon <;> omega
    exact ⟨c1, c2, c3, c4, by omega, c6, c7⟩
/-- a ball taken off, on both felts -/
theorem both_take {M : Nat} {f : N1} {bl : Int32} (hG : gG M f) : ∃ (r : Int32) (g : N1), gG M g ∧
    (∀ (hs n : Int32) (o : Nat) (η : Nat → N2), (fX6_takeOff hs (cls f) n o η bl).1 = r ∧ (fX6_takeOff hs (cls f) n o η bl).2.1 = cls g) ∧
    (∀ (hs n : Int32) (o : Nat) (η : Nat → N2), (fX6_takeOff hs (cls (rt f)) n o η bl).1 = rC r ∧ (fX6_takeOff hs (cls (rt f)) n o η bl).2.1 = cls (rt g)) ∧
    (∀ hs : Int32, r = fX6_ball hs (cls f) bl 0) ∧ fX4_hasBall (cls g) bl = 0 := by
  have hF := hG.1
  by_cases h : fX4_hasBall (cls f) bl = 0
  · have h2 := (has_rt hF).mpr h
    unfold fX6_takeOff fX6_ball
    simp only [if_pos h, if_pos h2]
    exact ⟨(-1), f, hG, fun _ _ _ _ => ⟨rfl, rfl⟩, fun _ _ _ _ => ⟨by decide, rfl⟩, fun _ => rfl, h⟩
  · have h2 : ¬ fX4_hasBall (cls (rt f)) bl = 0 := fun q => h ((has_rt hF).mp q)
    obtain ⟨k, hk, rfl, h5⟩ := ball_nI h
    have hFr := rt_gF hF
    unfold fX6_takeOff fX6_ball
    simp only [if_neg h, if_neg h2, lift_c hF.1 hF.2.1 hk, lift_c hFr.1 hFr.2.1 hk, cellOf_c hk, nI_c (show k < 1000 by omega), cls_0 hk]
    refine ⟨f (13 + k), upd f (13 + k) (-5), gG_cell hG hk (gF_away hF hk) (Or.inl rfl), fun _ _ _ _ => ⟨rfl, rfl⟩, fun _ _ _ _ => ⟨rt_cell hk, ?_⟩, fun _ => ?_, ?_⟩
    · rw [rt_updc hk, rC_5]
    · rw [if_pos trivial]
    · rw [ball_iff]
      rintro ⟨j, hj, e, h6⟩
      rw [← nI_inj (by omega) (by omega) e, upd_at] at h6
      exact h6 rfl
/-- a ball moved, on both felts -/
theorem both_move {M : Nat} {f : N1} {bl : Int32} {c : Nat} (hG : gG M f) (hc : c < 61) : ∃ (r : Int32) (g : N1), gG M g ∧
    (∀ (hs n : Int32) (o : Nat) (η : Nat → N2), (fX6_move hs (cls f) n o η bl (nI c)).1 = r ∧ (fX6_move hs (cls f) n o η bl (nI c)).2.1 = cls g) ∧
    (∀ (hs n : Int32) (o : Nat) (η : Nat → N2), (fX6_move hs (cls (rt f)) n o η bl (nI (60 - c))).1 = rC r ∧ (fX6_move hs (cls (rt f)) n o η bl (nI (60 - c))).2.1 = cls (rt g)) ∧
    (fX4_hasBall (cls f) bl = 0 → r = (-1)) ∧ (¬ fX4_hasBall (cls f) bl = 0 → r = (-4) ∨ ∀ hs : Int32, fX6_ball hs (cls g) bl 0 = nI c) := by
  have hF := hG.1
  by_cases h : fX4_hasBall (cls f) bl = 0
  · have h2 := (has_rt hF).mpr h
    unfold fX6_move
    simp only [if_pos h, if_pos h2]
    exact ⟨(-1), f, hG, fun _ _ _ _ => ⟨rfl, rfl⟩, fun _ _ _ _ => ⟨by decide, rfl⟩, fun _ => rfl, fun q => absurd h q⟩
  · have h2 : ¬ fX4_hasBall (cls (rt f)) bl = 0 := fun q => h ((has_rt hF).mp q)
    obtain ⟨k, hk, rfl, h5⟩ := ball_nI h
    have hFr := rt_gF hF
    have hcell : ∀ (g : N1) (hs : Int32), g (13 + k) = nI c → fX6_ball hs (cls g) (nI k) 0 = nI c := by
      intro g hs hg
      have hh : ¬ fX4_hasBall (cls g) (nI k) = 0 := by
        rw [ball_iff]
        exact fun q => q ⟨k, hk, rfl, by rw [hg]; exact nI_no (by omega)⟩
      unfold fX6_ball
      rw [if_neg hh, if_pos rfl, nI_c (by omega), cls_0 hk, hg]
    by_cases h3 : f (13 + k) = nI c
    · unfold fX6_move
      simp only [if_neg h, if_neg h2, if_neg (isCe hc), if_neg (isCe (show 60 - c < 61 by omega)), cellOf_c hk, rt_cell hk, if_pos h3, if_pos ((rC_iff (hF.1.2.1 k hk) hc).mpr h3)]
      exact ⟨(-5), f, hG, fun _ _ _ _ => ⟨rfl, rfl⟩, fun _ _ _ _ => ⟨by decide, rfl⟩, fun q => absurd q h, fun _ => Or.inr fun hs => hcell f hs h3⟩
    · have h3r : ¬ rC (f (13 + k)) = nI (60 - c) := fun q => h3 ((rC_iff (hF.1.2.1 k hk) hc).mp q)
      unfold fX6_move
      simp only [if_neg h, if_neg h2, if_neg (isCe hc), if_neg (isCe (show 60 - c < 61 by omega)), cellOf_c hk, rt_cell hk, if_neg h3, if_neg h3r, ballOn_c hc, ballOn_c (show 60 - c < 61 by omega), rt_bo hF hc]
      by_cases hb : bo f c = (-5)
      · have hfr := free_bo hc hb
        have hke : (k : Int) < (f 12).toInt := by
          obtain ⟨c0, hc0, e0⟩ := vin_nI ((hF.1.2.1 k hk).resolve_right h5)
          exact ever_lt hF.2.2.1 hk hc0 e0
        simp only [if_pos hb, place_c hF.1 hF.2.1 hk hc hfr, place_c hFr.1 hFr.2.1 hk (show 60 - c < 61 by omega) (free_rt hF hc hfr)]
        refine ⟨f (13 + k), upd f (13 + k) (nI c), gG_cell hG hk (gF_put hF hk hc hke hfr) (Or.inr h5), fun _ _ _ _ => ⟨rfl, rfl⟩, fun _ _ _ _ => ⟨rfl, ?_⟩, fun q => absurd q h, fun _ => Or.inr fun hs => hcell _ hs upd_at⟩
        rw [rt_updc hk, rC_c hc]
      · simp only [if_neg hb]
        exact ⟨(-4), f, hG, fun _ _ _ _ => ⟨rfl, rfl⟩, fun _ _ _ _ => ⟨by decide, rfl⟩, fun q => absurd q h, fun _ => Or.inl rfl⟩
