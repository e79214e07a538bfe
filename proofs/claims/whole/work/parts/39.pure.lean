/-! best, side by side (wip/whole/gen/p39.lean) -/
theorem fin_k6 : ∀ b : Fin 12, ∀ j : Fin 6, nI (6 * b.val + j.val) / 6 = nI b.val ∧ nI (6 * b.val + j.val) - nI (6 * b.val + j.val) / 6 * 6 = nI j.val := by decide +kernel
theorem fin_13 : ∀ e : Fin 13, ((6 : Int32) * nI e.val).toNatClampNeg = 6 * e.val := by decide +kernel
theorem bmN_s {sg sn : Int32} {n k : Nat} {m f : Int32} {μ : N2} {sp : UInt32} : bmN sg sn (n + 1) k m f μ sp = if fX7_isBall μ sp (nI k / 6) = 0 then (if 0 ≤ m then bmN sg sn n (k + 1) m f (cpB μ) sp else bmN sg sn n (k + 1) 0 (nI k) (cpB μ) sp) else if (fX7_shot μ sp (nI k / 6) (nI k - nI k / 6 * 6) sg sn).1 ≤ m then bmN sg sn n (k + 1) m f (cpB (fX7_shot μ sp (nI k / 6) (nI k - nI k / 6 * 6) sg sn).2.1) (fX7_shot μ sp (nI k / 6) (nI k - nI k / 6 * 6) sg sn).2.2 else bmN sg sn n (k + 1) (fX7_shot μ sp (nI k / 6) (nI k - nI k / 6 * 6) sg sn).1 (nI k) (cpB (fX7_shot μ sp (nI k / 6) (nI k - nI k / 6 * 6) sg sn).2.1) (fX7_shot μ sp (nI k / 6) (nI k - nI k / 6 * 6) sg sn).2.2 := rfl
theorem bsI_s {hs : Int32} {σ : N2} {sg sn : Int32} {n j k : Nat} {s : B7} : bsI hs σ sg sn (n + 1) j k s = if fX4_hasBall σ (nI k) = 0 then s else
      if fX4_valueOfBall σ ((fX6_tryShot hs σ s.2.2.2.1 s.2.2.2.2.1 s.2.2.2.2.2.1 s.2.2.2.2.2.2 (nI k) (nI j) sg sn).2.1 6) ≤ s.1 then
        bsI hs σ sg sn n (j + 1) k (s.1, s.2.1, s.2.2.1, fX6_tryShot hs σ s.2.2.2.1 s.2.2.2.2.1 s.2.2.2.2.2.1 s.2.2.2.2.2.2 (nI k) (nI j) sg sn)
      else bsI hs σ sg sn n (j + 1) k (fX4_valueOfBall σ ((fX6_tryShot hs σ s.2.2.2.1 s.2.2.2.2.1 s.2.2.2.2.2.1 s.2.2.2.2.2.2 (nI k) (nI j) sg sn).2.1 6), nI k, nI j, fX6_tryShot hs σ s.2.2.2.1 s.2.2.2.2.1 s.2.2.2.2.2.1 s.2.2.2.2.2.2 (nI k) (nI j) sg sn) := rfl
theorem bsO_s {hs : Int32} {σ : N2} {sg sn : Int32} {n k : Nat} {s : B7} : bsO hs σ sg sn (n + 1) k s = bsO hs σ sg sn n (k + 1) (bsI hs σ sg sn 6 0 k s) := rfl
theorem bsI_no {hs : Int32} {σ : N2} {sg sn : Int32} {k : Nat} {s : B7} (h : fX4_hasBall σ (nI k) = 0) : ∀ n j, bsI hs σ sg sn n j k s = s := by
  intro n j
  cases n with
  | zero => rfl
  | succ n => rw [bsI_s, if_pos h]
section SM
variable {hs : Int32} {σ σn : N2} {n : Int32} {o : Nat} {η : Nat → N2} {t μ : N2} {sp : UInt32}
def BR (hs : Int32) (σn : N2) (n : Int32) (o : Nat) (η : Nat → N2) (t μ : N2) (s : B7) (m f : Int32) (μ1 : N2) : Prop := s.1 = m ∧ 0 ≤ m.toInt ∧ ((f = (-5) ∧ s.2.1 = (-5) ∧ s.2.2.1 = (-5) ∧ m = 0) ∨ (∃ b j, b < 12 ∧ j < 6 ∧ s.2.1 = nI b ∧ s.2.2.1 = nI j ∧ f = nI (6 * b + j) ∧ 0 < m.toInt)) ∧ μ1 0 = μ 0 ∧ μ1 2 = μ 0 ∧ REL hs (cls (μ 0)) σn n o η t μ1
theorem BR_cp {s : B7} {m f : Int32} {μ1 : N2} (B : BR hs σn n o η t μ s m f μ1) : BR hs σn n o η t μ s m f (cpB μ1) := by
  obtain ⟨b1, b2, b3, b4, b5, b6⟩ := B
  have c0 : cpB μ1 0 = μ 0 := b5
  refine ⟨b1, b2, b3, c0, b5, REL_rows b6 (c0.trans b4.symm) (fun i h _ => up_ne (by omega)) (fun j _ => rfl)⟩
theorem best_one {s : B7} {m f sg sn : Int32} {μ1 : N2} {sp1 : UInt32} {k w : Nat} (hk : k < 12) (hw : w < 6) (hcb : ¬ μ 0 (13 + k) = (-5)) (hg : 10 ≤ sg.toInt ∧ sg.toInt ≤ 999) (B : BR hs σn n o η t μ s m f μ1) :
    fX4_valueOfBall (cls (μ 0)) ((fX6_tryShot hs (cls (μ 0)) s.2.2.2.1 s.2.2.2.2.1 s.2.2.2.2.2.1 s.2.2.2.2.2.2 (nI k) (nI w) sg sn).2.1 6) = (fX7_shot μ1 sp1 (nI k) (nI w) sg sn).1 ∧ ∀ P, BR hs σn n o η t μ (s.1, s.2.1, s.2.2.1, P) m f (cpB (fX7_shot μ1 sp1 (nI k) (nI w) sg sn).2.1) ∧ (¬ (fX7_shot μ1 sp1 (nI k) (nI w) sg sn).1 ≤ m → BR hs σn n o η t μ ((fX7_shot μ1 sp1 (nI k) (nI w) sg sn).1, nI k, nI w, P) (fX7_shot μ1 sp1 (nI k) (nI w) sg sn).1 (nI (6 * k + w)) (cpB (fX7_shot μ1 sp1 (nI k) (nI w) sg sn).2.1)) := by
  obtain ⟨b1, b2, b3, b4, b5, b6⟩ := B
  have eU : va_up μ1 2 (fX7_copy (μ1 0) (μ1 2)) = μ1 := by
    rw [show fX7_copy (μ1 0) (μ1 2) = μ1 2 from b4.trans b5.symm]
    exact up_self μ1 2
  have T := try_c (σr := s.2.2.2.1) (z := s.2.2.2.2.1) (d := s.2.2.2.2.2.2) (sp2 := s.2.2.2.2.2.1) (sp := sp1) (sn := sn) (μ := μ1) (by rw [b4]; exact b6) hk hw (by rw [b4]; exact hcb) hg
  rw [eU, b4] at T
  have hr := (shot_rows (μ := μ1) (sp := sp1) (bl := nI k) (di := nI w) (sg := sg) (sn := sn))
  obtain ⟨-, -, t3, t4⟩ := T
  refine ⟨t3, fun P => ?_⟩
  have c2 : (fX7_shot μ1 sp1 (nI k) (nI w) sg sn).2.1 2 = μ 0 := (hr.1 2 (by decide) (by decide)).trans b5
  generalize fX7_shot μ1 sp1 (nI k) (nI w) sg sn = M at t4 c2 ⊢
  refine ⟨⟨b1, b2, b3, c2, c2, t4⟩, fun hm => ⟨rfl, ?_, Or.inr ⟨k, w, hk, hw, rfl, rfl, rfl, ?_⟩, c2, c2, t4⟩⟩
  · rw [Int32.le_iff_toInt_le] at hm
    omega
  · rw [Int32.le_iff_toInt_le] at hm
    omega
theorem best_in {sg sn : Int32} {k : Nat} (hF : gF (μ 0)) (hk : k < 12) (hg : 10 ≤ sg.toInt ∧ sg.toInt ≤ 999) : ∀ (nn j : Nat), j + nn = 6 → ∀ (s : B7) (m f : Int32) (μ1 : N2) (sp1 : UInt32) (r : Nat), BR hs σn n o η t μ s m f μ1 → ∃ (m' f' : Int32) (μ' : N2) (sp' : UInt32), bmN sg sn (nn + r) (6 * k + j) m f μ1 sp1 = bmN sg sn r (6 * k + 6) m' f' μ' sp' ∧ BR hs σn n o η t μ (bsI hs (cls (μ 0)) sg sn nn j k s) m' f' μ' := by
  intro nn
  induction nn with
  | zero =>
    intro j hj s m f μ1 sp1 r B
    obtain rfl : j = 6 := by omega
    exact ⟨m, f, μ1, sp1, by rw [Nat.zero_add], B⟩
  | succ nn ih =>
    intro j hj s m f μ1 sp1 r B
    obtain ⟨k1, k2⟩ := fin_k6 ⟨k, hk⟩ ⟨j, by omega⟩
    have k1 : nI (6 * k + j) / 6 = nI k := k1
    have k2 : nI (6 * k + j) - nI (6 * k + j) / 6 * 6 = nI j := k2
    rw [show nn + 1 + r = (nn + r) + 1 by omega, bmN_s, k2, k1]
    have hF1 : gF (μ1 0) := by rw [B.2.2.2.1]; exact hF
    by_cases h1 : fX4_hasBall (cls (μ 0)) (nI k) = 0
    · have h2 : fX7_isBall μ1 sp1 (nI k) = 0 := (ball_eq hF1).mpr (by rw [B.2.2.2.1]; exact h1)
      have hm : 0 ≤ m := by
        rw [Int32.le_iff_toInt_le, Int32.toInt_zero]
        exact B.2.1
      rw [if_pos h2, if_pos hm]
      obtain ⟨m', f', μ', sp', e, B'⟩ := ih (j + 1) (by omega) s m f (cpB μ1) sp1 r (BR_cp B)
      refine ⟨m', f', μ', sp', e, ?_⟩
      rw [bsI_no h1] at B' ⊢
      exact B'
    · have h2 : ¬ fX7_isBall μ1 sp1 (nI k) = 0 := fun q => h1 (by
        have := (ball_eq hF1).mp q
        rw [B.2.2.2.1] at this
        exact this)
      rw [if_neg h2]
      obtain ⟨k', hk', ek, hcb⟩ := ball_nI h1
      obtain rfl : k' = k := (nI_inj (by omega) (by omega) ek).symm
      obtain ⟨v1, v2⟩ := best_one (sp1 := sp1) (sn := sn) hk (show j < 6 by omega) hcb hg B
      have bs1 := B.1
      rw [bsI_s, if_neg h1, v1, bs1]
      obtain ⟨v3, v4⟩ := v2 (fX6_tryShot hs (cls (μ 0)) s.2.2.2.1 s.2.2.2.2.1 s.2.2.2.2.2.1 s.2.2.2.2.2.2 (nI k') (nI j) sg sn)
      rw [bs1] at v3
      by_cases h3 : (fX7_shot μ1 sp1 (nI k') (nI j) sg sn).1 ≤ m
      · rw [if_pos h3, if_pos h3]
        exact ih (j + 1) (by omega) _ m f _ _ r v3
      · rw [if_neg h3, if_neg h3]
        exact ih (j + 1) (by omega) _ _ _ _ _ r (v4 h3)
theorem best_out {sg sn : Int32} (hF : gF (μ 0)) (hg : 10 ≤ sg.toInt ∧ sg.toInt ≤ 999) {e : Nat} (he : μ 0 12 = nI e) (he2 : e ≤ 12) : ∀ (nn b : Nat), b + nn = 12 → ∀ (s : B7) (m f : Int32) (μ1 : N2) (sp1 : UInt32), BR hs σn n o η t μ s m f μ1 → ∃ (m' f' : Int32) (μ' : N2) (sp' : UInt32), bmN sg sn (6 * (e - b)) (6 * b) m f μ1 sp1 = (m', f', μ', sp') ∧ BR hs σn n o η t μ (bsO hs (cls (μ 0)) sg sn nn b s) m' f' μ' := by
  intro nn
  induction nn with
  | zero =>
    intro b hb s m f μ1 sp1 B
    rw [show 6 * (e - b) = 0 by omega]
    exact ⟨m, f, μ1, sp1, rfl, B⟩
  | succ nn ih =>
    intro b hb s m f μ1 sp1 B
    rw [bsO_s]
    by_cases hbe : b < e
    · obtain ⟨m', f', μ', sp', e1, B'⟩ := best_in hF (show b < 12 by omega) hg 6 0 (by omega) s m f μ1 sp1 (6 * (e - (b + 1))) B
      rw [show 6 * (e - b) = 6 + 6 * (e - (b + 1)) by omega]
      have e1 : bmN sg sn (6 + 6 * (e - (b + 1))) (6 * b) m f μ1 sp1 = bmN sg sn (6 * (e - (b + 1))) (6 * (b + 1)) m' f' μ' sp' := e1
      rw [e1]
      exact ih (b + 1) (by omega) _ m' f' μ' sp' B'
    · have hno : fX4_hasBall (cls (μ 0)) (nI b) = 0 := by
        rw [ball_iff]
        rintro ⟨k, hk, ek, h5⟩
        obtain rfl : b = k := nI_inj (by omega) (by omega) ek
        exact h5 (hF.2.2.1 b hk (by rw [he, toI (by omega)]; omega))
      rw [bsI_no hno]
      obtain ⟨m', f', μ', sp', e1, B'⟩ := ih (b + 1) (by omega) s m f μ1 sp1 B
      rw [show 6 * (e - b) = 0 by omega]
      rw [show 6 * (e - (b + 1)) = 0 by omega] at e1
      exact ⟨m', f', μ', sp', e1, B'⟩
theorem s_best {σr : N2} {z d : N1} {sp2 : UInt32} {sg sn wt : Int32} (R : REL hs σ σn n o η t μ) : (fX6_best hs σ σr z sp2 d sg sn wt).1 = (fX7_best μ sp sg sn wt).1 ∧ REL hs σ σn n o η t (fX7_best μ sp sg sn wt).2.1 := by
  have hσ := R.1
  have hF := R.2.1.1
  subst hσ
  have e0 : (0 : Int64).toInt = 0 := rfl
  have e2 : (2 : Int64).toInt = 2 := rfl
  have f2 : (2 : Int32).toInt = 2 := rfl
  unfold fX6_best fX7_best
  by_cases h1 : fX6_isForce sg sn = 0
  · rw [if_pos h1, if_pos (stroke_eq.mpr h1)]
    exact ⟨rfl, R⟩
  rw [if_neg h1, if_neg (fun q => h1 (stroke_eq.mp q))]
  have hg : 10 ≤ sg.toInt ∧ sg.toInt ≤ 999 := by
    rw [force_iff] at h1
    omega
  by_cases h2 : wt < 0
  · have q : fX7_in wt.toInt64 0 2 = 0 := by rw [in_iff, e0, e2]; rw [Int32.lt_iff_toInt_lt, Int32.toInt_zero] at h2; omega
    rw [if_pos h2, if_pos q]
    exact ⟨rfl, R⟩
  rw [if_neg h2]
  by_cases h3 : wt ≤ 2
  · have q : ¬ fX7_in wt.toInt64 0 2 = 0 := by rw [in_iff, e0, e2]; rw [Int32.lt_iff_toInt_lt, Int32.toInt_zero] at h2; rw [Int32.le_iff_toInt_le, f2] at h3; omega
    rw [if_pos h3, if_neg q]
    have h12 := hF.1.1
    obtain ⟨e, he2, he⟩ : ∃ e, e ≤ 12 ∧ μ 0 12 = nI e := ⟨(μ 0 12).toInt.toNat, by omega, of_toI (by omega) (by omega)⟩
    have B0 : BR hs σn n o η t μ (0, (-5), (-5), σr, z, sp2, d) 0 (-5) (va_up μ 2 (fX7_copy (μ 0) (μ 2))) := ⟨rfl, by decide, Or.inl ⟨rfl, rfl, rfl, rfl⟩, rfl, rfl, REL_rows R rfl (fun i h _ => up_ne (by omega)) (fun j _ => rfl)⟩
    obtain ⟨m', f', μ', sp', em, B⟩ := best_out (sn := sn) hF hg he he2 12 0 (by omega) _ _ _ _ sp B0
    have eF : bmF μ sp sg sn = (m', f', μ', sp') := by
      unfold bmF
      rw [he, show ((6 : Int32) * nI e).toNatClampNeg = 6 * e from fin_13 ⟨e, by omega⟩]
      exact em
    rw [eF]
    generalize bsO hs (cls (μ 0)) sg sn 12 0 (0, (-5), (-5), σr, z, sp2, d) = S at B ⊢
    obtain ⟨b1, b2, b3, b4, b5, b6⟩ := B
    refine ⟨?_, b6⟩
    rcases b3 with ⟨g1, g2, g3, g4⟩ | ⟨b, j, hb, hj, g1, g2, g3, g4⟩
    · show (if wt = 0 then S.2.1 else if wt = 1 then S.2.2.1 else if S.1 ≤ 0 then (-5) else S.1) = if f' = (-5) then (-5) else _
      rw [if_pos g1, g2, g3, b1, g4]
      split
      · rfl
      · split
        · rfl
        · rfl
    · obtain ⟨k1, k2⟩ := fin_k6 ⟨b, hb⟩ ⟨j, hj⟩
      have k1 : nI (6 * b + j) / 6 = nI b := k1
      have k2 : nI (6 * b + j) - nI (6 * b + j) / 6 * 6 = nI j := k2
      show (if wt = 0 then S.2.1 else if wt = 1 then S.2.2.1 else if S.1 ≤ 0 then (-5) else S.1) = if f' = (-5) then (-5) else if wt = 0 then f' / 6 else if wt = 1 then f' - f' / 6 * 6 else m'
      rw [g3, if_neg (nI_no (by omega)), k2, k1, g1, g2, b1]
      have hm : ¬ m' ≤ 0 := by
        rw [Int32.le_iff_toInt_le, Int32.toInt_zero]
        omega
      rw [if_neg hm]
  · have q : fX7_in wt.toInt64 0 2 = 0 := by rw [in_iff, e0, e2]; rw [Int32.le_iff_toInt_le, f2] at h3; omega
    rw [if_neg h3, if_pos q]
    exact ⟨rfl, R⟩
end SM

