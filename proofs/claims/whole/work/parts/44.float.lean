/-! a float made a double, and compared with itself (wip/whole/gen/p44.lean) -/
theorem n64_of {r : UInt64} (h : r.toNat ≤ 9218868437227405312) : vf_n64 r := by
  unfold vf_n64
  rw [UInt64.le_iff_toNat_le, UInt64.toNat_and]
  exact Nat.le_trans Nat.and_le_left h
theorem f2d_norm {E T Z : Nat} (hE : 100 ≤ E ∧ E ≤ 150) (hT : T < 8388608) (hZ : Z = (E + 896) * 4503599627370496 + T * 536870912) : Jvm.FP.Core.convert Jvm.FP.Core.b32 Jvm.FP.Core.b64 (E * 8388608 + T) = Z := by
  unfold Jvm.FP.Core.convert
  rw [dec_norm ⟨by omega, by omega⟩ hT]
  show Jvm.FP.Core.encode _ (Jvm.FP.Core.roundRatio _ false (8388608 + T) 1 (-149 + ((E : Int) - 1))) = _
  generalize hp : 8388608 + T = p
  have hp0 : p ≠ 0 := by omega
  generalize he : (-149 + ((E : Int) - 1)) = e
  have hlog : p.log2 = 23 := by
    have a1 : 23 ≤ p.log2 := (Nat.le_log2 hp0).mpr (by omega)
    have a2 : p.log2 < 24 := (Nat.log2_lt hp0).mpr (by omega)
    omega
  have hlead : Jvm.FP.Core.leading p 1 = 23 := by
    unfold Jvm.FP.Core.leading
    rw [hlog, show Nat.log2 1 = 0 by decide]
    have e1 : (((23 : Nat) : Int) - ((0 : Nat) : Int)) = 23 := by omega
    simp only [e1]
    rw [if_pos]
    show 1 * 2 ^ 23 ≤ p * 2 ^ 0
    omega
  have q0 : Jvm.FP.Core.Fmt.qmin Jvm.FP.Core.b64 = -1074 := by decide
  have q1 : Jvm.FP.Core.Fmt.qmax Jvm.FP.Core.b64 = 971 := by decide
  have t0 : Jvm.FP.Core.Fmt.tails Jvm.FP.Core.b64 = 4503599627370496 := by decide
  have p0 : (2 : Nat) ^ (Jvm.FP.Core.Fmt.p Jvm.FP.Core.b64) = 9007199254740992 := by decide
  have hquant : Jvm.FP.Core.quantum Jvm.FP.Core.b64 p 1 e = e - 29 := by
    unfold Jvm.FP.Core.quantum
    rw [hlead, q0]
    show max (-1074) ((23 : Int) + e - ((53 : Int) - 1)) = _
    omega
  unfold Jvm.FP.Core.roundRatio
  rw [if_neg hp0, hquant]
  unfold Jvm.FP.Core.roundAt Jvm.FP.Core.unitsNum Jvm.FP.Core.unitsDen
  have e4 : (e - (e - 29)).toNat = 29 := by omega
  have e5 : (e - 29 - e).toNat = 0 := by omega
  rw [e4, e5, Nat.pow_zero, Nat.mul_one]
  have hn : Jvm.FP.Core.nearest (p * 2 ^ 29) 1 = p * 536870912 := by
    unfold Jvm.FP.Core.nearest
    rw [Nat.mod_one, if_pos (by decide), Nat.div_one]
  rw [hn]
  unfold Jvm.FP.Core.settle
  rw [p0, if_pos (by omega)]
  unfold Jvm.FP.Core.bound
  rw [q1, if_pos (by omega)]
  unfold Jvm.FP.Core.encode
  rw [t0]
  show (if p * 536870912 < 4503599627370496 then _ else _) = _
  rw [if_neg (by omega)]
  unfold Jvm.FP.Core.assemble
  rw [t0, q0]
  have e6 : (e - 29 - -1074).toNat + 1 = E + 896 := by omega
  have e7 : p * 536870912 - 4503599627370496 = T * 536870912 := by
    rw [← hp, Nat.add_mul, show 8388608 * 536870912 = 4503599627370496 by decide, Nat.add_sub_cancel_left]
  rw [e6, e7, show Bool.toNat false = 0 from rfl, Nat.zero_mul, Nat.zero_add, hZ]
theorem gW_n64 {x : UInt32} (h : gW x) : vf_n64 (FP.f2d x) := by
  obtain ⟨h1, h2⟩ := h
  obtain ⟨E, T, hT, hvE⟩ : ∃ E T : Nat, T < 8388608 ∧ x.toNat = E * 8388608 + T := ⟨x.toNat / 8388608, x.toNat % 8388608, by omega, by omega⟩
  have hE : 126 ≤ E ∧ E ≤ 133 := by omega
  have hnan : Jvm.FP.Core.fIsNaN x = false := by
    show decide (Jvm.FP.Core.decode Jvm.FP.Core.b32 x.toNat = .nan) = false
    rw [hvE, dec_norm ⟨by omega, by omega⟩ hT]
    rfl
  have e : FP.f2d x = UInt64.ofNat ((E + 896) * 4503599627370496 + T * 536870912) := by
    show (if Jvm.FP.Core.fIsNaN x = true then _ else UInt64.ofNat (Jvm.FP.Core.convert Jvm.FP.Core.b32 Jvm.FP.Core.b64 x.toNat)) = _
    rw [hnan, if_neg (by decide), hvE, f2d_norm ⟨by omega, by omega⟩ hT rfl]
  rw [e]
  refine n64_of ?_
  rw [UInt64.toNat_ofNat']
  exact Nat.le_trans (Nat.mod_le _ _) (by omega)
theorem one_n64 : vf_n64 (FP.f2d 3212836864) := by
  unfold vf_n64
  decide +kernel
theorem dc_self (y : UInt64) : FP.dcmp y y = none ∨ FP.dcmp y y = some .eq := by
  have e0 : FP.dcmp y y = Jvm.FP.Core.order (Jvm.FP.Core.decode Jvm.FP.Core.b64 y.toNat) (Jvm.FP.Core.decode Jvm.FP.Core.b64 y.toNat) := rfl
  rw [e0]
  have cs : ∀ a : Int, compare a a = .eq := fun a => by rw [Int.compare_eq_eq]
  cases Jvm.FP.Core.decode Jvm.FP.Core.b64 y.toNat with
  | nan => exact Or.inl rfl
  | inf s =>
    refine Or.inr ?_
    show some (compare (Jvm.FP.Core.signed s 1) (Jvm.FP.Core.signed s 1)) = some .eq
    rw [cs]
  | fin s c q =>
    refine Or.inr ?_
    show some (compare (Jvm.FP.Core.signed s (Jvm.FP.Core.inUnits c q (min q q))) (Jvm.FP.Core.signed s (Jvm.FP.Core.inUnits c q (min q q)))) = some .eq
    rw [cs]
theorem shot_gW {μ : N2} {sp : UInt32} {bl di sg sn : Int32} (hA : gA (μ 0)) (hTb : gTab μ) (hbl : vp_in bl 12) (hd : vp_in di 6) (hcb : vp_in (μ 0 (13 + bl).toNatClampNeg) 61) (hg : 10 ≤ sg.toInt ∧ sg.toInt ≤ 999) : gW (fX7_shot μ sp bl di sg sn).2.2 := by
  have h := mdN_J 1000000 (JM0 (sn := sn) hA hTb hbl hd hcb hg)
  unfold fX7_shot
  exact h.2.2.1
section SM
variable {hs : Int32} {σ σn : N2} {n : Int32} {o : Nat} {η : Nat → N2} {t μ : N2} {sp : UInt32}
theorem sl_n64 {bl di sg sn : Int32} (R : REL hs σ σn n o η t μ) : vf_n64 (FP.f2d (fX7_speedLeft μ sp bl di sg sn).1) := by
  have hF := R.2.1.1
  have hT := R.2.2.1
  unfold fX7_speedLeft
  by_cases h1 : fX7_isBall μ sp bl = 0
  · rw [if_pos h1]
    exact one_n64
  · rw [if_neg h1]
    by_cases h2 : fX7_isShot di sg sn = 0
    · rw [if_pos h2]
      exact one_n64
    · rw [if_neg h2]
      obtain ⟨k, hk, rfl, hk5⟩ := ball_nI (fun q => h1 ((ball_eq hF).mpr q))
      obtain ⟨⟨w, hw, rfl⟩, hg⟩ := shot_nI (fun q => h2 (shot_eq.mpr q))
      refine gW_n64 (shot_gW (sp := sp) hF.1 hT (vp_in_nI hk (by decide)) (vp_in_nI hw (by decide)) ?_ hg)
      rw [ix13 hk]
      exact (hF.1.2.1 k hk).resolve_right hk5
theorem REL_gE (R : REL hs σ σn n o η t μ) : gE μ := R.2.1.1.1.1
theorem REL_gA (R : REL hs σ σn n o η t μ) : gA (μ 0) := R.2.1.1.1
theorem REL_gTab (R : REL hs σ σn n o η t μ) : gTab μ := R.2.2.1
theorem REL_gH (R : REL hs σ σn n o η t μ) : gH μ := R.2.2.2.2.2.1.1
theorem REL_gT (R : REL hs σ σn n o η t μ) : gT μ := R.2.2.2.2.2.2.1
theorem REL_g4 (R : REL hs σ σn n o η t μ) : 0 ≤ (μ 4 12).toInt ∧ (μ 4 12).toInt ≤ 12 := R.2.2.2.2.1.1
theorem REL_gs (R : REL hs σ σn n o η t μ) : gset σ := by
  rw [R.1]
  intro i hi
  rw [cls_6 hi]
  exact R.2.1.1.1.2.2.1 i hi
end SM
theorem nar_c (x : Int32) : vp_nar .char ((x.toUInt32 % 65536).toInt32) = (x.toUInt32 % 65536).toInt32 := by
  have h : ∀ u : UInt32, u < 65536 → (u.toInt32.toUInt32 % 65536).toInt32 = u.toInt32 := by
    intro u hu
    rw [UInt32.lt_iff_toNat_lt] at hu
    have e : u.toInt32.toUInt32 = u := by simp
    rw [e]
    congr 1
    apply UInt32.toNat_inj.mp
    rw [UInt32.toNat_mod]
    exact Nat.mod_eq_of_lt hu
  refine h _ ?_
  rw [UInt32.lt_iff_toNat_lt, UInt32.toNat_mod]
  exact Nat.mod_lt _ (by decide)
/-! the script's places -/
theorem sx_ix {i L k : Nat} (c : Int32) (hc : c.toInt = (k : Int)) (hk : k < 6) (hi : i + 6 ≤ L) (hL : L ≤ 3072) : vp_in (nI i + c) L := by
  have e : (nI i).toInt = (i : Int) := Int32.toInt_ofNat_of_lt (show i < 2147483648 by omega)
  rw [vp_in_iff, ti_add (by rw [e, hc]; omega) (by rw [e, hc]; omega), e, hc]
  omega
theorem sx_0 {i L : Nat} (hi : i + 6 ≤ L) (hL : L ≤ 3072) : vp_in (nI i) L := by
  have e : (nI i).toInt = (i : Int) := Int32.toInt_ofNat_of_lt (show i < 2147483648 by omega)
  rw [vp_in_iff, e]
  omega
theorem sx_six {i : Nat} : nI i + 6 = nI (i + 6) := by
  rw [← nI_1 (i + 5), ← nI_1 (i + 4), ← nI_1 (i + 3), ← nI_1 (i + 2), ← nI_1 (i + 1), ← nI_1 i]
  simp only [Int32.add_assoc]
  congr 1
theorem sx_end {i L : Nat} (hi : i ≤ L) (hL : L ≤ 3072) : (Int32.ofNat L - 6 < nI i) ↔ L < i + 6 := by
  have e : (nI i).toInt = (i : Int) := Int32.toInt_ofNat_of_lt (show i < 2147483648 by omega)
  have eL : (Int32.ofNat L).toInt = (L : Int) := Int32.toInt_ofNat_of_lt (show L < 2147483648 by omega)
  have e6 : (6 : Int32).toInt = 6 := rfl
  rw [Int32.lt_iff_toInt_lt, ti_sub (by rw [eL, e6]; omega) (by rw [eL, e6]; omega), eL, e6, e]
  omega

