/-! speeds: a float from 1 to 128, slowed by 0.5 to 1.0 -/
theorem nr_le (n d : Nat) : Jvm.FP.Core.nearest n d ≤ n / d + 1 := by
  unfold Jvm.FP.Core.nearest
  split
  · omega
  · split
    · omega
    · omega
theorem nr_ge (n d : Nat) : n / d ≤ Jvm.FP.Core.nearest n d := by
  unfold Jvm.FP.Core.nearest
  split
  · omega
  · split
    · omega
    · omega
theorem dec_norm {E T : Nat} (hE : 1 ≤ E ∧ E ≤ 254) (hT : T < 8388608) : Jvm.FP.Core.decode Jvm.FP.Core.b32 (E * 8388608 + T) = .fin false (8388608 + T) (-149 + ((E : Int) - 1)) := by
  have t0 : Jvm.FP.Core.Fmt.tails Jvm.FP.Core.b32 = 8388608 := by decide
  have e0 : Jvm.FP.Core.Fmt.exps Jvm.FP.Core.b32 = 256 := by decide
  have q0 : Jvm.FP.Core.Fmt.qmin Jvm.FP.Core.b32 = -149 := by decide
  have hE1 : Jvm.FP.Core.fieldE Jvm.FP.Core.b32 (E * 8388608 + T) = E := by
    unfold Jvm.FP.Core.fieldE; rw [t0, e0]; omega
  have hT1 : Jvm.FP.Core.fieldT Jvm.FP.Core.b32 (E * 8388608 + T) = T := by
    unfold Jvm.FP.Core.fieldT; rw [t0]; omega
  have hS1 : Jvm.FP.Core.fieldS Jvm.FP.Core.b32 (E * 8388608 + T) = false := by
    unfold Jvm.FP.Core.fieldS; rw [t0, e0]
    have : (E * 8388608 + T) / 8388608 / 256 % 2 = 0 := by omega
    rw [this]; rfl
  unfold Jvm.FP.Core.decode
  rw [hE1, hT1, hS1, e0, t0, q0]
  rw [if_neg (by omega), if_neg (by omega)]
theorem enc_norm {c : Nat} {q : Int} (hc : 8388608 ≤ c) (hc2 : c ≤ 16777216) (hq : -149 ≤ q) (hq2 : q ≤ 100) : Jvm.FP.Core.encode Jvm.FP.Core.b32 (Jvm.FP.Core.settle Jvm.FP.Core.b32 false c q) = ((q + 149).toNat + 1) * 8388608 + (c - 8388608) := by
  have t0 : Jvm.FP.Core.Fmt.tails Jvm.FP.Core.b32 = 8388608 := by decide
  have q0 : Jvm.FP.Core.Fmt.qmin Jvm.FP.Core.b32 = -149 := by decide
  have q1 : Jvm.FP.Core.Fmt.qmax Jvm.FP.Core.b32 = 104 := by decide
  have p0 : (2 : Nat) ^ (Jvm.FP.Core.Fmt.p Jvm.FP.Core.b32) = 16777216 := by decide
  unfold Jvm.FP.Core.settle
  rw [p0]
  by_cases h : c < 16777216
  · rw [if_pos h]
    unfold Jvm.FP.Core.bound
    rw [q1, if_pos (by omega)]
    unfold Jvm.FP.Core.encode
    rw [t0]
    show (if c < 8388608 then _ else _) = _
    rw [if_neg (by omega)]
    unfold Jvm.FP.Core.assemble
    rw [t0, q0]
    have e1 : q - -149 = q + 149 := by omega
    rw [e1]
    simp
  · rw [if_neg h]
    unfold Jvm.FP.Core.bound
    rw [q1, if_pos (by omega)]
    unfold Jvm.FP.Core.encode
    rw [t0]
    show (if 8388608 < 8388608 then _ else _) = _
    rw [if_neg (by omega)]
    unfold Jvm.FP.Core.assemble
    rw [t0, q0]
    have e1 : (q + 1 - -149).toNat = (q + 149).toNat + 1 := by omega
    have e2 : c - 8388608 = 8388608 := by omega
    rw [e1, e2]
    simp
    omega
/-- the product of two normal numbers, its leading digit at L -/
theorem mul_norm {E T F U L : Nat} (hE : 1 ≤ E ∧ E ≤ 150) (hT : T < 8388608) (hF : 100 ≤ F ∧ F ≤ 127) (hEF : 127 ≤ E) (hU : U < 8388608) (hL : 46 ≤ L ∧ L ≤ 47) (h1 : 2 ^ L ≤ (8388608 + T) * (8388608 + U)) (h2 : (8388608 + T) * (8388608 + U) < 2 ^ (L + 1)) :
    Jvm.FP.Core.mul Jvm.FP.Core.b32 (E * 8388608 + T) (F * 8388608 + U) = (E + F + L - 173) * 8388608 + (Jvm.FP.Core.nearest ((8388608 + T) * (8388608 + U)) (2 ^ (L - 23)) - 8388608) := by
  unfold Jvm.FP.Core.mul
  rw [dec_norm ⟨hE.1, by omega⟩ hT, dec_norm ⟨by omega, by omega⟩ hU]
  show Jvm.FP.Core.encode _ (Jvm.FP.Core.round _ (.fin (false != false) ((8388608 + T) * (8388608 + U)) (-149 + ((E : Int) - 1) + (-149 + ((F : Int) - 1))))) = _
  generalize hp : (8388608 + T) * (8388608 + U) = p at h1 h2 ⊢
  have hp0 : p ≠ 0 := by have : 0 < 2 ^ L := Nat.pow_pos (by decide); omega
  show Jvm.FP.Core.encode _ (Jvm.FP.Core.roundRatio _ (false != false) p 1 (-149 + ((E : Int) - 1) + (-149 + ((F : Int) - 1)))) = _
  generalize he : (-149 + ((E : Int) - 1) + (-149 + ((F : Int) - 1))) = e
  have hlog : p.log2 = L := by
    have a1 : L ≤ p.log2 := (Nat.le_log2 hp0).mpr h1
    have a2 : p.log2 < L + 1 := (Nat.log2_lt hp0).mpr h2
    omega
  have hlead : Jvm.FP.Core.leading p 1 = (L : Int) := by
    unfold Jvm.FP.Core.leading
    rw [hlog, show Nat.log2 1 = 0 by decide]
    have e1 : ((L : Int) - ((0 : Nat) : Int)) = (L : Int) := by omega
    simp only [e1]
    rw [if_pos]
    have e2 : (-(L : Int)).toNat = 0 := by omega
    have e3 : ((L : Int)).toNat = L := by omega
    rw [e2, e3]
    omega
  have q0 : Jvm.FP.Core.Fmt.qmin Jvm.FP.Core.b32 = -149 := by decide
  have hquant : Jvm.FP.Core.quantum Jvm.FP.Core.b32 p 1 e = (L : Int) + e - 23 := by
    unfold Jvm.FP.Core.quantum
    rw [hlead, q0]
    show max (-149) ((L : Int) + e - ((24 : Int) - 1)) = _
    omega
  unfold Jvm.FP.Core.roundRatio
  rw [if_neg hp0, hquant]
  unfold Jvm.FP.Core.roundAt Jvm.FP.Core.unitsNum Jvm.FP.Core.unitsDen
  have e4 : (e - ((L : Int) + e - 23)).toNat = 0 := by omega
  have e5 : ((L : Int) + e - 23 - e).toNat = L - 23 := by omega
  rw [e4, e5, Nat.pow_zero, Nat.mul_one, Nat.one_mul]
  have hd : 0 < 2 ^ (L - 23) := Nat.pow_pos (by decide)
  have hs1 : 2 ^ L = 8388608 * 2 ^ (L - 23) := by
    rw [show (8388608 : Nat) = 2 ^ 23 by decide, ← Nat.pow_add]; congr 1; omega
  have hs2 : 2 ^ (L + 1) = 16777216 * 2 ^ (L - 23) := by
    rw [show (16777216 : Nat) = 2 ^ 24 by decide, ← Nat.pow_add]; congr 1; omega
  have hlo : 8388608 ≤ p / 2 ^ (L - 23) := (Nat.le_div_iff_mul_le hd).mpr (by omega)
  have hhi : p / 2 ^ (L - 23) < 16777216 := (Nat.div_lt_iff_lt_mul hd).mpr (by omega)
  have g1 := nr_ge p (2 ^ (L - 23))
  have g2 := nr_le p (2 ^ (L - 23))
  rw [show (false != false) = false from rfl, enc_norm (by omega) (by omega) (by omega) (by omega)]
  have e6 : ((L : Int) + e - 23 + 149).toNat + 1 = E + F + L - 173 := by omega
  rw [e6]
/-- a speed that moves: 1.0 to 128.0 -/
def gV (v : UInt32) : Prop := 1065353216 ≤ v.toNat ∧ v.toNat < 1124073472
/-- a speed at all: 0.5 to 128.0 -/
def gW (v : UInt32) : Prop := 1056964608 ≤ v.toNat ∧ v.toNat < 1124073472
/-- what is kept, of a setting in hundredths -/
abbrev kF (x : Int32) : UInt32 := FP.fdiv (FP.i2f x) 1120403456
def gK (x : Int32) : Prop := 50 ≤ x.toInt ∧ x.toInt ≤ 100
theorem n32_of {r : UInt32} (h : r.toNat ≤ 2139095040) : vf_n32 r := by
  unfold vf_n32
  rw [UInt32.le_iff_toNat_le, UInt32.toNat_and]
  exact Nat.le_trans Nat.and_le_left h
def kChk (j : Nat) : Bool := let b := (kF (nI (j + 50))).toNat
  if j = 50 then b == 1065353216 else decide (1056964608 ≤ b) && decide (b ≤ 1065185444)
theorem kChk_all : (List.range 51).all kChk = true := by decide +kernel
theorem kF_val {x : Int32} (h : gK x) : (x = 100 ∧ (kF x).toNat = 1065353216) ∨ (¬ x = 100 ∧ ∃ U : Nat, U ≤ 8220836 ∧ (kF x).toNat = 126 * 8388608 + U) := by
  obtain ⟨h1, h2⟩ := h
  obtain ⟨j, hj, hx⟩ : ∃ j : Nat, j < 51 ∧ x = nI (j + 50) := by
    refine ⟨(x.toInt - 50).toNat, by omega, ?_⟩
    apply Int32.toInt_inj.mp
    rw [nI_toInt (by omega)]
    omega
  have hc := List.all_eq_true.mp kChk_all j (List.mem_range.mpr hj)
  subst hx
  unfold kChk at hc
  by_cases hj5 : j = 50
  · subst hj5
    left
    refine ⟨by decide, ?_⟩
    simpa using hc
  · right
    refine ⟨fun e => hj5 ?_, ?_⟩
    · have e2 : nI (j + 50) = nI 100 := e
      have := (nI_eq (by omega) (by omega)).mp e2
      omega
    · simp only [hj5, if_false, Bool.and_eq_true, decide_eq_true_eq] at hc
      exact ⟨(kF (nI (j + 50))).toNat - 126 * 8388608, by omega, by omega⟩
theorem kF_n32 {x : Int32} (h : gK x) : vf_n32 (kF x) := by
  rcases kF_val h with ⟨-, e⟩ | ⟨-, U, hU, e⟩
  · exact n32_of (by omega)
  · exact n32_of (by omega)
theorem slow_val {v : UInt32} {x : Int32} (hv : gV v) (hx : gK x) : (FP.fmul v (kF x)).toNat ≤ v.toNat ∧ 1056964608 ≤ (FP.fmul v (kF x)).toNat ∧ (¬ x = 100 → (FP.fmul v (kF x)).toNat + 1000 ≤ v.toNat) := by
  obtain ⟨h1, h2⟩ := hv
  obtain ⟨E, T, hT, hvE⟩ : ∃ E T : Nat, T < 8388608 ∧ v.toNat = E * 8388608 + T := ⟨v.toNat / 8388608, v.toNat % 8388608, by omega, by omega⟩
  have hE : 127 ≤ E ∧ E ≤ 133 := by omega
  have hr : (FP.fmul v (kF x)).toNat = Jvm.FP.Core.mul Jvm.FP.Core.b32 v.toNat (kF x).toNat % 4294967296 := by
    show (UInt32.ofNat _).toNat = _
    rw [UInt32.toNat_ofNat']
  rcases kF_val hx with ⟨ex, e⟩ | ⟨nx, U, hU, e⟩
  · have hp1 : (8388608 + T) * (8388608 + 0) = (8388608 + T) * 8388608 := by rw [Nat.add_zero]
    have hm := mul_norm (E := E) (T := T) (F := 127) (U := 0) (L := 46) ⟨by omega, by omega⟩ hT ⟨by omega, by omega⟩ hE.1 (by omega) ⟨by omega, by omega⟩ (by rw [hp1]; omega) (by rw [hp1]; omega)
    have hn : Jvm.FP.Core.nearest ((8388608 + T) * (8388608 + 0)) (2 ^ (46 - 23)) = 8388608 + T := by
      unfold Jvm.FP.Core.nearest
      rw [hp1]
      have e1 : (8388608 + T) * 8388608 % 2 ^ (46 - 23) = 0 := by omega
      have e2 : (8388608 + T) * 8388608 / 2 ^ (46 - 23) = 8388608 + T := by omega
      rw [e1, if_pos (by decide), e2]
    rw [hn] at hm
    rw [hr, e, hvE, show (1065353216 : Nat) = 127 * 8388608 + 0 by decide, hm]
    refine ⟨by omega, by omega, fun q => absurd ex q⟩
  · obtain ⟨p, hp⟩ : ∃ p, p = (8388608 + T) * (8388608 + U) := ⟨_, rfl⟩
    have b1 : p ≤ (8388608 + T) * 16609444 := by rw [hp]; exact Nat.mul_le_mul_left _ (by omega)
    have b2 : (8388608 + T) * 8388608 ≤ p := by rw [hp]; exact Nat.mul_le_mul_left _ (by omega)
    by_cases hL : p < 140737488355328
    · have hm := mul_norm (E := E) (T := T) (F := 126) (U := U) (L := 46) ⟨by omega, by omega⟩ hT ⟨by omega, by omega⟩ hE.1 (by omega) ⟨by omega, by omega⟩ (by rw [← hp]; omega) (by rw [← hp]; omega)
      rw [← hp] at hm
      have g1 := nr_ge p (2 ^ (46 - 23))
      have g2 := nr_le p (2 ^ (46 - 23))
      have f1 : 8388608 ≤ p / 2 ^ (46 - 23) := by omega
      have f2 : p / 2 ^ (46 - 23) + 1 + 1000 ≤ 8388608 + (8388608 + T) := by omega
      rw [hr, e, hvE, hm]
      generalize Jvm.FP.Core.nearest p (2 ^ (46 - 23)) = c at g1 g2 ⊢
      generalize p / 2 ^ (46 - 23) = d at g1 g2 f1 f2
      refine ⟨by omega, by omega, fun _ => by omega⟩
    · have hm := mul_norm (E := E) (T := T) (F := 126) (U := U) (L := 47) ⟨by omega, by omega⟩ hT ⟨by omega, by omega⟩ hE.1 (by omega) ⟨by omega, by omega⟩ (by rw [← hp]; omega) (by rw [← hp]; omega)
      rw [← hp] at hm
      have g1 := nr_ge p (2 ^ (47 - 23))
      have g2 := nr_le p (2 ^ (47 - 23))
      have f1 : 8388608 ≤ p / 2 ^ (47 - 23) := by omega
      have f2 : p / 2 ^ (47 - 23) + 1 + 1000 ≤ 8388608 + T := by omega
      rw [hr, e, hvE, hm]
      generalize Jvm.FP.Core.nearest p (2 ^ (47 - 23)) = c at g1 g2 ⊢
      generalize p / 2 ^ (47 - 23) = d at g1 g2 f1 f2
      refine ⟨by omega, by omega, fun _ => by omega⟩
theorem slow_gW {v : UInt32} {x : Int32} (hv : gV v) (hx : gK x) : gW (FP.fmul v (kF x)) := by
  obtain ⟨h1, h2, -⟩ := slow_val hv hx
  exact ⟨h2, Nat.lt_of_le_of_lt h1 hv.2⟩
theorem slow_n32 {v : UInt32} {x : Int32} (hv : gV v) (hx : gK x) : vf_n32 (FP.fmul v (kF x)) := n32_of (by have := (slow_val hv hx).1; have := hv.2; omega)
def sChk (j : Nat) : Bool := let b := (FP.fdiv (FP.i2f (nI (j + 10))) 1092616192).toNat
  decide (1065353216 ≤ b) && decide (b < 1124073472)
theorem sChk_all : (List.range 990).all sChk = true := by decide +kernel
theorem first_gV {x : Int32} (h1 : 10 ≤ x.toInt) (h2 : x.toInt ≤ 999) : gV (FP.fdiv (FP.i2f x) 1092616192) := by
  obtain ⟨j, hj, hx⟩ : ∃ j : Nat, j < 990 ∧ x = nI (j + 10) := by
    refine ⟨(x.toInt - 10).toNat, by omega, ?_⟩
    apply Int32.toInt_inj.mp
    rw [nI_toInt (by omega)]
    omega
  have hc := List.all_eq_true.mp sChk_all j (List.mem_range.mpr hj)
  subst hx
  unfold sChk at hc
  simp only [Bool.and_eq_true, decide_eq_true_eq] at hc
  exact hc
theorem gV_n32 {v : UInt32} (h : gV v) : vf_n32 v := n32_of (by have := h.2; omega)
theorem gV_gW {v : UInt32} (h : gV v) : gW v := ⟨by have := h.1; omega, h.2⟩
/-- the comparison with 1.0 -/
theorem cmp_gV {v : UInt32} (h : gW v) : ¬ Op.cmpValue (FP.fcmp v FP.fconst1) .l < 0 ↔ gV v := by
  obtain ⟨h1, h2⟩ := h
  obtain ⟨E, T, hT, hvE⟩ : ∃ E T : Nat, T < 8388608 ∧ v.toNat = E * 8388608 + T := ⟨v.toNat / 8388608, v.toNat % 8388608, by omega, by omega⟩
  have hE : 126 ≤ E ∧ E ≤ 133 := by omega
  have e0 : FP.fcmp v FP.fconst1 = Jvm.FP.Core.order (Jvm.FP.Core.decode Jvm.FP.Core.b32 v.toNat) (Jvm.FP.Core.decode Jvm.FP.Core.b32 1065353216) := rfl
  have e1 : Jvm.FP.Core.decode Jvm.FP.Core.b32 1065353216 = .fin false 8388608 (-23) := by decide +kernel
  rw [e0, e1, hvE, dec_norm ⟨by omega, by omega⟩ hT]
  show ¬ Op.cmpValue (some (compare ((Jvm.FP.Core.inUnits (8388608 + T) (-149 + ((E : Int) - 1)) (min (-149 + ((E : Int) - 1)) (-23)) : Nat) : Int) ((Jvm.FP.Core.inUnits 8388608 (-23) (min (-149 + ((E : Int) - 1)) (-23)) : Nat) : Int))) .l < 0 ↔ _
  by_cases hb : E = 126
  · subst hb
    have k1 : Jvm.FP.Core.inUnits (8388608 + T) (-149 + (((126 : Nat) : Int) - 1)) (min (-149 + (((126 : Nat) : Int) - 1)) (-23)) = 8388608 + T := by
      unfold Jvm.FP.Core.inUnits
      rw [show (-149 + (((126 : Nat) : Int) - 1) - min (-149 + (((126 : Nat) : Int) - 1)) (-23)).toNat = 0 by decide]; omega
    have k2 : Jvm.FP.Core.inUnits 8388608 (-23) (min (-149 + (((126 : Nat) : Int) - 1)) (-23)) = 16777216 := by decide
    rw [k1, k2]
    have k3 : compare ((8388608 + T : Nat) : Int) ((16777216 : Nat) : Int) = .lt := by
      rw [Int.compare_eq_lt]; omega
    rw [k3]
    refine ⟨fun q => absurd (by decide) q, fun q => ?_⟩
    have := q.1
    omega
  · have k1 : 8388608 ≤ Jvm.FP.Core.inUnits (8388608 + T) (-149 + ((E : Int) - 1)) (min (-149 + ((E : Int) - 1)) (-23)) := by
      unfold Jvm.FP.Core.inUnits
      have : 0 < 2 ^ (-149 + ((E : Int) - 1) - min (-149 + ((E : Int) - 1)) (-23)).toNat := Nat.pow_pos (by decide)
      calc 8388608 ≤ 8388608 + T := by omega
        _ = (8388608 + T) * 1 := (Nat.mul_one _).symm
        _ ≤ _ := Nat.mul_le_mul_left _ this
    have k2 : Jvm.FP.Core.inUnits 8388608 (-23) (min (-149 + ((E : Int) - 1)) (-23)) = 8388608 := by
      unfold Jvm.FP.Core.inUnits
      rw [show (-23 - min (-149 + ((E : Int) - 1)) (-23)).toNat = 0 by omega]
    rw [k2]
    refine ⟨fun _ => ⟨by omega, h2⟩, fun _ q => ?_⟩
    cases hc : compare ((Jvm.FP.Core.inUnits (8388608 + T) (-149 + ((E : Int) - 1)) (min (-149 + ((E : Int) - 1)) (-23)) : Nat) : Int) ((8388608 : Nat) : Int) with
    | lt => rw [Int.compare_eq_lt] at hc; omega
    | eq => rw [hc] at q; exact absurd q (by decide)
    | gt => rw [hc] at q; exact absurd q (by decide)
