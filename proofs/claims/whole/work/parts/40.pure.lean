/-! reading a text, side by side (wip/whole/gen/p40.lean) -/
/-- the reference at a place of a text -/
def TS (c : N1) (len : Nat) (μ : N2) (p : Nat) : Prop := μ 9 11 = nI p ∧ μ 9 10 = nI len ∧ ∀ j : Nat, j < 60 → μ 8 j = c j
theorem TS_gT {c : N1} {len : Nat} {μ : N2} {p : Nat} (h : TS c len μ p) (hl : len ≤ 60) : gT μ := by
  unfold gT
  rw [h.2.1, toI (by omega)]
  omega
theorem TS_gS {c : N1} {len : Nat} {μ : N2} {p : Nat} (h : TS c len μ p) (hl : len ≤ 60) (hp : p ≤ len) : gS μ := by
  unfold gS
  rw [h.1, h.2.1, toI (by omega), toI (by omega)]
  omega
/-- a text's place moved -/
theorem TS_move {c : N1} {len : Nat} {μ μ2 : N2} {p p2 : Nat} (h : TS c len μ p) (hs : spO μ μ2) (e : μ2 9 11 = nI p2) : TS c len μ2 p2 := by
  refine ⟨e, ?_, fun j hj => ?_⟩
  · rw [hs.2.1 10 (by decide)]; exact h.2.1
  · rw [hs.1 8 (by decide)]; exact h.2.2 j hj
def dig (c : N1) (len : Nat) (lo : Int) (p : Nat) : Prop := p < len ∧ lo ≤ (c p).toInt ∧ (c p).toInt ≤ 57
def grow (c : N1) (len : Nat) (mo : Int32) (p : Nat) : Prop := 0 < (c p - 48).toInt ∧ dig c len 48 (p + 1) ∧ ¬ mo < (10 * (c p - 48) + c (p + 1)) - 48
theorem here_iff {c : N1} {len : Nat} {μ : N2} {p : Nat} {sp : UInt32} {lo hi : Int32} (h : TS c len μ p) (hp : p ≤ 60) (hl : len ≤ 60) : fX7_isHere μ sp lo hi = 0 ↔ ¬ (p < len ∧ lo.toInt ≤ (c p).toInt ∧ (c p).toInt ≤ hi.toInt) := by
  unfold fX7_isHere
  rw [h.1, h.2.1]
  by_cases h1 : nI len ≤ nI p
  · rw [if_pos h1]
    rw [Int32.le_iff_toInt_le, toI (by omega), toI (by omega)] at h1
    exact ⟨fun _ q => by omega, fun _ => rfl⟩
  · rw [if_neg h1]
    rw [Int32.le_iff_toInt_le, toI (by omega), toI (by omega)] at h1
    have hpl : p < len := by omega
    rw [nI_c (by omega), h.2.2 p (by omega)]
    have el : lo.toInt64.toInt = lo.toInt := Int32.toInt_toInt64 lo
    have eh : hi.toInt64.toInt = hi.toInt := Int32.toInt_toInt64 hi
    by_cases h2 : fX7_in ((c p).toInt64) lo.toInt64 hi.toInt64 = 0
    · rw [if_pos h2]
      rw [in_iff, el, eh] at h2
      exact ⟨fun _ q => by omega, fun _ => rfl⟩
    · rw [if_neg h2]
      rw [in_iff, el, eh] at h2
      exact ⟨fun q => absurd q (by decide), fun q => absurd ⟨hpl, by omega, by omega⟩ q⟩
theorem num_ref {c : N1} {len : Nat} {μ : N2} {p : Nat} {sp : UInt32} {le mo : Int32} {lo : Int} (h : TS c len μ p) (hp : p ≤ len) (hl : len ≤ 60) (hlo : (48 + le).toInt = lo) :
    (¬ dig c len lo p → fX7_readsNumber μ sp le mo = (0, μ)) ∧ (dig c len lo p → (fX7_readsNumber μ sp le mo).1 = 1 ∧ (grow c len mo p → (fX7_readsNumber μ sp le mo).2 9 11 = nI (p + 2) ∧ (fX7_readsNumber μ sp le mo).2 9 12 = (10 * (c p - 48) + c (p + 1)) - 48) ∧ (¬ grow c len mo p → (fX7_readsNumber μ sp le mo).2 9 11 = nI (p + 1) ∧ (fX7_readsNumber μ sp le mo).2 9 12 = c p - 48)) := by
  have f57 : (57 : Int32).toInt = 57 := rfl
  have f48 : (48 : Int32).toInt = 48 := rfl
  have hi := here_iff (sp := sp) (lo := 48 + le) (hi := 57) h (by omega) hl
  rw [hlo, f57] at hi
  unfold fX7_readsNumber
  refine ⟨fun hd => by rw [if_pos (hi.mpr hd)], fun hd => ?_⟩
  rw [if_neg (fun q => hi.mp q hd)]
  have hpl : p < len := hd.1
  have e8 : μ 8 (μ 9 11).toNatClampNeg = c p := by rw [h.1, nI_c (by omega), h.2.2 p (by omega)]
  rw [e8]
  have e11 : (u2 μ 9 12 (c p - 48)) 9 11 = nI p := by rw [u2_at, if_neg (by decide), h.1]
  rw [e11, nI_1]
  have m12 : (u2 (u2 μ 9 12 (c p - 48)) 9 11 (nI (p + 1))) 9 12 = c p - 48 := by rw [u2_at, if_neg (by decide), u2_at, if_pos rfl]
  have m11 : (u2 (u2 μ 9 12 (c p - 48)) 9 11 (nI (p + 1))) 9 11 = nI (p + 1) := by rw [u2_at, if_pos rfl]
  have m10 : (u2 (u2 μ 9 12 (c p - 48)) 9 11 (nI (p + 1))) 9 10 = nI len := by rw [u2_at, if_neg (by decide), u2_at, if_neg (by decide), h.2.1]
  have m8 : (u2 (u2 μ 9 12 (c p - 48)) 9 11 (nI (p + 1))) 8 = μ 8 := by rw [u2_row (by decide), u2_row (by decide)]
  generalize u2 (u2 μ 9 12 (c p - 48)) 9 11 (nI (p + 1)) = μ1 at m12 m11 m10 m8 ⊢
  have h1 : TS c len μ1 (p + 1) := ⟨m11, m10, fun j hj => by rw [m8]; exact h.2.2 j hj⟩
  have hi1 := here_iff (sp := sp) (lo := 48) (hi := 57) h1 (by omega) hl
  rw [f48, f57] at hi1
  rw [m12]
  by_cases g1 : c p - 48 ≤ 0
  · rw [if_pos g1]
    rw [Int32.le_iff_toInt_le, Int32.toInt_zero] at g1
    exact ⟨rfl, fun q => absurd q.1 (by omega), fun _ => ⟨m11, m12⟩⟩
  · rw [if_neg g1]
    rw [Int32.le_iff_toInt_le, Int32.toInt_zero] at g1
    by_cases g2 : fX7_isHere μ1 sp 48 57 = 0
    · rw [if_pos g2]
      exact ⟨rfl, fun q => absurd q.2.1 (hi1.mp g2), fun _ => ⟨m11, m12⟩⟩
    · rw [if_neg g2]
      have hd1 : dig c len 48 (p + 1) := Classical.byContradiction fun q => g2 (hi1.mpr q)
      have e81 : μ1 8 (μ1 9 11).toNatClampNeg = c (p + 1) := by
        have := hd1.1
        rw [m11, nI_c (by omega), h1.2.2 (p + 1) (by omega)]
      rw [e81]
      by_cases g3 : mo < (10 * (c p - 48) + c (p + 1)) - 48
      · rw [if_pos g3]
        exact ⟨rfl, fun q => absurd g3 q.2.2, fun _ => ⟨m11, m12⟩⟩
      · rw [if_neg g3]
        refine ⟨rfl, fun _ => ⟨?_, ?_⟩, fun q => absurd ⟨by omega, hd1, g3⟩ q⟩
        · show (u2 (u2 μ1 9 12 ((10 * (c p - 48) + c (p + 1)) - 48)) 9 11 ((u2 μ1 9 12 ((10 * (c p - 48) + c (p + 1)) - 48)) 9 11 + 1)) 9 11 = nI (p + 2)
          rw [u2_at, if_pos rfl, u2_at, if_neg (by decide), m11]
          exact nI_1 (p + 1)
        · show (u2 (u2 μ1 9 12 ((10 * (c p - 48) + c (p + 1)) - 48)) 9 11 ((u2 μ1 9 12 ((10 * (c p - 48) + c (p + 1)) - 48)) 9 11 + 1)) 9 12 = ((10 * (c p - 48) + c (p + 1)) - 48)
          rw [u2_at, if_neg (by decide), u2_at, if_pos rfl]
/-! the class's automaton -/
def dR (k : Nat) (t : N2) : Int32 × N2 := rdN (60 - k) k t
theorem dR_end {len : Nat} {t : N2} (hl : len ≤ 60) (h3 : t 3 0 = nI len) : dR len t = rdF t := by
  unfold dR
  by_cases h : len = 60
  · rw [h]
    rfl
  · obtain ⟨m, hm⟩ : ∃ m, 60 - len = m + 1 := ⟨59 - len, by omega⟩
    rw [hm]
    unfold rdN
    rw [h3, if_pos (Int32.le_refl _)]
theorem dR_go {len k : Nat} {t : N2} (hl : len ≤ 60) (h3 : t 3 0 = nI len) (hk : k < len) : dR k t = if (fX0_takes t (t 0 k)).1 = 0 then (nI k, (fX0_takes t (t 0 k)).2) else dR (k + 1) (fX0_takes t (t 0 k)).2 := by
  unfold dR
  obtain ⟨m, hm⟩ : ∃ m, 60 - k = m + 1 := ⟨59 - k, by omega⟩
  rw [hm, show 60 - (k + 1) = m by omega]
  conv => lhs; unfold rdN
  have hn : ¬ nI len ≤ nI k := by
    rw [Int32.le_iff_toInt_le, toI (by omega), toI (by omega)]
    omega
  rw [h3, if_neg hn, nI_c (by omega)]
/-- the text's automaton behind a number -/
def NT (t t2 : N2) (np v : Int32) : Prop := t2 3 3 = v ∧ t2 3 2 = np ∧ t2 3 0 = t 3 0 ∧ t2 3 1 = t 3 1 ∧ t2 0 = t 0 ∧ t2 1 = t 1 ∧ t2 2 = t 2
theorem grows_no {t : N2} {ch hi : Int32} (h : ¬ (48 ≤ ch.toInt ∧ ch.toInt ≤ 57) ∨ t 3 3 = 0 ∨ ¬ ((t 3 3) * 10) + (ch - 48) ≤ hi) : fX0_growsNumber t ch hi = (0, t) := by
  have f57 : (57 : Int32).toInt = 57 := rfl
  have f48 : (48 : Int32).toInt = 48 := rfl
  unfold fX0_growsNumber
  by_cases h1 : ch < 48
  · rw [if_pos h1]
  rw [if_neg h1]
  by_cases h2 : 57 < ch
  · rw [if_pos h2]
  rw [if_neg h2]
  rw [Int32.lt_iff_toInt_lt, f48] at h1
  rw [Int32.lt_iff_toInt_lt, f57] at h2
  by_cases h3 : t 3 3 = 0
  · rw [if_pos h3]
  rw [if_neg h3]
  rcases h with h | h | h
  · exact absurd ⟨by omega, by omega⟩ h
  · exact absurd h h3
  · rw [if_neg h]
theorem grows_yes {t : N2} {ch hi : Int32} (h : 48 ≤ ch.toInt ∧ ch.toInt ≤ 57) (h3 : ¬ t 3 3 = 0) (h4 : ((t 3 3) * 10) + (ch - 48) ≤ hi) : fX0_growsNumber t ch hi = (1, u2 t 3 3 (((t 3 3) * 10) + (ch - 48))) := by
  have f57 : (57 : Int32).toInt = 57 := rfl
  have f48 : (48 : Int32).toInt = 48 := rfl
  unfold fX0_growsNumber
  rw [if_neg (by rw [Int32.lt_iff_toInt_lt, f48]; omega), if_neg (by rw [Int32.lt_iff_toInt_lt, f57]; omega), if_neg h3, if_pos h4]
theorem ten {a b : Int32} : (10 * (a - 48) + b) - 48 = (a - 48) * 10 + (b - 48) := by
  rw [Int32.mul_comm 10 (a - 48), Int32.sub_eq_add_neg ((a - 48) * 10 + b), Int32.add_assoc, ← Int32.sub_eq_add_neg b]
theorem ten_i {a b : Int32} (ha : 48 ≤ a.toInt ∧ a.toInt ≤ 57) (hb : 48 ≤ b.toInt ∧ b.toInt ≤ 57) : ((a - 48) * 10 + (b - 48)).toInt = (a.toInt - 48) * 10 + (b.toInt - 48) := by
  have f48 : (48 : Int32).toInt = 48 := rfl
  have f10 : (10 : Int32).toInt = 10 := rfl
  have e1 : (a - 48).toInt = a.toInt - 48 := by rw [ti_sub (by rw [f48]; omega) (by rw [f48]; omega), f48]
  have e2 : (b - 48).toInt = b.toInt - 48 := by rw [ti_sub (by rw [f48]; omega) (by rw [f48]; omega), f48]
  have e3 : ((a - 48) * 10).toInt = (a.toInt - 48) * 10 := by rw [ti_mul (by rw [e1, f10]; omega) (by rw [e1, f10]; omega), e1, f10]
  rw [ti_add (by rw [e3, e2]; omega) (by rw [e3, e2]; omega), e3, e2]
theorem one_i {a : Int32} (ha : 48 ≤ a.toInt ∧ a.toInt ≤ 57) : (a - 48).toInt = a.toInt - 48 := by
  have f48 : (48 : Int32).toInt = 48 := rfl
  rw [ti_sub (by rw [f48]; omega) (by rw [f48]; omega), f48]
theorem num_cls {c : N1} {len : Nat} {t : N2} {p : Nat} {lw np mo sep : Int32} {lo : Int} (hl : len ≤ 60) (hp : p ≤ len) (h3 : t 3 0 = nI len) (hc : ∀ j : Nat, j < 60 → t 0 j = c j) (h23 : ¬ t 3 2 = 3) (hlo : lw.toInt = lo) (hlo2 : 48 ≤ lo) (hmo : 0 ≤ mo.toInt ∧ mo.toInt ≤ 60)
    (hb : ∀ ch, fX0_takes t ch = fX0_beginsNumber t ch lw np) (hsep : 57 < sep.toInt) (hg : ∀ (t2 : N2) (ch : Int32), t2 3 2 = np → ¬ ch = sep → fX0_takes t2 ch = fX0_growsNumber t2 ch mo) :
    (¬ dig c len lo p → (dR p t).1 = nI p) ∧ (dig c len lo p → (grow c len mo p → ∃ t2, dR p t = dR (p + 2) t2 ∧ NT t t2 np ((10 * (c p - 48) + c (p + 1)) - 48) ∧ (p + 2 < len → fX0_growsNumber t2 (c (p + 2)) mo = (0, t2)) ∧ p + 2 ≤ len) ∧ (¬ grow c len mo p → ∃ t2, dR p t = dR (p + 1) t2 ∧ NT t t2 np (c p - 48) ∧ (p + 1 < len → fX0_growsNumber t2 (c (p + 1)) mo = (0, t2)))) := by
  have f57 : (57 : Int32).toInt = 57 := rfl
  have beg : ∀ ch : Int32, fX0_beginsNumber t ch lw np = if lo ≤ ch.toInt ∧ ch.toInt ≤ 57 then (1, u2 (u2 t 3 3 (ch - 48)) 3 2 np) else (0, t) := by
    intro ch
    unfold fX0_beginsNumber
    by_cases h1 : ch < lw
    · rw [if_pos h1, if_neg]
      rw [Int32.lt_iff_toInt_lt, hlo] at h1
      omega
    · rw [if_neg h1]
      rw [Int32.lt_iff_toInt_lt, hlo] at h1
      by_cases h2 : ch ≤ 57
      · rw [if_pos h2, if_pos]
        rw [Int32.le_iff_toInt_le, f57] at h2
        omega
      · rw [if_neg h2, if_neg]
        rw [Int32.le_iff_toInt_le, f57] at h2
        omega
  refine ⟨fun hd => ?_, fun hd => ?_⟩
  · by_cases hpl : p < len
    · have hbv : fX0_beginsNumber t (c p) lw np = (0, t) := by
        rw [beg, if_neg]
        exact fun q => hd ⟨hpl, q.1, q.2⟩
      rw [dR_go hl h3 hpl, hc p (by omega), hb, hbv, if_pos (show ((0 : Int32), t).1 = 0 from rfl)]
    · obtain rfl : p = len := by omega
      rw [dR_end hl h3]
      unfold rdF
      rw [if_neg h23]
      exact h3
  · have hpl := hd.1
    have hd2 : 48 ≤ (c p).toInt ∧ (c p).toInt ≤ 57 := ⟨by have := hd.2.1; omega, hd.2.2⟩
    have e1 : dR p t = dR (p + 1) (u2 (u2 t 3 3 (c p - 48)) 3 2 np) := by
      have hbv : fX0_beginsNumber t (c p) lw np = (1, u2 (u2 t 3 3 (c p - 48)) 3 2 np) := by
        rw [beg, if_pos]
        exact ⟨hd.2.1, hd.2.2⟩
      rw [dR_go hl h3 hpl, hc p (by omega), hb, hbv, if_neg (show ¬ ((1 : Int32), u2 (u2 t 3 3 (c p - 48)) 3 2 np).1 = 0 from (by decide : ¬ (1 : Int32) = 0))]
    have n1 : NT t (u2 (u2 t 3 3 (c p - 48)) 3 2 np) np (c p - 48) := by
      refine ⟨?_, ?_, ?_, ?_, ?_, ?_, ?_⟩
      · rw [u2_at, if_neg (by decide), u2_at, if_pos rfl]
      · rw [u2_at, if_pos rfl]
      · rw [u2_at, if_neg (by decide), u2_at, if_neg (by decide)]
      · rw [u2_at, if_neg (by decide), u2_at, if_neg (by decide)]
      · rw [u2_row (by decide), u2_row (by decide)]
      · rw [u2_row (by decide), u2_row (by decide)]
      · rw [u2_row (by decide), u2_row (by decide)]
    generalize u2 (u2 t 3 3 (c p - 48)) 3 2 np = t1 at e1 n1
    have n33 := n1.1
    have o1 := one_i hd2
    refine ⟨fun hgr => ?_, fun hgr => ⟨t1, e1, n1, fun hq => ?_⟩⟩
    · obtain ⟨g1, g2, g3⟩ := hgr
      have hq := g2.1
      have hnz : ¬ t1 3 3 = 0 := by
        rw [n33]
        intro q
        rw [q, Int32.toInt_zero] at g1
        omega
      have hle : t1 3 3 * 10 + (c (p + 1) - 48) ≤ mo := by
        rw [n33, ← ten]
        exact Int32.not_lt.mp g3
      have hns : ¬ c (p + 1) = sep := by
        intro q
        have := g2.2.2
        rw [q] at this
        omega
      have e2 : dR (p + 1) t1 = dR (p + 2) (u2 t1 3 3 (t1 3 3 * 10 + (c (p + 1) - 48))) := by
        rw [dR_go hl (n1.2.2.1.trans h3) hq, n1.2.2.2.2.1, hc (p + 1) (by omega), hg t1 _ n1.2.1 hns, grows_yes g2.2 hnz hle, if_neg (show ¬ ((1 : Int32), u2 t1 3 3 (t1 3 3 * 10 + (c (p + 1) - 48))).1 = 0 from (by decide : ¬ (1 : Int32) = 0))]
      refine ⟨_, e1.trans e2, ⟨?_, ?_, ?_, ?_, ?_, ?_, ?_⟩, fun _ => ?_, by omega⟩
      · rw [u2_at, if_pos rfl, n33, ten]
      · rw [u2_at, if_neg (by decide)]; exact n1.2.1
      · rw [u2_at, if_neg (by decide)]; exact n1.2.2.1
      · rw [u2_at, if_neg (by decide)]; exact n1.2.2.2.1
      · rw [u2_row (by decide)]; exact n1.2.2.2.2.1
      · rw [u2_row (by decide)]; exact n1.2.2.2.2.2.1
      · rw [u2_row (by decide)]; exact n1.2.2.2.2.2.2
      · by_cases hdg : 48 ≤ (c (p + 2)).toInt ∧ (c (p + 2)).toInt ≤ 57
        · refine grows_no (Or.inr (Or.inr ?_))
          rw [u2_at, if_pos rfl, n33]
          have v1 := ten_i hd2 g2.2
          rw [o1] at g1
          have f10 : (10 : Int32).toInt = 10 := rfl
          have v2 : (((c p - 48) * 10 + (c (p + 1) - 48)) * 10).toInt = ((c p).toInt - 48) * 100 + ((c (p + 1)).toInt - 48) * 10 := by
            have := g2.2
            rw [ti_mul (by rw [v1, f10]; omega) (by rw [v1, f10]; omega), v1, f10]
            omega
          have v3 := one_i hdg
          have v4 : (((c p - 48) * 10 + (c (p + 1) - 48)) * 10 + (c (p + 2) - 48)).toInt = ((c p).toInt - 48) * 100 + ((c (p + 1)).toInt - 48) * 10 + ((c (p + 2)).toInt - 48) := by
            have := g2.2
            rw [ti_add (by rw [v2, v3]; omega) (by rw [v2, v3]; omega), v2, v3]
          rw [Int32.le_iff_toInt_le, v4]
          have := g2.2
          omega
        · exact grows_no (Or.inl hdg)
    · by_cases hdg : 48 ≤ (c (p + 1)).toInt ∧ (c (p + 1)).toInt ≤ 57
      · refine grows_no (Or.inr ?_)
        rw [n33]
        by_cases hz : c p - 48 = 0
        · exact Or.inl hz
        · refine Or.inr fun q => hgr ⟨?_, ⟨hq, hdg.1, hdg.2⟩, ?_⟩
          · have := ne_i (k := 0) hz
            rw [Int32.toInt_zero] at this
            omega
          · rw [ten]
            exact Int32.not_lt.mpr q
      · exact grows_no (Or.inl hdg)

