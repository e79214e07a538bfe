/-! the balls of a text, side by side (wip/whole/gen/p41.lean) -/
def Num (c : N1) (len : Nat) (mo : Int32) (p p1 : Nat) (v : Int32) : Prop := (grow c len mo p ∧ p1 = p + 2 ∧ v = (10 * (c p - 48) + c (p + 1)) - 48) ∨ (¬ grow c len mo p ∧ p1 = p + 1 ∧ v = c p - 48)
theorem Num_ex (c : N1) (len : Nat) (mo : Int32) (p : Nat) : ∃ p1 v, Num c len mo p p1 v := by
  by_cases h : grow c len mo p
  · exact ⟨_, _, Or.inl ⟨h, rfl, rfl⟩⟩
  · exact ⟨_, _, Or.inr ⟨h, rfl, rfl⟩⟩
theorem Num_le {c : N1} {len : Nat} {mo : Int32} {p p1 : Nat} {v : Int32} (h : Num c len mo p p1 v) (hp : p < len) : p + 1 ≤ p1 ∧ p1 ≤ len := by
  rcases h with ⟨h1, rfl, -⟩ | ⟨-, rfl, -⟩
  · have := h1.2.1.1
    omega
  · omega
theorem Num_val {c : N1} {len : Nat} {mo : Int32} {p p1 : Nat} {v : Int32} {lo : Int} (h : Num c len mo p p1 v) (hd : dig c len lo p) (hlo : 48 ≤ lo) (hmo : mo.toInt = 60 ∨ 9 ≤ mo.toInt) : lo - 48 ≤ v.toInt ∧ (v.toInt ≤ mo.toInt ∨ v.toInt ≤ 9) := by
  have hd2 : 48 ≤ (c p).toInt ∧ (c p).toInt ≤ 57 := ⟨by have := hd.2.1; omega, hd.2.2⟩
  have o1 := one_i hd2
  have hd3 := hd.2.1
  rcases h with ⟨h1, -, rfl⟩ | ⟨-, -, rfl⟩
  · have hd4 := h1.2.1.2
    have v1 := ten_i hd2 hd4
    have h2 := h1.2.2
    rw [ten] at h2 ⊢
    rw [Int32.lt_iff_toInt_lt, v1] at h2
    have h3 := h1.1
    rw [o1] at h3
    rw [v1]
    omega
  · rw [o1]
    omega
theorem num_ref2 {c : N1} {len : Nat} {μ : N2} {p p1 : Nat} {sp : UInt32} {le mo v : Int32} {lo : Int} (h : TS c len μ p) (hp : p ≤ len) (hl : len ≤ 60) (hlo : (48 + le).toInt = lo) (hd : dig c len lo p) (hN : Num c len mo p p1 v) : (fX7_readsNumber μ sp le mo).1 = 1 ∧ (fX7_readsNumber μ sp le mo).2 9 11 = nI p1 ∧ (fX7_readsNumber μ sp le mo).2 9 12 = v := by
  obtain ⟨a, b, d⟩ := (num_ref (sp := sp) (mo := mo) h hp hl hlo).2 hd
  rcases hN with ⟨h1, rfl, rfl⟩ | ⟨h1, rfl, rfl⟩
  · exact ⟨a, b h1⟩
  · exact ⟨a, d h1⟩
theorem take_ref {c : N1} {len : Nat} {μ : N2} {p : Nat} {sp : UInt32} {ch : Int32} (h : TS c len μ p) (hp : p ≤ len) (hl : len ≤ 60) : (p < len → c p = ch → (fX7_takes μ sp ch).1 = 1 ∧ (fX7_takes μ sp ch).2 9 11 = nI (p + 1)) ∧ (¬ (p < len ∧ c p = ch) → (fX7_takes μ sp ch).1 = 0 ∧ (fX7_takes μ sp ch).2 9 11 = nI p) ∧ ∀ j, ¬ j = 11 → (fX7_takes μ sp ch).2 9 j = μ 9 j := by
  have hi := here_iff (sp := sp) (lo := ch) (hi := ch) h (by omega) hl
  unfold fX7_takes
  by_cases h1 : fX7_isHere μ sp ch ch = 0
  · rw [if_pos h1]
    have h2 := hi.mp h1
    refine ⟨fun a b => absurd ⟨a, by rw [b]; omega, by rw [b]; omega⟩ h2, fun _ => ⟨h1, ?_⟩, fun j hj => ?_⟩
    · show (u2 μ 9 11 (μ 9 11 + 0)) 9 11 = nI p
      rw [u2_at, if_pos rfl, Int32.add_zero]
      exact h.1
    · show (u2 μ 9 11 (μ 9 11 + 0)) 9 j = μ 9 j
      rw [u2_at, if_neg hj]
  · rw [if_neg h1]
    have h2 : p < len ∧ ch.toInt ≤ (c p).toInt ∧ (c p).toInt ≤ ch.toInt := Classical.byContradiction fun q => h1 (hi.mpr q)
    have h3 : c p = ch := Int32.toInt_inj.mp (by omega)
    have h4 : fX7_isHere μ sp ch ch = 1 := by
      unfold fX7_isHere at h1 ⊢
      split at h1
      · exact absurd rfl h1
      · split at h1
        · exact absurd rfl h1
        · rename_i a b
          rw [if_neg a, if_neg b]
    refine ⟨fun _ _ => ⟨h4, ?_⟩, fun q => absurd ⟨h2.1, h3⟩ q, fun j hj => ?_⟩
    · show (u2 μ 9 11 (μ 9 11 + 1)) 9 11 = nI (p + 1)
      rw [u2_at, if_pos rfl, h.1]
      exact nI_1 p
    · show (u2 μ 9 11 (μ 9 11 + 1)) 9 j = μ 9 j
      rw [u2_at, if_neg hj]
theorem s14 {M : N2} {w x : Int32} {j : Nat} (h : ¬ j = 14) : ((w, u2 M 9 14 x) : Int32 × N2).2 9 j = M 9 j := by
  show u2 M 9 14 x 9 j = _
  rw [u2_at, if_neg h]
theorem s14e {M : N2} {w x : Int32} : ((w, u2 M 9 14 x) : Int32 × N2).2 9 14 = x := by
  show u2 M 9 14 x 9 14 = _
  rw [u2_at, if_pos rfl]
/-- a ball read by the reference -/
theorem ball_ref {c : N1} {len : Nat} {μ : N2} {p : Nat} {sp : UInt32} (h : TS c len μ p) (hp : p ≤ len) (hl : len ≤ 60) :
    (¬ dig c len 48 p → (fX7_readsBall μ sp).1 = 0 ∧ (fX7_readsBall μ sp).2 9 11 = nI p) ∧ (dig c len 48 p → ∀ p1 v, Num c len 60 p p1 v → (¬ (p1 < len ∧ c p1 = 58) → (fX7_readsBall μ sp).1 = 0 ∧ (fX7_readsBall μ sp).2 9 11 = nI p1) ∧ (p1 < len → c p1 = 58 → (¬ dig c len 49 (p1 + 1) → (fX7_readsBall μ sp).1 = 0 ∧ (fX7_readsBall μ sp).2 9 11 = nI (p1 + 1)) ∧ (dig c len 49 (p1 + 1) → ∀ p2 v2, Num c len 20 (p1 + 1) p2 v2 → (fX7_readsBall μ sp).1 = 1 ∧ (fX7_readsBall μ sp).2 9 11 = nI p2 ∧ (fX7_readsBall μ sp).2 9 13 = v ∧ (fX7_readsBall μ sp).2 9 14 = v2))) := by
  have hT := TS_gT h hl
  have hS := TS_gS h hl hp
  have l0 : ((48 : Int32) + 0).toInt = 48 := rfl
  have l1 : ((48 : Int32) + 1).toInt = 49 := rfl
  unfold fX7_readsBall
  refine ⟨fun hd => ?_, fun hd p1 v hN => ?_⟩
  · rw [(num_ref (sp := sp) (le := 0) (mo := 60) h hp hl l0).1 hd, if_pos (show ((0 : Int32), μ).1 = 0 from rfl)]
    exact ⟨rfl, h.1⟩
  · obtain ⟨n1, n2, n3⟩ := num_ref2 (sp := sp) (le := 0) h hp hl l0 hd hN
    have sO := (number_ok (sp := sp) (le := 0) (mo := 60) hT hS).1
    have h1 := TS_move h sO n2
    have le1 := Num_le hN hd.1
    rw [if_neg (by rw [n1]; decide)]
    generalize (fX7_readsNumber μ sp 0 60).2 = A at n2 n3 sO h1 ⊢
    rw [n3]
    have hA : TS c len (u2 A 9 13 v) p1 := ⟨by rw [u2_at, if_neg (by decide)]; exact h1.1, by rw [u2_at, if_neg (by decide)]; exact h1.2.1, fun j hj => by rw [u2_row (by decide)]; exact h1.2.2 j hj⟩
    have a13 : (u2 A 9 13 v) 9 13 = v := by rw [u2_at, if_pos rfl]
    generalize u2 A 9 13 v = A1 at hA a13 ⊢
    obtain ⟨k1, k2, k3⟩ := take_ref (sp := sp) (ch := 58) hA le1.2 hl
    have sK := (takes_ok (sp := sp) (ch := 58) (TS_gT hA hl) (TS_gS hA hl le1.2)).1
    refine ⟨fun hc => ?_, fun hc1 hc2 => ?_⟩
    · obtain ⟨k4, k5⟩ := k2 hc
      rw [if_pos k4]
      exact ⟨rfl, (s14 (by decide)).trans k5⟩
    · obtain ⟨k4, k5⟩ := k1 hc1 hc2
      rw [if_neg (by rw [k4]; decide)]
      have hK := TS_move hA sK k5
      have k13 : (fX7_takes A1 sp 58).2 9 13 = v := (k3 13 (by decide)).trans a13
      generalize (fX7_takes A1 sp 58).2 = A2 at hK k13 ⊢
      refine ⟨fun hd2 => ?_, fun hd2 p2 v2 hN2 => ?_⟩
      · rw [(num_ref (sp := sp) (le := 1) (mo := 20) hK (by omega) hl l1).1 hd2, if_pos (show ((0 : Int32), A2).1 = 0 from rfl)]
        exact ⟨rfl, (s14 (by decide)).trans hK.1⟩
      · obtain ⟨m1, m2, m3⟩ := num_ref2 (sp := sp) (le := 1) hK (by omega) hl l1 hd2 hN2
        rw [if_neg (by rw [m1]; decide)]
        have e13 : (fX7_readsNumber A2 sp 1 20).2 9 13 = A2 9 13 := by
          unfold fX7_readsNumber
          repeat' split
          all_goals first | rfl | (simp only [u2_at]; rfl)
        refine ⟨rfl, ?_, ?_, ?_⟩
        · exact (s14 (by decide)).trans m2
        · exact (s14 (by decide)).trans (e13.trans k13)
        · exact s14e.trans m3
/-- a ball read by the class -/
theorem ball_cls {c : N1} {len : Nat} {t : N2} {p b : Nat} (hl : len ≤ 60) (hp : p ≤ len) (h3 : t 3 0 = nI len) (hc : ∀ j : Nat, j < 60 → t 0 j = c j) (h2 : t 3 2 = 0) (hb : t 3 1 = nI b) (hb16 : b < 16) :
    (¬ dig c len 48 p → (dR p t).1 = nI p) ∧ (dig c len 48 p → ∀ p1 v, Num c len 60 p p1 v → (¬ (p1 < len ∧ c p1 = 58) → (dR p t).1 = nI p1) ∧ (p1 < len → c p1 = 58 → (¬ dig c len 49 (p1 + 1) → (dR p t).1 = nI (p1 + 1)) ∧ (dig c len 49 (p1 + 1) → ∀ p2 v2, Num c len 20 (p1 + 1) p2 v2 → ∃ t2, dR p t = dR p2 t2 ∧ t2 3 3 = v2 ∧ t2 3 2 = 3 ∧ t2 3 0 = t 3 0 ∧ t2 3 1 = t 3 1 ∧ t2 0 = t 0 ∧ t2 1 = upd (t 1) b v ∧ t2 2 = t 2 ∧ (p2 < len → fX0_growsNumber t2 (c p2) 20 = (0, t2))))) := by
  have tk0 : ∀ (t : N2), t 3 2 = 0 → ∀ ch, fX0_takes t ch = fX0_beginsNumber t ch 48 1 := fun t h ch => by
    unfold fX0_takes
    rw [if_pos h]
  have tk1 : ∀ (t : N2) (ch : Int32), t 3 2 = 1 → ¬ ch = 58 → fX0_takes t ch = fX0_growsNumber t ch 60 := fun t ch h hn => by
    unfold fX0_takes
    rw [if_neg (by rw [h]; decide), if_pos h, if_neg hn]
  have tk1c : ∀ (t : N2), t 3 2 = 1 → fX0_takes t 58 = fX0_endsCell t := fun t h => by
    unfold fX0_takes
    rw [if_neg (by rw [h]; decide), if_pos h, if_pos rfl]
  have tk2 : ∀ (t : N2), t 3 2 = 2 → ∀ ch, fX0_takes t ch = fX0_beginsNumber t ch 49 3 := fun t h ch => by
    unfold fX0_takes
    rw [if_neg (by rw [h]; decide), if_neg (by rw [h]; decide), if_pos h]
  have tk3 : ∀ (t : N2) (ch : Int32), t 3 2 = 3 → ¬ ch = 59 → fX0_takes t ch = fX0_growsNumber t ch 20 := fun t ch h hn => by
    unfold fX0_takes
    rw [if_neg (by rw [h]; decide), if_neg (by rw [h]; decide), if_neg (by rw [h]; decide), if_neg hn]
  obtain ⟨c1, c2⟩ := num_cls (c := c) (np := 1) (mo := 60) (sep := 58) (lo := 48) hl hp h3 hc (by rw [h2]; decide) (show (48 : Int32).toInt = 48 from rfl) (Int.le_refl _) (by decide) (tk0 t h2) (by decide) tk1
  refine ⟨c1, fun hd p1 v hN => ?_⟩
  obtain ⟨t1, e1, n1, st1, le1⟩ : ∃ t1, dR p t = dR p1 t1 ∧ NT t t1 1 v ∧ (p1 < len → fX0_growsNumber t1 (c p1) 60 = (0, t1)) ∧ p1 ≤ len := by
    obtain ⟨g1, g2⟩ := c2 hd
    have hpl := hd.1
    rcases hN with ⟨h1, rfl, rfl⟩ | ⟨h1, rfl, rfl⟩
    · obtain ⟨t1, a1, a2, a3, a4⟩ := g1 h1
      exact ⟨t1, a1, a2, a3, a4⟩
    · obtain ⟨t1, a1, a2, a3⟩ := g2 h1
      exact ⟨t1, a1, a2, a3, by omega⟩
  obtain ⟨n33, n32, n30, n31, n0, n1r, n2r⟩ := n1
  have h31 : t1 3 0 = nI len := n30.trans h3
  refine ⟨fun hc58 => ?_, fun hp1 hc58 => ?_⟩
  · rw [e1]
    by_cases hp1 : p1 < len
    · rw [dR_go hl h31 hp1, n0, hc p1 (by omega), tk1 t1 _ n32 (fun q => hc58 ⟨hp1, q⟩), st1 hp1, if_pos (show ((0 : Int32), t1).1 = 0 from rfl)]
    · obtain rfl : p1 = len := by omega
      rw [dR_end hl h31]
      unfold rdF
      rw [if_neg (by rw [n32]; decide)]
      exact h31
  · have eC : fX0_endsCell t1 = (1, u2 (u2 t1 1 b v) 3 2 2) := by
      have b0 : ¬ nI b < 0 := by
        rw [Int32.lt_iff_toInt_lt, toI (by omega), Int32.toInt_zero]
        omega
      have b16 : nI b < 16 := by
        rw [Int32.lt_iff_toInt_lt, toI (by omega)]
        have : (16 : Int32).toInt = 16 := rfl
        omega
      unfold fX0_endsCell
      rw [n31, hb, if_neg b0, if_pos b16, nI_c (by omega), n33]
    have e2 : dR p t = dR (p1 + 1) (u2 (u2 t1 1 b v) 3 2 2) := by
      rw [e1, dR_go hl h31 hp1, n0, hc p1 (by omega), hc58, tk1c t1 n32, eC, if_neg (show ¬ ((1 : Int32), u2 (u2 t1 1 b v) 3 2 2).1 = 0 from (by decide : ¬ (1 : Int32) = 0))]
    have s32 : (u2 (u2 t1 1 b v) 3 2 2) 3 2 = 2 := by rw [u2_at, if_pos rfl]
    have s30 : (u2 (u2 t1 1 b v) 3 2 2) 3 0 = t 3 0 := by rw [u2_at, if_neg (by decide), u2_row (by decide)]; exact n30
    have s31 : (u2 (u2 t1 1 b v) 3 2 2) 3 1 = t 3 1 := by rw [u2_at, if_neg (by decide), u2_row (by decide)]; exact n31
    have s0 : (u2 (u2 t1 1 b v) 3 2 2) 0 = t 0 := by rw [u2_row (by decide), u2_row (by decide)]; exact n0
    have s1 : (u2 (u2 t1 1 b v) 3 2 2) 1 = upd (t 1) b v := by rw [u2_row (by decide), u2_self, n1r]
    have s2 : (u2 (u2 t1 1 b v) 3 2 2) 2 = t 2 := by rw [u2_row (by decide), u2_row (by decide)]; exact n2r
    generalize u2 (u2 t1 1 b v) 3 2 2 = t3 at e2 s32 s30 s31 s0 s1 s2
    obtain ⟨d1, d2⟩ := num_cls (c := c) (t := t3) (p := p1 + 1) (np := 3) (mo := 20) (sep := 59) (lo := 49) hl (by omega) (s30.trans h3) (fun j hj => by rw [s0]; exact hc j hj) (by rw [s32]; decide) (show (49 : Int32).toInt = 49 from rfl) (by decide) (by decide) (tk2 t3 s32) (by decide) tk3
    refine ⟨fun hd2 => ?_, fun hd2 p2 v2 hN2 => ?_⟩
    · rw [e2]
      exact d1 hd2
    · obtain ⟨t2, a1, ⟨q33, q32, q30, q31, q0, q1, q2⟩, a3⟩ : ∃ t2, dR (p1 + 1) t3 = dR p2 t2 ∧ NT t3 t2 3 v2 ∧ (p2 < len → fX0_growsNumber t2 (c p2) 20 = (0, t2)) := by
        obtain ⟨g1, g2⟩ := d2 hd2
        rcases hN2 with ⟨h1, rfl, rfl⟩ | ⟨h1, rfl, rfl⟩
        · obtain ⟨t2, a1, a2, a3, a4⟩ := g1 h1
          exact ⟨t2, a1, a2, a3⟩
        · obtain ⟨t2, a1, a2, a3⟩ := g2 h1
          exact ⟨t2, a1, a2, a3⟩
      exact ⟨t2, e2.trans a1, q33, q32, q30.trans s30, q31.trans s31, q0.trans s0, q1.trans s1, q2.trans s2, a3⟩

