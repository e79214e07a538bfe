/-! a whole text, and putAll, side by side (wip/whole/gen/p42.lean) -/
def Reads (c : N1) (len : Nat) (sp : UInt32) : List (Int32 × Int32) → Nat → Prop
  | [], _ => False
  | x :: l, p => ∃ p2, p < p2 ∧ p2 ≤ len ∧ vp_in x.1 61 ∧ ¬ x.2 = 0 ∧ (∀ μ, TS c len μ p → (fX7_readsBall μ sp).1 = 1 ∧ (fX7_readsBall μ sp).2 9 11 = nI p2 ∧ (fX7_readsBall μ sp).2 9 13 = x.1 ∧ (fX7_readsBall μ sp).2 9 14 = x.2) ∧ ((l = [] ∧ p2 = len) ∨ (p2 < len ∧ c p2 = 59 ∧ Reads c len sp l (p2 + 1)))
def Cells (t : N2) (b : Nat) (l : List (Int32 × Int32)) : Prop := ∀ (i : Nat) (x : Int32 × Int32), l[i]? = some x → t 1 (b + i) = x.1 ∧ t 2 (b + i) = x.2
theorem ftN_s {sp : UInt32} {n : Nat} {mo : Int32} {μ : N2} : ftN sp (n + 1) mo μ = if mo = 0 then (if μ 9 11 = μ 9 10 then (-5) else μ 9 11, μ) else if (fX7_readsBall μ sp).1 = 0 then ((fX7_readsBall μ sp).2 9 11, (fX7_readsBall μ sp).2) else ftN sp n (fX7_takes (fX7_readsBall μ sp).2 sp 59).1 (fX7_takes (fX7_readsBall μ sp).2 sp 59).2 := rfl
theorem ft_fail {c : N1} {len p q k : Nat} {μ : N2} {sp : UInt32} (hk : 1 ≤ k) (h : (fX7_readsBall μ sp).1 = 0 ∧ (fX7_readsBall μ sp).2 9 11 = nI q) : (ftN sp k 1 μ).1 = nI q := by
  obtain ⟨m, rfl⟩ : ∃ m, k = m + 1 := ⟨k - 1, by omega⟩
  rw [ftN_s, if_neg (by decide), if_pos h.1]
  exact h.2
/-- behind a ball: the text goes on, ends, or has a fault -/
theorem ft_next {c : N1} {len p p2 k : Nat} {μ : N2} {sp : UInt32} (h : TS c len μ p) (hp : p ≤ len) (hl : len ≤ 60) (hp2 : p2 ≤ len) (hk : 2 ≤ k) (hr : (fX7_readsBall μ sp).1 = 1 ∧ (fX7_readsBall μ sp).2 9 11 = nI p2) : (p2 < len → c p2 = 59 → ∃ μ2, TS c len μ2 (p2 + 1) ∧ ftN sp k 1 μ = ftN sp (k - 1) 1 μ2) ∧ (¬ (p2 < len ∧ c p2 = 59) → (ftN sp k 1 μ).1 = if p2 = len then (-5) else nI p2) := by
  obtain ⟨m, rfl⟩ : ∃ m, k = m + 2 := ⟨k - 2, by omega⟩
  have hB := TS_move h (ball_ok (sp := sp) (TS_gT h hl) (TS_gS h hl hp)).1 hr.2
  obtain ⟨k1, k2, k3⟩ := take_ref (sp := sp) (ch := 59) hB hp2 hl
  have sK := (takes_ok (sp := sp) (ch := 59) (TS_gT hB hl) (TS_gS hB hl hp2)).1
  rw [show m + 2 = (m + 1) + 1 from rfl, ftN_s, if_neg (by decide), if_neg (by rw [hr.1]; decide)]
  refine ⟨fun a b => ?_, fun a => ?_⟩
  · obtain ⟨k4, k5⟩ := k1 a b
    rw [k4]
    exact ⟨_, TS_move hB sK k5, rfl⟩
  · obtain ⟨k4, k5⟩ := k2 a
    have hK := TS_move hB sK k5
    rw [k4, ftN_s, if_pos rfl, hK.1, hK.2.1]
    by_cases e : p2 = len
    · rw [if_pos e, e, if_pos rfl]
    · rw [if_neg e, if_neg]
      exact fun q => e (nI_inj (by omega) (by omega) q)
theorem text_both {c : N1} {len : Nat} {sp : UInt32} (hl : len ≤ 60) : ∀ (m p : Nat), len - p ≤ m → p ≤ len → ∀ (t : N2) (b : Nat), t 3 0 = nI len → (∀ j : Nat, j < 60 → t 0 j = c j) → t 3 2 = 0 → t 3 1 = nI b → 4 * b ≤ p →
    (∃ q, q ≤ len ∧ (dR p t).1 = nI q ∧ ∀ μ k, TS c len μ p → m + 2 ≤ k → (ftN sp k 1 μ).1 = nI q) ∨
    (∃ l, Reads c len sp l p ∧ (dR p t).1 = (-1) ∧ (dR p t).2 3 1 = nI (b + l.length) ∧ b + l.length ≤ 16 ∧ Cells (dR p t).2 b l ∧ (∀ i, i < b → (dR p t).2 1 i = t 1 i ∧ (dR p t).2 2 i = t 2 i) ∧ (dR p t).2 0 = t 0 ∧ (dR p t).2 3 0 = t 3 0 ∧ ∀ μ k, TS c len μ p → m + 2 ≤ k → (ftN sp k 1 μ).1 = (-5)) := by
  intro m
  induction m using Nat.strongRecOn with
  | _ m ih =>
    intro p hm hp t b h3 hc h2 hb h4
    have hb16 : b < 16 := by omega
    obtain ⟨c1, c2⟩ := ball_cls (c := c) hl hp h3 hc h2 hb hb16
    by_cases hd : dig c len 48 p
    · obtain ⟨p1, v, hN⟩ := Num_ex c len 60 p
      have le1 := Num_le hN hd.1
      have vv := Num_val hN hd (by decide) (Or.inl rfl)
      have hv : vp_in v 61 := by
        have e60 : (60 : Int32).toInt = 60 := rfl
        rw [vp_in_iff]
        rw [e60] at vv
        omega
      obtain ⟨c3, c4⟩ := c2 hd p1 v hN
      have r2 : ∀ μ, TS c len μ p → _ := fun μ hμ => (ball_ref (sp := sp) hμ hp hl).2 hd p1 v hN
      by_cases hc58 : p1 < len ∧ c p1 = 58
      · obtain ⟨c5, c6⟩ := c4 hc58.1 hc58.2
        by_cases hd2 : dig c len 49 (p1 + 1)
        · obtain ⟨p2, v2, hN2⟩ := Num_ex c len 20 (p1 + 1)
          have le2 := Num_le hN2 hd2.1
          have vv2 := Num_val hN2 hd2 (by decide) (Or.inr (by decide))
          have hv2 : ¬ v2 = 0 := by
            intro q
            rw [q, Int32.toInt_zero] at vv2
            omega
          obtain ⟨t2, e, q33, q32, q30, q31, q0, q1, q2, qg⟩ := c6 hd2 p2 v2 hN2
          have hr : ∀ μ, TS c len μ p → (fX7_readsBall μ sp).1 = 1 ∧ (fX7_readsBall μ sp).2 9 11 = nI p2 ∧ (fX7_readsBall μ sp).2 9 13 = v ∧ (fX7_readsBall μ sp).2 9 14 = v2 := fun μ hμ => ((r2 μ hμ).2 hc58.1 hc58.2).2 hd2 p2 v2 hN2
          have b0 : ¬ nI b < 0 := by
            rw [Int32.lt_iff_toInt_lt, toI (by omega), Int32.toInt_zero]
            omega
          have b16 : nI b < 16 := by
            rw [Int32.lt_iff_toInt_lt, toI (by omega)]
            have : (16 : Int32).toInt = 16 := rfl
            omega
          have eB : fX0_endBall t2 = (1, u2 (u2 (u2 t2 2 b v2) 3 1 (nI (b + 1))) 3 2 0) := by
            unfold fX0_endBall
            rw [q31, hb, if_neg b0, if_pos b16, nI_c (by omega), q33, u2_row (by decide), q31, hb, nI_1]
          have x1 : (u2 (u2 (u2 t2 2 b v2) 3 1 (nI (b + 1))) 3 2 0) 1 = upd (t 1) b v := by rw [u2_row (by decide), u2_row (by decide), u2_row (by decide)]; exact q1
          have x2 : (u2 (u2 (u2 t2 2 b v2) 3 1 (nI (b + 1))) 3 2 0) 2 = upd (t 2) b v2 := by rw [u2_row (by decide), u2_row (by decide), u2_self, q2]
          have x0 : (u2 (u2 (u2 t2 2 b v2) 3 1 (nI (b + 1))) 3 2 0) 0 = t 0 := by rw [u2_row (by decide), u2_row (by decide), u2_row (by decide)]; exact q0
          have x30 : (u2 (u2 (u2 t2 2 b v2) 3 1 (nI (b + 1))) 3 2 0) 3 0 = t 3 0 := by rw [u2_at, if_neg (by decide), u2_at, if_neg (by decide), u2_row (by decide)]; exact q30
          have x31 : (u2 (u2 (u2 t2 2 b v2) 3 1 (nI (b + 1))) 3 2 0) 3 1 = nI (b + 1) := by rw [u2_at, if_neg (by decide), u2_at, if_pos rfl]
          have x32 : (u2 (u2 (u2 t2 2 b v2) 3 1 (nI (b + 1))) 3 2 0) 3 2 = 0 := by rw [u2_at, if_pos rfl]
          generalize u2 (u2 (u2 t2 2 b v2) 3 1 (nI (b + 1))) 3 2 0 = t3 at eB x1 x2 x0 x30 x31 x32
          by_cases hc59 : p2 < len ∧ c p2 = 59
          · have e5 : dR p t = dR (p2 + 1) t3 := by
              have tk : fX0_takes t2 59 = fX0_endBall t2 := by
                unfold fX0_takes
                rw [if_neg (by rw [q32]; decide), if_neg (by rw [q32]; decide), if_neg (by rw [q32]; decide), if_pos rfl]
              rw [e, dR_go hl (q30.trans h3) hc59.1, q0, hc p2 (by omega), hc59.2, tk, eB, if_neg (show ¬ ((1 : Int32), t3).1 = 0 from (by decide : ¬ (1 : Int32) = 0))]
            rcases ih (m - 1) (by omega) (p2 + 1) (by omega) (by omega) t3 (b + 1) (x30.trans h3) (fun j hj => by rw [x0]; exact hc j hj) x32 x31 (by omega) with ⟨q, hq, a1, a2⟩ | ⟨l, a1, a2, a3, a4, a5, a6, a7, a8, a9⟩
            · refine Or.inl ⟨q, hq, by rw [e5]; exact a1, fun μ k hμ hk => ?_⟩
              obtain ⟨μ2, w1, w2⟩ := (ft_next (k := k) hμ hp hl (show p2 ≤ len by omega) (by omega) ⟨(hr μ hμ).1, (hr μ hμ).2.1⟩).1 hc59.1 hc59.2
              rw [w2]
              exact a2 μ2 (k - 1) w1 (by omega)
            · refine Or.inr ⟨(v, v2) :: l, ⟨p2, by omega, by omega, hv, hv2, hr, Or.inr ⟨hc59.1, hc59.2, a1⟩⟩, by rw [e5]; exact a2, ?_, ?_, ?_, ?_, by rw [e5, a7]; exact x0, by rw [e5, a8]; exact x30, fun μ k hμ hk => ?_⟩
              · rw [e5, a3, List.length_cons]
                congr 1
                omega
              · rw [List.length_cons]
                omega
              · intro i x hi
                rw [e5]
                cases i with
                | zero =>
                  have hx : (v, v2) = x := by simpa using hi
                  have := a6 b (by omega)
                  rw [x1, x2, upd_at, upd_at] at this
                  rw [← hx]
                  exact this
                | succ i =>
                  have hi2 : l[i]? = some x := by simpa using hi
                  have := a5 i x hi2
                  rw [show b + (i + 1) = b + 1 + i by omega]
                  exact this
              · intro i hi
                rw [e5]
                have := a6 i (by omega)
                rw [x1, x2, upd_ne (by omega), upd_ne (by omega)] at this
                exact this
              · obtain ⟨μ2, w1, w2⟩ := (ft_next (k := k) hμ hp hl (show p2 ≤ len by omega) (by omega) ⟨(hr μ hμ).1, (hr μ hμ).2.1⟩).1 hc59.1 hc59.2
                rw [w2]
                exact a9 μ2 (k - 1) w1 (by omega)
          · by_cases hpe : p2 = len
            · have e5 : dR p t = (-1, t3) := by
                rw [e, hpe, dR_end hl (q30.trans h3)]
                unfold rdF
                rw [if_pos q32, eB]
              refine Or.inr ⟨[(v, v2)], ⟨p2, by omega, by omega, hv, hv2, hr, Or.inl ⟨rfl, hpe⟩⟩, by rw [e5], by rw [e5]; exact x31, by simp; omega, ?_, ?_, by rw [e5]; exact x0, by rw [e5]; exact x30, fun μ k hμ hk => ?_⟩
              · intro i x hi
                rw [e5]
                cases i with
                | zero =>
                  have hx : (v, v2) = x := by simpa using hi
                  rw [← hx]
                  show t3 1 (b + 0) = v ∧ t3 2 (b + 0) = v2
                  rw [x1, x2, Nat.add_zero, upd_at, upd_at]
                  exact ⟨rfl, rfl⟩
                | succ i => simp at hi
              · intro i hi
                rw [e5]
                show t3 1 i = t 1 i ∧ t3 2 i = t 2 i
                rw [x1, x2, upd_ne (by omega), upd_ne (by omega)]
                exact ⟨rfl, rfl⟩
              · rw [(ft_next (k := k) hμ hp hl (show p2 ≤ len by omega) (by omega) ⟨(hr μ hμ).1, (hr μ hμ).2.1⟩).2 hc59, if_pos hpe]
            · refine Or.inl ⟨p2, by omega, ?_, fun μ k hμ hk => ?_⟩
              · have tk : fX0_takes t2 (c p2) = fX0_growsNumber t2 (c p2) 20 := by
                  unfold fX0_takes
                  rw [if_neg (by rw [q32]; decide), if_neg (by rw [q32]; decide), if_neg (by rw [q32]; decide), if_neg (fun q => hc59 ⟨by omega, q⟩)]
                rw [e, dR_go hl (q30.trans h3) (show p2 < len by omega), q0, hc p2 (by omega), tk, qg (by omega), if_pos (show ((0 : Int32), t2).1 = 0 from rfl)]
              · rw [(ft_next (k := k) hμ hp hl (show p2 ≤ len by omega) (by omega) ⟨(hr μ hμ).1, (hr μ hμ).2.1⟩).2 hc59, if_neg hpe]
        · exact Or.inl ⟨p1 + 1, by omega, c5 hd2, fun μ k hμ hk => ft_fail (c := c) (len := len) (p := p) (by omega) (((r2 μ hμ).2 hc58.1 hc58.2).1 hd2)⟩
      · exact Or.inl ⟨p1, by omega, c3 hc58, fun μ k hμ hk => ft_fail (c := c) (len := len) (p := p) (by omega) ((r2 μ hμ).1 hc58)⟩
    · exact Or.inl ⟨p, hp, c1 hd, fun μ k hμ hk => ft_fail (c := c) (len := len) (p := p) (by omega) ((ball_ref (sp := sp) hμ hp hl).1 hd)⟩
theorem eb_keep {t : N2} : (fX0_endBall t).2 0 = t 0 ∧ (fX0_endBall t).2 3 0 = t 3 0 := by
  unfold fX0_endBall
  repeat' split
  · exact ⟨rfl, rfl⟩
  · refine ⟨?_, ?_⟩
    · show (u2 (u2 (u2 t 2 (t 3 1).toNatClampNeg (t 3 3)) 3 1 ((u2 t 2 (t 3 1).toNatClampNeg (t 3 3)) 3 1 + 1)) 3 2 0) 0 = t 0
      rw [u2_row (by decide), u2_row (by decide), u2_row (by decide)]
    · show (u2 (u2 (u2 t 2 (t 3 1).toNatClampNeg (t 3 3)) 3 1 ((u2 t 2 (t 3 1).toNatClampNeg (t 3 3)) 3 1 + 1)) 3 2 0) 3 0 = t 3 0
      rw [u2_at, if_neg (by decide), u2_at, if_neg (by decide), u2_row (by decide)]
  · exact ⟨rfl, rfl⟩
theorem bn_keep {t : N2} {ch lw np : Int32} : (fX0_beginsNumber t ch lw np).2 0 = t 0 ∧ (fX0_beginsNumber t ch lw np).2 3 0 = t 3 0 := by
  unfold fX0_beginsNumber
  repeat' split
  · exact ⟨rfl, rfl⟩
  · refine ⟨?_, ?_⟩
    · show (u2 (u2 t 3 3 (ch - 48)) 3 2 np) 0 = t 0
      rw [u2_row (by decide), u2_row (by decide)]
    · show (u2 (u2 t 3 3 (ch - 48)) 3 2 np) 3 0 = t 3 0
      rw [u2_at, if_neg (by decide), u2_at, if_neg (by decide)]
  · exact ⟨rfl, rfl⟩
theorem gn_keep {t : N2} {ch hi : Int32} : (fX0_growsNumber t ch hi).2 0 = t 0 ∧ (fX0_growsNumber t ch hi).2 3 0 = t 3 0 := by
  unfold fX0_growsNumber
  repeat' split
  · exact ⟨rfl, rfl⟩
  · exact ⟨rfl, rfl⟩
  · exact ⟨rfl, rfl⟩
  · refine ⟨?_, ?_⟩
    · show (u2 t 3 3 (((t 3 3) * 10) + (ch - 48))) 0 = t 0
      rw [u2_row (by decide)]
    · show (u2 t 3 3 (((t 3 3) * 10) + (ch - 48))) 3 0 = t 3 0
      rw [u2_at, if_neg (by decide)]
  · exact ⟨rfl, rfl⟩
theorem ec_keep {t : N2} : (fX0_endsCell t).2 0 = t 0 ∧ (fX0_endsCell t).2 3 0 = t 3 0 := by
  unfold fX0_endsCell
  repeat' split
  · exact ⟨rfl, rfl⟩
  · refine ⟨?_, ?_⟩
    · show (u2 (u2 t 1 (t 3 1).toNatClampNeg (t 3 3)) 3 2 2) 0 = t 0
      rw [u2_row (by decide), u2_row (by decide)]
    · show (u2 (u2 t 1 (t 3 1).toNatClampNeg (t 3 3)) 3 2 2) 3 0 = t 3 0
      rw [u2_at, if_neg (by decide), u2_row (by decide)]
  · exact ⟨rfl, rfl⟩
theorem tk_keep {t : N2} {ch : Int32} : (fX0_takes t ch).2 0 = t 0 ∧ (fX0_takes t ch).2 3 0 = t 3 0 := by
  unfold fX0_takes
  repeat' split
  · exact bn_keep
  · exact ec_keep
  · exact gn_keep
  · exact bn_keep
  · exact eb_keep
  · exact gn_keep
theorem rdF_keep {t : N2} : (rdF t).2 0 = t 0 ∧ (rdF t).2 3 0 = t 3 0 := by
  unfold rdF
  split
  · exact eb_keep
  · exact ⟨rfl, rfl⟩
theorem rdN_keep : ∀ (n k : Nat) (t : N2), (rdN n k t).2 0 = t 0 ∧ (rdN n k t).2 3 0 = t 3 0 := by
  intro n
  induction n with
  | zero => intro k t; exact rdF_keep
  | succ n ih =>
    intro k t
    unfold rdN
    split
    · exact rdF_keep
    · split
      · exact tk_keep
      · exact ⟨(ih _ _).1.trans tk_keep.1, (ih _ _).2.trans tk_keep.2⟩
/-! the balls of a text, put -/
theorem paN_s {t σ : N2} {n k : Nat} : paN t (n + 1) k σ = if fX4_refusalToAdd σ (fX0_cellOfBall t (nI k)) = (-5) then paN t n (k + 1) (fX4_addBall σ (fX0_cellOfBall t (nI k)) (fX0_valueOfBall t (nI k))).2 else (fX4_refusalToAdd σ (fX0_cellOfBall t (nI k)), σ) := rfl
theorem paM_s {sp : UInt32} {n : Nat} {cn mo : Int32} {μ : N2} : paM sp (n + 1) cn mo μ = if mo = 0 then fX7_acted μ sp cn else if 0 ≤ (fX7_puts (fX7_readsBall μ sp).2 sp ((fX7_readsBall μ sp).2 9 13) ((fX7_readsBall μ sp).2 9 14)).1 then paM sp n (cn + 1) (fX7_takes (fX7_puts (fX7_readsBall μ sp).2 sp ((fX7_readsBall μ sp).2 9 13) ((fX7_readsBall μ sp).2 9 14)).2 sp 59).1 (fX7_takes (fX7_puts (fX7_readsBall μ sp).2 sp ((fX7_readsBall μ sp).2 9 13) ((fX7_readsBall μ sp).2 9 14)).2 sp 59).2 else ((fX7_puts (fX7_readsBall μ sp).2 sp ((fX7_readsBall μ sp).2 9 13) ((fX7_readsBall μ sp).2 9 14)).1, va_up (fX7_puts (fX7_readsBall μ sp).2 sp ((fX7_readsBall μ sp).2 9 13) ((fX7_readsBall μ sp).2 9 14)).2 0 (fX7_copy ((fX7_puts (fX7_readsBall μ sp).2 sp ((fX7_readsBall μ sp).2 9 13) ((fX7_readsBall μ sp).2 9 14)).2 1) ((fX7_puts (fX7_readsBall μ sp).2 sp ((fX7_readsBall μ sp).2 9 13) ((fX7_readsBall μ sp).2 9 14)).2 0))) := rfl
/-- what reading and putting leave alone -/
def keepR (μ μ2 : N2) : Prop := (∀ i, ¬ i = 0 → ¬ i = 9 → μ2 i = μ i) ∧ ∀ j, j < 11 → μ2 9 j = μ 9 j
theorem keepR.trans {a b d : N2} (h : keepR a b) (h2 : keepR b d) : keepR a d := ⟨fun i h0 h9 => (h2.1 i h0 h9).trans (h.1 i h0 h9), fun j hj => (h2.2 j hj).trans (h.2 j hj)⟩
theorem pa_both {c : N1} {len : Nat} {sp : UInt32} {t : N2} (hl : len ≤ 60) : ∀ (l : List (Int32 × Int32)) (p b : Nat) (μ : N2) (cn : Int32) (k : Nat), Reads c len sp l p → TS c len μ p → p ≤ len → gM (μ 0) → l.length + 1 ≤ k → b + l.length ≤ 16 → Cells t b l →
    (∃ r μ2, ¬ r = (-5) ∧ (paN t l.length b (cls (μ 0))).1 = r ∧ paM sp k cn 1 μ = (r, μ2) ∧ μ2 0 = μ 1 ∧ keepR μ μ2) ∨
    (∃ μ2, (paN t l.length b (cls (μ 0))).1 = (-5) ∧ (paN t l.length b (cls (μ 0))).2 = cls (μ2 0) ∧ gM (μ2 0) ∧ paM sp k cn 1 μ = fX7_acted μ2 sp (cn + nI l.length) ∧ keepR μ μ2) := by
  intro l
  induction l with
  | nil => intro p b μ cn k hR; exact absurd hR (fun q => q)
  | cons x l ih =>
    intro p b μ cn k hR hμ hp hM hk hb hC
    obtain ⟨p2, hp2a, hp2, hx1, hx2, hr, hend⟩ := hR
    obtain ⟨r1, r11, r13, r14⟩ := hr μ hμ
    rw [List.length_cons] at hk hb ⊢
    obtain ⟨m, rfl⟩ : ∃ m, k = m + 2 := ⟨k - 2, by omega⟩
    have sB := (ball_ok (sp := sp) (TS_gT hμ hl) (TS_gS hμ hl hp)).1
    have hB := TS_move hμ sB r11
    have hB0 : (fX7_readsBall μ sp).2 0 = μ 0 := sB.1 0 (by decide)
    have hB1 : (fX7_readsBall μ sp).2 1 = μ 1 := sB.1 1 (by decide)
    have kB : keepR μ (fX7_readsBall μ sp).2 := ⟨fun i _ h9 => sB.1 i h9, fun j hj => sB.2.1 j hj⟩
    obtain ⟨cc, hcc, ec⟩ := vin_nI hx1
    have hcell := hC 0 x (by simp)
    rw [Nat.add_zero] at hcell
    have b0 : ¬ nI b < 0 := by
      rw [Int32.lt_iff_toInt_lt, toI (by omega), Int32.toInt_zero]
      omega
    have b16 : ¬ 16 ≤ nI b := by
      rw [Int32.le_iff_toInt_le, toI (by omega)]
      have : (16 : Int32).toInt = 16 := rfl
      omega
    have c1 : fX0_cellOfBall t (nI b) = nI cc := by
      unfold fX0_cellOfBall
      rw [if_neg b0, if_neg b16, nI_c (by omega), hcell.1, ec]
    have c2 : fX0_valueOfBall t (nI b) = x.2 := by
      unfold fX0_valueOfBall
      rw [if_neg b0, if_neg b16, nI_c (by omega), hcell.2]
    rw [paN_s, c1, c2, show m + 2 = (m + 1) + 1 from rfl, paM_s, if_neg (show ¬ (1 : Int32) = 0 by decide), r13, r14, ec]
    generalize (fX7_readsBall μ sp).2 = A at hB hB0 hB1 kB ⊢
    have hP := puts_c (μ := A) (sp := sp) (vl := x.2) (by rw [hB0]; exact hM) hcc hx2
    have pr := puts_rows (μ := A) (sp := sp) (ce := nI cc) (vl := x.2)
    rw [hB0] at hP
    rcases hP with ⟨g1, g2, g3, g4, g5⟩ | ⟨g1, g2, g3, g4⟩
    · rw [if_pos g1, if_pos g2, g4]
      generalize (fX7_puts A sp (nI cc) x.2).2 = A2 at pr g5 ⊢
      have kA : keepR μ A2 := kB.trans ⟨fun i h0 _ => pr i h0, fun j _ => by rw [pr 9 (by decide)]⟩
      have hA2 : TS c len A2 p2 := by
        unfold TS
        rw [pr 9 (by decide), pr 8 (by decide)]
        exact hB
      obtain ⟨k1, k2, k3⟩ := take_ref (sp := sp) (ch := 59) hA2 hp2 hl
      have sK := (takes_ok (sp := sp) (ch := 59) (TS_gT hA2 hl) (TS_gS hA2 hl hp2)).1
      have kK : keepR A2 (fX7_takes A2 sp 59).2 := ⟨fun i _ h9 => sK.1 i h9, fun j hj => sK.2.1 j hj⟩
      have hK0 : (fX7_takes A2 sp 59).2 0 = A2 0 := sK.1 0 (by decide)
      rcases hend with ⟨hnil, hpe⟩ | ⟨hpl, h59, hR2⟩
      · subst hnil
        obtain ⟨k4, k5⟩ := k2 (fun q => by omega)
        rw [k4]
        refine Or.inr ⟨(fX7_takes A2 sp 59).2, rfl, by rw [hK0]; rfl, by rw [hK0]; exact g5, ?_, kA.trans kK⟩
        rw [paM_s, if_pos rfl]
        rfl
      · obtain ⟨k4, k5⟩ := k1 hpl h59
        rw [k4, ← hK0]
        have hK := TS_move hA2 sK k5
        have kk := kA.trans kK
        have g6 : gM ((fX7_takes A2 sp 59).2 0) := by rw [hK0]; exact g5
        generalize (fX7_takes A2 sp 59).2 = A3 at hK kk g6 ⊢
        rcases ih (p2 + 1) (b + 1) A3 (cn + 1) (m + 1) hR2 hK (by omega) g6 (by omega) (by omega) (fun i y hi => by
          have := hC (i + 1) y (by simpa using hi)
          rw [show b + (i + 1) = b + 1 + i by omega] at this
          exact this) with ⟨r, μ2, w1, w2, w3, w4, w5⟩ | ⟨μ2, w1, w2, w3, w4, w5⟩
        · exact Or.inl ⟨r, μ2, w1, w2, w3, w4.trans (kk.1 1 (by decide) (by decide)), kk.trans w5⟩
        · refine Or.inr ⟨μ2, w1, w2, w3, ?_, kk.trans w5⟩
          have e9 : cn + 1 + nI l.length = cn + nI (l.length + 1) := by rw [Int32.add_assoc, Int32.add_comm 1, nI_1]
          rw [w4, e9]
    · rw [if_neg g1, if_neg g3, g2, g4]
      refine Or.inl ⟨fX4_refusalToAdd (cls (μ 0)) (nI cc), _, g1, rfl, rfl, hB1, ⟨fun i h0 h9 => ?_, fun j hj => ?_⟩⟩
      · rw [up_ne h0]
        exact kB.1 i h0 h9
      · rw [up_ne (by decide)]
        exact kB.2 j hj
section SM
variable {hs : Int32} {σ σn : N2} {n : Int32} {o : Nat} {η : Nat → N2} {t μ : N2} {sp : UInt32}
theorem s_putAll {σr : N2} (R : REL hs σ σn n o η t μ) : (fX6_putAll hs σ σr n o η t).1 = (fX7_putAll μ sp).1 ∧ REL hs (fX6_putAll hs σ σr n o η t).2.1 σn (fX6_putAll hs σ σr n o η t).2.2.2.1 (fX6_putAll hs σ σr n o η t).2.2.2.2.1 (fX6_putAll hs σ σr n o η t).2.2.2.2.2.1 (fX6_putAll hs σ σr n o η t).2.2.2.2.2.2 (fX7_putAll μ sp).2 := by
  obtain ⟨hσ, hM, hT, hh, hS, hH, ⟨x1, x2, x3⟩⟩ := id R
  have y0 := x1.1
  have y1 := x1.2
  obtain ⟨len, hl, e⟩ : ∃ q : Nat, q ≤ 60 ∧ μ 9 10 = nI q := ⟨(μ 9 10).toInt.toNat, by omega, of_toI (by omega) (by omega)⟩
  have t30 : (u2 (u2 t 3 1 0) 3 2 0) 3 0 = nI len := by rw [u2_at, if_neg (by decide), u2_at, if_neg (by decide), x2, e]
  have t31 : (u2 (u2 t 3 1 0) 3 2 0) 3 1 = nI 0 := by rw [u2_at, if_neg (by decide), u2_at, if_pos rfl]; rfl
  have t32 : (u2 (u2 t 3 1 0) 3 2 0) 3 2 = 0 := by rw [u2_at, if_pos rfl]
  have t0 : (u2 (u2 t 3 1 0) 3 2 0) 0 = t 0 := by rw [u2_row (by decide), u2_row (by decide)]
  have eR : fX0_read t = dR 0 (u2 (u2 t 3 1 0) 3 2 0) := rfl
  have hm : TS (μ 8) len (u2 μ 9 11 0) 0 := ⟨by rw [u2_at, if_pos rfl]; rfl, by rw [u2_at, if_neg (by decide), e], fun j _ => by rw [u2_row (by decide)]⟩
  have hft := ftF_ok (μ := μ) (sp := sp) x1
  have eF : fX7_fault μ sp = ftN sp 64 1 (u2 μ 9 11 0) := rfl
  unfold fX6_putAll fX7_putAll
  rw [eR]
  rcases text_both (c := μ 8) (sp := sp) hl 60 0 (by omega) (by omega) (u2 (u2 t 3 1 0) 3 2 0) 0 t30 (fun j hj => by rw [t0]; exact x3 j hj) t32 t31 (by omega) with ⟨q, hq, a1, a2⟩ | ⟨l, a1, a2, a3, a4, a5, a6, a7, a8, a9⟩
  · have b2 : (fX7_fault μ sp).1 = nI q := a2 _ 64 hm (by omega)
    have tx : (dR 0 (u2 (u2 t 3 1 0) 3 2 0)).2 0 = t 0 ∧ (dR 0 (u2 (u2 t 3 1 0) 3 2 0)).2 3 0 = t 3 0 := by
      have kk := rdN_keep (60 - 0) 0 (u2 (u2 t 3 1 0) 3 2 0)
      exact ⟨kk.1.trans t0, kk.2.trans (t30.trans (by rw [x2, e]))⟩
    have n1 : ¬ nI q = (-1) := by
      intro h
      have := congrArg Int32.toInt h
      rw [toI (by omega)] at this
      have e1 : ((-1) : Int32).toInt = -1 := rfl
      omega
    rw [if_neg (by rw [a1]; exact n1), if_neg (by rw [b2]; exact nI_no (by omega)), a1, b2]
    refine ⟨rfl, ?_⟩
    show REL hs σ σn n o η (dR 0 (u2 (u2 t 3 1 0) 3 2 0)).2 (fX7_fault μ sp).2
    have RR := REL_rows R (M := (fX7_fault μ sp).2) (hft.1 0 (by decide)) (fun i _ h9 => hft.1 i (by omega)) (fun j hj => hft.2 j (by omega))
    obtain ⟨c1, c2, c3, c4, c5, c6, ⟨d1, d2, d3⟩⟩ := RR
    refine ⟨c1, c2, c3, c4, c5, c6, d1, ?_, ?_⟩
    · rw [tx.2]; exact d2
    · rw [tx.1]; exact d3
  · have b2 : (fX7_fault μ sp).1 = (-5) := a9 _ 64 hm (by omega)
    rw [if_pos a2, if_pos b2]
    generalize (dR 0 (u2 (u2 t 3 1 0) 3 2 0)).2 = T at a3 a5 a7 a8 ⊢
    rw [Nat.zero_add] at a3 a4
    rw [a3, nI_c (by omega)]
    have m0 : (u2 (fX7_remember (fX7_fault μ sp).2 sp) 9 11 0) 0 = μ 0 := (u2_row (by decide)).trans (hft.1 0 (by decide))
    have m1 : (u2 (fX7_remember (fX7_fault μ sp).2 sp) 9 11 0) 1 = μ 0 := (u2_row (by decide)).trans (hft.1 0 (by decide))
    have mr : ∀ i, 3 ≤ i → i < 9 → (u2 (fX7_remember (fX7_fault μ sp).2 sp) 9 11 0) i = μ i := fun i a b => (u2_row (by omega)).trans ((up_ne (by omega)).trans (hft.1 i (by omega)))
    have m9 : ∀ j, j < 11 → (u2 (fX7_remember (fX7_fault μ sp).2 sp) 9 11 0) 9 j = μ 9 j := fun j hj => by
      rw [u2_at, if_neg (by omega)]
      exact hft.2 j hj
    have m11 : (u2 (fX7_remember (fX7_fault μ sp).2 sp) 9 11 0) 9 11 = nI 0 := by rw [u2_at, if_pos rfl]; rfl
    have eP : paF μ sp = paM sp 64 0 1 (u2 (fX7_remember (fX7_fault μ sp).2 sp) 9 11 0) := rfl
    rw [eP]
    generalize u2 (fX7_remember (fX7_fault μ sp).2 sp) 9 11 0 = M at m0 m1 mr m9 m11 ⊢
    have hMT : TS (μ 8) len M 0 := ⟨m11, (m9 10 (by decide)).trans e, fun j _ => by rw [mr 8 (by decide) (by decide)]⟩
    have hX2 : RTx T μ := ⟨x1, a8.trans ((show (u2 (u2 t 3 1 0) 3 2 0) 3 0 = t 3 0 by rw [t30, x2, e]).trans x2), fun j hj => by rw [a7, t0]; exact x3 j hj⟩
    have R2 : REL hs σ σn n o η T μ := ⟨hσ, hM, hT, hh, hS, hH, hX2⟩
    rcases pa_both (t := T) hl l 0 0 M 0 64 a1 hMT (by omega) (by rw [m0]; exact hM) (by omega) (by omega) a5 with ⟨r, μ2, w1, w2, w3, w4, w5⟩ | ⟨μ2, w1, w2, w3, w4, w5⟩
    · rw [m0, ← hσ] at w2
      rw [w3, w2, if_neg w1]
      refine ⟨rfl, REL_rows R2 (w4.trans m1) (fun i a b => (w5.1 i (by omega) (by omega)).trans (mr i a b)) (fun j hj => (w5.2 j (by omega)).trans (m9 j (by omega)))⟩
    · rw [m0, ← hσ] at w1 w2
      rw [w1, if_pos rfl, w4, w2]
      refine ⟨?_, ?_⟩
      · show nI l.length = 0 + nI l.length
        rw [Int32.zero_add]
      · exact REL_act R2 ((w5.1 1 (by decide) (by decide)).trans m1) (fun i a b => (w5.1 i (by omega) (by omega)).trans (mr i a b)) (fun j hj => (w5.2 j (by omega)).trans (m9 j (by omega))) w3
end SM

