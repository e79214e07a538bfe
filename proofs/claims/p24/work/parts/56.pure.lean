/-! p24: texts of balls that the law types, read back (wip/p24/p56.lean) -/
/-- the text is the list -/
def TX (t : N2) (L : List Int32) : Prop := t 3 0 = nI L.length ∧ ∀ j, j < L.length → L[j]? = some (t 0 j)
theorem nJ_lt {a b : Nat} (h : a < b) (hb : b < 1000) : nI a < nI b := by
  rw [Int32.lt_iff_toInt_lt, toI (by omega), toI hb]
  omega
theorem nJ_nlt {a b : Nat} (h : b ≤ a) (ha : a < 1000) : ¬ nI a < nI b := by
  rw [Int32.lt_iff_toInt_lt, toI ha, toI (by omega)]
  omega
theorem nz {b : Nat} (h : b < 1000) : ¬ nI b < 0 := nJ_nlt (b := 0) (by omega) h
theorem lt16 {b : Nat} (h : b < 16) : nI b < 16 := nJ_lt (b := 16) h (by omega)
theorem le60 {b : Nat} (h : b ≤ 60) : nI b ≤ 60 := nI_le (b := 60) h (by decide)
theorem le20 {b : Nat} (h : b ≤ 20) : nI b ≤ 20 := nI_le (b := 20) h (by decide)
theorem ty_1 {S : So} {L : List Int32} {ch : Int32} (h : TX (oT S) L) (hl : L.length < 60) : ¬ an_type S ch ≤ 0 ∧ TX (oT (ob_type S ch)) (L ++ [ch]) := by
  have e60 : (60 : Int32) = nI 60 := rfl
  have e0 : (0 : Int32) = nI 0 := rfl
  have ea : fX0_append (oT S) ch = (1, u2 (u2 (oT S) 0 L.length ch) 3 0 (nI (L.length + 1))) := by
    unfold fX0_append
    rw [h.1, if_neg (by rw [e0]; exact nJ_nlt (by omega) (by omega)), if_pos (by rw [e60]; exact nJ_lt hl (by omega)), nI_c (by omega), u2_row (show ¬ (3 : Nat) = 0 by omega), h.1, nI_s (by omega)]
  have et : fX6_type (oH S) (oT S) ch = (nI (L.length + 1), u2 (u2 (oT S) 0 L.length ch) 3 0 (nI (L.length + 1))) := by
    unfold fX6_type
    rw [ea, if_neg (show ¬ (1 : Int32) = 0 by decide)]
    show ((u2 (u2 (oT S) 0 L.length ch) 3 0 (nI (L.length + 1))) 3 0, _) = _
    rw [u2_at, if_pos rfl]
  constructor
  · unfold an_type
    rw [et]
    show ¬ nI (L.length + 1) ≤ 0
    rw [Int32.le_iff_toInt_le, toI (by omega), Int32.toInt_zero]
    omega
  · unfold ob_type
    show TX (fX6_type (oH S) (oT S) ch).2 _
    rw [et]
    constructor
    · show (u2 (u2 (oT S) 0 L.length ch) 3 0 (nI (L.length + 1))) 3 0 = _
      rw [u2_at, if_pos rfl, List.length_append]
      rfl
    · intro j hj
      show _ = some ((u2 (u2 (oT S) 0 L.length ch) 3 0 (nI (L.length + 1))) 0 j)
      rw [u2_row (by omega), u2_at]
      rw [List.length_append] at hj
      have hj : j < L.length + 1 := hj
      by_cases h1 : j = L.length
      · rw [if_pos h1, h1, List.getElem?_append_right (Nat.le_refl _), Nat.sub_self]
        rfl
      · rw [if_neg h1, List.getElem?_append_left (by omega)]
        exact h.2 j (by omega)
/-- a number's digits -/
def numC (v : Nat) : List Int32 := if v < 10 then [nI (48 + v)] else [nI (48 + v / 10), nI (48 + v % 10)]
theorem numC_len (v : Nat) : (numC v).length ≤ 2 ∧ 1 ≤ (numC v).length := by
  unfold numC
  split
  · exact ⟨(by decide : 1 ≤ 2), (by decide : 1 ≤ 1)⟩
  · exact ⟨(by decide : 2 ≤ 2), (by decide : 1 ≤ 2)⟩
theorem fin_d1 : ∀ v : Fin 61, (((48 + (nI v.val - nI v.val / 10 * 10)).toUInt32 % 65536).toInt32) = nI (48 + v.val % 10) := by decide +kernel
theorem fin_d2 : ∀ v : Fin 61, (((48 + (nI v.val / 10)).toUInt32 % 65536).toInt32) = nI (48 + v.val / 10) := by decide +kernel
theorem nu_1 {S : So} {L : List Int32} {v : Nat} (h : TX (oT S) L) (hl : L.length + 2 ≤ 60) (hv : v < 61) : (fL_number S (nI v)).1 = 1 ∧ TX (oT (fL_number S (nI v)).2) (L ++ numC v) := by
  have e10 : (10 : Int32) = nI 10 := rfl
  unfold fL_number numC
  rw [fin_d1 ⟨v, hv⟩, fin_d2 ⟨v, hv⟩]
  by_cases h1 : v < 10
  · rw [if_pos (show nI v < 10 by rw [e10]; exact nJ_lt h1 (by omega)), if_pos h1]
    obtain ⟨a1, a2⟩ := ty_1 (ch := nI (48 + v % 10)) h (by omega)
    rw [if_neg a1]
    refine ⟨rfl, ?_⟩
    rw [show nI (48 + v) = nI (48 + v % 10) by rw [Nat.mod_eq_of_lt h1]]
    exact a2
  · rw [if_neg (show ¬ nI v < 10 by rw [e10]; exact nJ_nlt (by omega) (by omega)), if_neg h1]
    obtain ⟨a1, a2⟩ := ty_1 (ch := nI (48 + v / 10)) h (by omega)
    obtain ⟨b1, b2⟩ := ty_1 (ch := nI (48 + v % 10)) a2 (by rw [List.length_append]; show L.length + 1 < 60; omega)
    rw [if_neg a1, if_neg b1]
    refine ⟨rfl, ?_⟩
    rw [List.append_assoc] at b2
    exact b2
/-! reading -/
def RD : List Int32 → N2 → N2 → Prop
  | [], t, u => u = t
  | ch :: L, t, u => (fX0_takes t ch).1 = 1 ∧ RD L (fX0_takes t ch).2 u
theorem RD_app : ∀ {L1 L2 : List Int32} {t u v : N2}, RD L1 t u → RD L2 u v → RD (L1 ++ L2) t v
  | [], _, _, _, _, h1, h2 => by
    have h1 : _ = _ := h1
    subst h1
    exact h2
  | _ :: _, _, _, _, _, h1, h2 => ⟨h1.1, RD_app h1.2 h2⟩
theorem RD_1 {ch : Int32} {t u : N2} (h : fX0_takes t ch = (1, u)) : RD [ch] t u := by
  refine ⟨by rw [h], ?_⟩
  rw [h]
  rfl
theorem RD_2 {c1 c2 : Int32} {t u v : N2} (h : fX0_takes t c1 = (1, u)) (h2 : fX0_takes u c2 = (1, v)) : RD [c1, c2] t v := RD_app (L1 := [c1]) (L2 := [c2]) (RD_1 h) (RD_1 h2)
theorem bn_keep {t : N2} {ch lw np : Int32} : (fX0_beginsNumber t ch lw np).2 0 = t 0 ∧ (fX0_beginsNumber t ch lw np).2 3 0 = t 3 0 := by
  unfold fX0_beginsNumber
  split
  · exact ⟨rfl, rfl⟩
  · split
    · exact ⟨rfl, rfl⟩
    · exact ⟨rfl, rfl⟩
theorem gn_keep {t : N2} {ch hi : Int32} : (fX0_growsNumber t ch hi).2 0 = t 0 ∧ (fX0_growsNumber t ch hi).2 3 0 = t 3 0 := by
  unfold fX0_growsNumber
  repeat' split
  all_goals exact ⟨rfl, rfl⟩
theorem ec_keep {t : N2} : (fX0_endsCell t).2 0 = t 0 ∧ (fX0_endsCell t).2 3 0 = t 3 0 := by
  unfold fX0_endsCell
  repeat' split
  all_goals exact ⟨rfl, rfl⟩
theorem eb_keep {t : N2} : (fX0_endBall t).2 0 = t 0 ∧ (fX0_endBall t).2 3 0 = t 3 0 := by
  unfold fX0_endBall
  repeat' split
  all_goals exact ⟨rfl, rfl⟩
theorem tk_keep {t : N2} {ch : Int32} : (fX0_takes t ch).2 0 = t 0 ∧ (fX0_takes t ch).2 3 0 = t 3 0 := by
  unfold fX0_takes
  split
  · exact bn_keep
  · split
    · split
      · exact ec_keep
      · exact gn_keep
    · split
      · exact bn_keep
      · split
        · exact eb_keep
        · exact gn_keep
theorem RD_keep : ∀ {L : List Int32} {t u : N2}, RD L t u → u 3 0 = t 3 0
  | [], _, _, h => by
    have h : _ = _ := h
    rw [h]
  | _ :: _, _, _, h => (RD_keep h.2).trans tk_keep.2
theorem RD_read : ∀ (L : List Int32) {t u : N2} (i m : Nat), RD L t u → (∀ j, j < L.length → L[j]? = some (t 0 (i + j))) → t 3 0 = nI (i + L.length) → i + L.length ≤ 60 → L.length ≤ m → rdN m i t = rdF u
  | [], t, u, i, m, h, hc, hl, h60, hm => by
    have h : u = t := h
    rw [h]
    match m with
    | 0 => rfl
    | m + 1 =>
      show (if t 3 0 ≤ nI i then rdF t else _) = rdF t
      rw [if_pos]
      rw [hl]
      exact Int32.le_refl _
  | ch :: L, t, u, i, m, h, hc, hl, h60, hm => by
    match m, hm with
    | m + 1, hm =>
      have hlen : (ch :: L).length = L.length + 1 := rfl
      have h0 : ch = t 0 i := by
        have := hc 0 (by rw [hlen]; omega)
        exact Option.some.inj this
      show (if t 3 0 ≤ nI i then rdF t else if (fX0_takes t (t 0 (nI i).toNatClampNeg)).1 = 0 then (nI i, (fX0_takes t (t 0 (nI i).toNatClampNeg)).2) else rdN m (i + 1) (fX0_takes t (t 0 (nI i).toNatClampNeg)).2) = rdF u
      rw [if_neg (by rw [hl]; exact nI_ge (by rw [hlen]; omega) (by omega)), nI_c (by omega), ← h0, if_neg (by rw [h.1]; decide)]
      refine RD_read L (i + 1) m h.2 (fun j hj => ?_) ?_ (by rw [hlen] at h60; omega) (by rw [hlen] at hm; omega)
      · rw [tk_keep.1]
        have := hc (j + 1) (by rw [hlen]; omega)
        rw [show i + 1 + j = i + (j + 1) by omega]
        exact this
      · rw [tk_keep.2, hl, hlen, show i + (L.length + 1) = i + 1 + L.length by omega]
theorem c48 {d : Nat} (hd : d < 10) : ¬ nI (48 + d) < 48 ∧ nI (48 + d) ≤ 57 ∧ ¬ 57 < nI (48 + d) ∧ nI (48 + d) - 48 = nI d ∧ ¬ nI (48 + d) = 58 ∧ ¬ nI (48 + d) = 59 := by
  have h : ∀ d : Fin 10, ¬ nI (48 + d.val) < 48 ∧ nI (48 + d.val) ≤ 57 ∧ ¬ 57 < nI (48 + d.val) ∧ nI (48 + d.val) - 48 = nI d.val ∧ ¬ nI (48 + d.val) = 58 ∧ ¬ nI (48 + d.val) = 59 := by decide +kernel
  exact h ⟨d, hd⟩
theorem c49 {d : Nat} (hd : d < 10) (h0 : 1 ≤ d) : ¬ nI (48 + d) < 49 := nJ_nlt (b := 49) (by omega) (by omega)
section
variable {t : N2} {a b c d v : Nat}
theorem tk_b0 (h : t 3 2 = 0) (hd : d < 10) : fX0_takes t (nI (48 + d)) = (1, u2 (u2 t 3 3 (nI d)) 3 2 1) := by
  obtain ⟨c1, c2, c3, c4, c5, c6⟩ := c48 hd
  unfold fX0_takes fX0_beginsNumber
  rw [if_pos h, if_neg c1, if_pos c2, c4]
theorem tk_b2 (h : t 3 2 = 2) (hd : d < 10) (h0 : 1 ≤ d) : fX0_takes t (nI (48 + d)) = (1, u2 (u2 t 3 3 (nI d)) 3 2 3) := by
  obtain ⟨c1, c2, c3, c4, c5, c6⟩ := c48 hd
  unfold fX0_takes fX0_beginsNumber
  rw [if_neg (by rw [h]; decide), if_neg (by rw [h]; decide), if_pos h, if_neg (c49 hd h0), if_pos c2, c4]
theorem grow_n (hd : d < 10) (ha : a < 10) : nI a * 10 + nI d = nI (a * 10 + d) := by
  have h : ∀ a d : Fin 10, nI a.val * 10 + nI d.val = nI (a.val * 10 + d.val) := by decide +kernel
  exact h ⟨a, ha⟩ ⟨d, hd⟩
theorem tk_g1 (h : t 3 2 = 1) (hn : t 3 3 = nI a) (h0 : 1 ≤ a) (ha : a < 10) (hd : d < 10) (hm : a * 10 + d ≤ 60) : fX0_takes t (nI (48 + d)) = (1, u2 t 3 3 (nI (a * 10 + d))) := by
  obtain ⟨c1, c2, c3, c4, c5, c6⟩ := c48 hd
  unfold fX0_takes fX0_growsNumber
  rw [if_neg (by rw [h]; decide), if_pos h, if_neg c5, if_neg c1, if_neg c3, hn, if_neg (fun q => by have := nI_inj (show a < 1000 by omega) (show 0 < 1000 by omega) q; omega), c4, grow_n hd ha, if_pos (le60 hm)]
theorem tk_g3 (h : t 3 2 = 3) (hn : t 3 3 = nI a) (h0 : 1 ≤ a) (ha : a < 10) (hd : d < 10) (hm : a * 10 + d ≤ 20) : fX0_takes t (nI (48 + d)) = (1, u2 t 3 3 (nI (a * 10 + d))) := by
  obtain ⟨c1, c2, c3, c4, c5, c6⟩ := c48 hd
  unfold fX0_takes fX0_growsNumber
  rw [if_neg (by rw [h]; decide), if_neg (by rw [h]; decide), if_neg (by rw [h]; decide), if_neg c6, if_neg c1, if_neg c3, hn, if_neg (fun q => by have := nI_inj (show a < 1000 by omega) (show 0 < 1000 by omega) q; omega), c4, grow_n hd ha, if_pos (le20 hm)]
theorem tk_c (h : t 3 2 = 1) (hb : t 3 1 = nI b) (hb16 : b < 16) : fX0_takes t 58 = (1, u2 (u2 t 1 b (t 3 3)) 3 2 2) := by
  unfold fX0_takes fX0_endsCell
  rw [if_neg (by rw [h]; decide), if_pos h, if_pos rfl, hb, if_neg (nz (by omega)), if_pos (lt16 hb16), nI_c (by omega)]
theorem eb_do (hb : t 3 1 = nI b) (hb16 : b < 16) : fX0_endBall t = (1, u2 (u2 (u2 t 2 b (t 3 3)) 3 1 (nI (b + 1))) 3 2 0) := by
  unfold fX0_endBall
  rw [hb, if_neg (nz (by omega)), if_pos (lt16 hb16), nI_c (by omega), u2_row (show ¬ (3 : Nat) = 2 by omega), hb, nI_s (by omega)]
theorem tk_e (h : t 3 2 = 3) (hb : t 3 1 = nI b) (hb16 : b < 16) : fX0_takes t 59 = (1, u2 (u2 (u2 t 2 b (t 3 3)) 3 1 (nI (b + 1))) 3 2 0) := by
  unfold fX0_takes
  rw [if_neg (by rw [h]; decide), if_neg (by rw [h]; decide), if_neg (by rw [h]; decide), if_pos rfl, eb_do hb hb16]
theorem rd_c (h : t 3 2 = 0) (hc : c < 61) : ∃ u, RD (numC c) t u ∧ u 3 2 = 1 ∧ u 3 3 = nI c ∧ u 3 1 = t 3 1 ∧ u 1 = t 1 ∧ u 2 = t 2 := by
  unfold numC
  by_cases h1 : c < 10
  · rw [if_pos h1]
    exact ⟨_, RD_1 (tk_b0 h h1), rfl, rfl, rfl, rfl, rfl⟩
  · rw [if_neg h1]
    refine ⟨_, RD_2 (tk_b0 h (show c / 10 < 10 by omega)) (tk_g1 (a := c / 10) rfl rfl (by omega) (by omega) (show c % 10 < 10 by omega) (by omega)), rfl, ?_, rfl, rfl, rfl⟩
    show nI (c / 10 * 10 + c % 10) = nI c
    rw [show c / 10 * 10 + c % 10 = c by omega]
theorem rd_v (h : t 3 2 = 2) (hv : 1 ≤ v ∧ v ≤ 20) : ∃ u, RD (numC v) t u ∧ u 3 2 = 3 ∧ u 3 3 = nI v ∧ u 3 1 = t 3 1 ∧ u 1 = t 1 ∧ u 2 = t 2 := by
  unfold numC
  by_cases h1 : v < 10
  · rw [if_pos h1]
    exact ⟨_, RD_1 (tk_b2 h h1 hv.1), rfl, rfl, rfl, rfl, rfl⟩
  · rw [if_neg h1]
    refine ⟨_, RD_2 (tk_b2 h (show v / 10 < 10 by omega) (by omega)) (tk_g3 (a := v / 10) rfl rfl (by omega) (by omega) (show v % 10 < 10 by omega) (by omega)), rfl, ?_, rfl, rfl, rfl⟩
    show nI (v / 10 * 10 + v % 10) = nI v
    rw [show v / 10 * 10 + v % 10 = v by omega]
theorem rd_ball (h : t 3 2 = 0) (hb : t 3 1 = nI b) (hb16 : b < 16) (hc : c < 61) (hv : 1 ≤ v ∧ v ≤ 20) : ∃ u, RD (numC c ++ ([58] ++ numC v)) t u ∧ u 3 2 = 3 ∧ u 3 3 = nI v ∧ u 3 1 = nI b ∧ (∀ j, u 1 j = if j = b then nI c else t 1 j) ∧ u 2 = t 2 := by
  obtain ⟨u1, r1, p1, p2, p3, p4, p5⟩ := rd_c h hc
  have r2 := RD_1 (tk_c p1 (p3.trans hb) hb16)
  obtain ⟨u3, r3, q1, q2, q3, q4, q5⟩ := rd_v (t := u2 (u2 u1 1 b (u1 3 3)) 3 2 2) rfl hv
  refine ⟨u3, RD_app r1 (RD_app r2 r3), q1, q2, q3.trans (p3.trans hb), fun j => ?_, q5.trans p5⟩
  rw [q4, u2_row (show ¬ (1 : Nat) = 3 by omega), u2_at, p2, p4]
end
/-- the first k balls of a text -/
def ltx (cc vv : Nat → Nat) : Nat → List Int32
  | 0 => []
  | k + 1 => ltx cc vv k ++ ((if k = 0 then [] else [59]) ++ (numC (cc k) ++ ([58] ++ numC (vv k))))
theorem ltx_len (cc vv : Nat → Nat) : ∀ k, (ltx cc vv k).length ≤ 6 * k := by
  intro k
  induction k with
  | zero => exact Nat.le_refl 0
  | succ k ih =>
    unfold ltx
    have a := numC_len (cc k)
    have b := numC_len (vv k)
    rw [List.length_append, List.length_append, List.length_append, List.length_append]
    have c : (if k = 0 then ([] : List Int32) else [59]).length ≤ 1 := by split <;> decide
    have d : ([58] : List Int32).length = 1 := rfl
    omega
theorem rd_all {cc vv : Nat → Nat} {t : N2} (h2 : t 3 2 = 0) (h1 : t 3 1 = 0) : ∀ k, k < 16 → (∀ j, j ≤ k → cc j < 61 ∧ 1 ≤ vv j ∧ vv j ≤ 20) → ∃ u, RD (ltx cc vv (k + 1)) t u ∧ u 3 2 = 3 ∧ u 3 3 = nI (vv k) ∧ u 3 1 = nI k ∧ (∀ j, j ≤ k → u 1 j = nI (cc j)) ∧ (∀ j, j < k → u 2 j = nI (vv j)) := by
  intro k
  induction k with
  | zero =>
    intro hk hcv
    obtain ⟨u, r, p1, p2, p3, p4, p5⟩ := rd_ball (b := 0) h2 h1 (by omega) (hcv 0 (by omega)).1 (hcv 0 (by omega)).2
    refine ⟨u, r, p1, p2, p3, fun j hj => ?_, fun j hj => by omega⟩
    rw [p4, if_pos (by omega), show j = 0 by omega]
  | succ k ih =>
    intro hk hcv
    obtain ⟨u, r, p1, p2, p3, p4, p5⟩ := ih (by omega) (fun j hj => hcv j (by omega))
    have r2 := RD_1 (tk_e p1 p3 (by omega))
    obtain ⟨x, r3, q1, q2, q3, q4, q5⟩ := rd_ball (t := u2 (u2 (u2 u 2 k (u 3 3)) 3 1 (nI (k + 1))) 3 2 0) (b := k + 1) rfl rfl hk (hcv (k + 1) (by omega)).1 (hcv (k + 1) (by omega)).2
    refine ⟨x, ?_, q1, q2, q3, fun j hj => ?_, fun j hj => ?_⟩
    · show RD (ltx cc vv (k + 1) ++ ((if k + 1 = 0 then [] else [59]) ++ (numC (cc (k + 1)) ++ ([58] ++ numC (vv (k + 1)))))) t x
      rw [if_neg (by omega)]
      exact RD_app r (RD_app r2 r3)
    · rw [q4]
      by_cases hjk : j = k + 1
      · rw [if_pos hjk, hjk]
      · rw [if_neg hjk, u2_row (show ¬ (1 : Nat) = 3 by omega), u2_row (show ¬ (1 : Nat) = 3 by omega), u2_row (show ¬ (1 : Nat) = 2 by omega)]
        exact p4 j (by omega)
    · rw [q5, u2_row (show ¬ (2 : Nat) = 3 by omega), u2_row (show ¬ (2 : Nat) = 3 by omega), u2_at]
      by_cases hjk : j = k
      · rw [if_pos hjk, p2, hjk]
      · rw [if_neg hjk]
        exact p5 j (by omega)
/-- a text that was typed is read back -/
theorem read_all {cc vv : Nat → Nat} {t : N2} {n : Nat} (hT : TX t (ltx cc vv n)) (h1 : 1 ≤ n) (h3 : n ≤ 3) (hcv : ∀ j, j < n → cc j < 61 ∧ 1 ≤ vv j ∧ vv j ≤ 20) : ∃ u, fX0_read t = ((-1), u) ∧ u 3 1 = nI n ∧ u 3 0 = t 3 0 ∧ ∀ j, j < n → u 1 j = nI (cc j) ∧ u 2 j = nI (vv j) := by
  obtain ⟨k, rfl⟩ : ∃ k, n = k + 1 := ⟨n - 1, by omega⟩
  obtain ⟨u, r, p1, p2, p3, p4, p5⟩ := rd_all (cc := cc) (vv := vv) (t := u2 (u2 t 3 1 0) 3 2 0) rfl rfl k (by omega) (fun j hj => hcv j (by omega))
  have hlen := ltx_len cc vv (k + 1)
  have hr := RD_read (ltx cc vv (k + 1)) 0 60 r (fun j hj => by
    rw [Nat.zero_add, u2_row (show ¬ (0 : Nat) = 3 by omega), u2_row (show ¬ (0 : Nat) = 3 by omega)]
    exact hT.2 j hj) (by
    rw [Nat.zero_add]
    show t 3 0 = _
    exact hT.1) (by omega) (by omega)
  unfold fX0_read
  rw [hr]
  unfold rdF
  rw [if_pos p1, eb_do p3 (by omega)]
  refine ⟨_, rfl, rfl, ?_, fun j hj => ?_⟩
  · show u 3 0 = t 3 0
    exact (RD_keep r).trans rfl
  · constructor
    · show u 1 j = _
      exact p4 j (by omega)
    · show (u2 (u2 (u2 u 2 k (u 3 3)) 3 1 (nI (k + 1))) 3 2 0) 2 j = _
      rw [u2_row (show ¬ (2 : Nat) = 3 by omega), u2_row (show ¬ (2 : Nat) = 3 by omega), u2_at]
      by_cases hjk : j = k
      · rw [if_pos hjk, p2, hjk]
      · rw [if_neg hjk]
        exact p5 j (by omega)
