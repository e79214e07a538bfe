/-! p24: a shot that counts, on both felts (wip/p24/p45.lean) -/
def scL (f : N1) : N1 := upd (upd (upd f 8 (f 8 + 1)) 4 (1 - f 4)) 5 0
def scW (f : N1) (p : Nat) (w : Int32) : N1 := upd (upd (upd (upd f 8 (f 8 + 1)) 9 (f 9 + 1)) 5 (f 5 + 1)) (6 + p) (f (6 + p) + w)
theorem fin_pl : ∀ p : Fin 2, (6 + nI p.val).toNatClampNeg = 6 + p.val ∧ ¬ fX6_isPlayer (nI p.val) = 0 ∧ (nI p.val).toNatClampNeg = p.val := by decide +kernel
theorem sc_loss {f : N1} : fX4_scoreShot (cls f) 0 = cls (scL f) := by
  unfold fX4_scoreShot scL
  rw [if_pos rfl, cls_84, cls_u84]
  unfold fX4_changeTurn
  rw [cls_82, cls_u82, cls_u83, upd_ne (show ¬ 4 = 8 by decide)]
theorem sc_win {f : N1} {w : Int32} {p : Nat} (hp : p < 2) (ht : f 4 = nI p) (hw : ¬ w = 0) : fX4_scoreShot (cls f) w = cls (scW f p w) := by
  obtain ⟨-, p2, p3⟩ := fin_pl ⟨p, hp⟩
  unfold fX4_scoreShot
  rw [if_neg hw, cls_84, cls_u84, cls_85, cls_u85, cls_83, cls_u83, cls_82]
  have e4 : (upd (upd (upd f 8 (f 8 + 1)) 9 ((upd f 8 (f 8 + 1)) 9 + 1)) 5 ((upd (upd f 8 (f 8 + 1)) 9 ((upd f 8 (f 8 + 1)) 9 + 1)) 5 + 1)) 4 = nI p := by
    rw [upd_ne (by decide), upd_ne (by decide), upd_ne (by decide), ht]
  rw [e4, if_neg p2, p3, cls_7 hp, cls_u7 hp]
  have a9 : (upd f 8 (f 8 + 1)) 9 = f 9 := upd_ne (by decide)
  rw [a9]
  have a5 : (upd (upd f 8 (f 8 + 1)) 9 (f 9 + 1)) 5 = f 5 := by rw [upd_ne (by decide), upd_ne (by decide)]
  rw [a5]
  have a6 : (upd (upd (upd f 8 (f 8 + 1)) 9 (f 9 + 1)) 5 (f 5 + 1)) (6 + p) = f (6 + p) := by rw [upd_ne (by omega), upd_ne (by omega), upd_ne (by omega)]
  rw [a6]
  rfl
theorem rt_scL {f : N1} : rt (scL f) = scL (rt f) := by
  unfold scL
  rw [rt_upd (by omega), rt_upd (by omega), rt_upd (by omega), rt_oth (by omega), rt_oth (by omega)]
theorem rt_scW {f : N1} {p : Nat} {w : Int32} (hp : p < 2) : rt (scW f p w) = scW (rt f) p w := by
  unfold scW
  rw [rt_upd (by omega), rt_upd (by omega), rt_upd (by omega), rt_upd (by omega), rt_oth (by omega), rt_oth (by omega), rt_oth (by omega), rt_oth (by omega)]
theorem val_k {f : N1} {k : Nat} (hk : k < 12) : fX4_valueOfBall (cls f) (nI k) = f (25 + k) := by
  unfold fX4_valueOfBall
  rw [if_neg (isBN hk), nI_c (by omega), cls_1 hk]
theorem val_no {σ : N2} : fX4_valueOfBall σ (-5) = 0 := by
  unfold fX4_valueOfBall
  rw [if_pos (by decide)]
theorem add_s {x : Int32} (h : 0 ≤ x.toInt) (h2 : x.toInt ≤ 100000) : (x + 1).toInt = x.toInt + 1 := inc_i h (by omega)
theorem add_w {x w : Int32} (h : 0 ≤ x.toInt) (h2 : x.toInt ≤ 100000) (h3 : 0 ≤ w.toInt) (h4 : w.toInt ≤ 20) : (x + w).toInt = x.toInt + w.toInt := ti_add (by omega) (by omega)
section
variable {M : Nat} {f f1 z d e : N1} {n : Nat}
theorem sc_fix (hG : gG M f) (Q : QR f n z d e f1) (hn : n ≤ 1000000) : (∀ i, i < 3 → gK (f1 i)) ∧ bnd f1 (1000000 * ((M + 1 : Nat) : Int)) ∧ gVl f1 := by
  obtain ⟨hF, hP, ⟨g1, g2, g3⟩, -⟩ := Q
  obtain ⟨-, -, hK, hb, hV, -⟩ := hG
  refine ⟨fun i hi => by rw [g1 i (by omega)]; exact hK i hi, fun j h1 h2 => ?_, fun b hb2 => ?_⟩
  · have a := g2 j h1 h2
    have b := hb j h1 h2
    omega
  · rw [g1 12 (by omega), g1 (25 + b) (by omega)]
    refine ⟨(hV b hb2).1, fun h => ?_⟩
    rw [g3 b hb2 h]
    exact (hV b hb2).2 h
/-- a shot by which nothing is gone -/
theorem sc_lossG (hG : gG M f) (Q : QR f n z d e f1) (hn : n ≤ 1000000) (hM : M ≤ 100) (h6 : z 6 = (-5)) : gG (M + 1) (scL f1) ∧ scL f1 4 = 1 - f 4 ∧ scL f1 6 = f 6 ∧ scL f1 7 = f 7 ∧ onN (scL f1) 12 = onN f 12 := by
  obtain ⟨hK, hb, hV⟩ := sc_fix hG Q hn
  obtain ⟨hF, hP, ⟨g1, -, -⟩, k, hk, hz, hke, hx⟩ := Q
  have hC := hG.2.2.2.2.2
  have hgone : ∀ b, b < 12 → (f1 (13 + b) = (-5) ↔ f (13 + b) = (-5)) := by
    rcases hx with ⟨-, h, -⟩ | ⟨h, -⟩
    · exact h
    · exact absurd (h.symm.trans h6) (nI_no (by omega))
  have hi : ∀ j, 6 ≤ j → ¬ j = 8 → scL f1 j = f1 j := fun j h1 h2 => by unfold scL; rw [upd_ne (by omega), upd_ne (by omega), upd_ne h2]
  have lo : ∀ j, j < 4 → scL f1 j = f1 j := fun j h1 => by unfold scL; rw [upd_ne (by omega), upd_ne (by omega), upd_ne (by omega)]
  have e4 : scL f1 4 = 1 - f 4 := by unfold scL; rw [upd_ne (by decide), upd_at, g1 4 (by omega)]
  have e5 : scL f1 5 = 0 := by unfold scL; rw [upd_at]
  have e8 : scL f1 8 = f 8 + 1 := by unfold scL; rw [upd_ne (by decide), upd_ne (by decide), upd_at, g1 8 (by omega)]
  have hon : onN (scL f1) 12 = onN f 12 := onN_congr 12 (Nat.le_refl 12) (fun b hb2 => by rw [hi (13 + b) (by omega) (by omega)]; exact hgone b hb2)
  have hU : gU (scL f1) := by
    unfold gU
    rw [e4]
    rcases hG.1.2.2.2 with q | q
    · rw [q]; exact Or.inr rfl
    · rw [q]; exact Or.inl rfl
  obtain ⟨c1, c2, c3, c4, c5, c6, c7⟩ := hC
  have a8 : (f 8 + 1).toInt = (f 8).toInt + 1 := add_s (by omega) (by omega)
  refine ⟨⟨gF_low hF hU (fun j hj => hi j (by omega) (by omega)), by unfold gP; rw [lo 3 (by omega)]; exact hP, fun i hi2 => by rw [lo i (by omega)]; exact hK i hi2, fun j h1 h2 => by rw [hi j (by omega) (by omega)]; exact hb j h1 h2, fun b hb2 => by rw [hi 12 (by omega) (by omega), hi (25 + b) (by omega) (by omega), hi (37 + b) (by omega) (by omega)]; exact hV b hb2, ?_⟩, e4, by rw [hi 6 (by omega) (by omega), g1 6 (by omega)], by rw [hi 7 (by omega) (by omega), g1 7 (by omega)], hon⟩
  unfold gC
  rw [e5, e8, a8, hi 9 (by omega) (by omega), hi 12 (by omega) (by omega), hi 6 (by omega) (by omega), hi 7 (by omega) (by omega), g1 9 (by omega), g1 12 (by omega), g1 6 (by omega), g1 7 (by omega), hon, Int32.toInt_zero]
  exact ⟨by omega, by omega, by omega, by omega, c5, by omega, by omega⟩
/-- a shot by which a ball is gone -/
theorem sc_winG {k p : Nat} (hG : gG M f) (Q : QR f n z d e f1) (hn : n ≤ 1000000) (hM : M ≤ 100) (hk : k < 12) (h6 : z 6 = nI k) (hp : p < 2) (h4 : f 4 = nI p) : (1 ≤ (f1 (25 + k)).toInt ∧ (f1 (25 + k)).toInt ≤ 20) ∧ gG (M + 1) (scW f1 p (f1 (25 + k))) ∧ scW f1 p (f1 (25 + k)) 4 = f 4 ∧ scW f1 p (f1 (25 + k)) 6 + scW f1 p (f1 (25 + k)) 7 = f 6 + f 7 + f1 (25 + k) ∧ onN (scW f1 p (f1 (25 + k))) 12 + 1 = onN f 12 := by
  obtain ⟨hK, hb, hV⟩ := sc_fix hG Q hn
  obtain ⟨hF, hP, ⟨g1, -, -⟩, k', hk', hz, hke, hx⟩ := Q
  have hC := hG.2.2.2.2.2
  obtain ⟨hkk, q1, q2, q3⟩ : k' = k ∧ f1 (13 + k) = (-5) ∧ ¬ f (13 + k) = (-5) ∧ ∀ b, b < 12 → ¬ b = k → (f1 (13 + b) = (-5) ↔ f (13 + b) = (-5)) := by
    rcases hx with ⟨h, -⟩ | ⟨h, a, b, c⟩
    · exact absurd (h6.symm.trans h) (nI_no (by omega))
    · have hkk := nI_inj (by omega) (by omega) (h.symm.trans h6)
      subst hkk
      exact ⟨rfl, a, b, c⟩
  subst hkk
  rw [g1 12 (by omega)] at hke
  have hv : 1 ≤ (f1 (25 + k')).toInt ∧ (f1 (25 + k')).toInt ≤ 20 := by
    rw [g1 (25 + k') (by omega)]
    exact (hG.2.2.2.2.1 k' hk).1 hke
  generalize hw : f1 (25 + k') = w at hv ⊢
  have hi : ∀ j, j < 4 ∨ j = 4 ∨ 10 ≤ j → scW f1 p w j = f1 j := fun j h1 => by unfold scW; rw [upd_ne (by omega), upd_ne (by omega), upd_ne (by omega), upd_ne (by omega)]
  have e5 : scW f1 p w 5 = f 5 + 1 := by unfold scW; rw [upd_ne (by omega), upd_at, g1 5 (by omega)]
  have e8 : scW f1 p w 8 = f 8 + 1 := by unfold scW; rw [upd_ne (by omega), upd_ne (by omega), upd_ne (by omega), upd_at, g1 8 (by omega)]
  have e9 : scW f1 p w 9 = f 9 + 1 := by unfold scW; rw [upd_ne (by omega), upd_ne (by omega), upd_at, g1 9 (by omega)]
  have ep : scW f1 p w (6 + p) = f (6 + p) + w := by unfold scW; rw [upd_at, g1 (6 + p) (by omega)]
  have eo : ∀ j, j = 6 ∨ j = 7 → ¬ j = 6 + p → scW f1 p w j = f j := fun j h1 h2 => by unfold scW; rw [upd_ne h2, upd_ne (by omega), upd_ne (by omega), upd_ne (by omega), g1 j (by omega)]
  have hon : onN (scW f1 p w) 12 + 1 = onN f 12 := by
    have h := onN_cell (f := scW f1 p w) (g := f) (k := k') 12 (Nat.le_refl 12) (fun b hb2 hbk => by rw [hi (13 + b) (by omega)]; exact q3 b hb2 hbk)
    rw [if_pos ⟨hk, q2⟩, if_neg (fun q => q.2 (by rw [hi (13 + k') (by omega)]; exact q1))] at h
    omega
  have hU : gU (scW f1 p w) := by
    unfold gU
    rw [hi 4 (by omega), g1 4 (by omega)]
    exact hG.1.2.2.2
  obtain ⟨c1, c2, c3, c4, c5, c6, c7⟩ := hC
  have a5 : (f 5 + 1).toInt = (f 5).toInt + 1 := add_s (by omega) (by omega)
  have a8 : (f 8 + 1).toInt = (f 8).toInt + 1 := add_s (by omega) (by omega)
  have a9 : (f 9 + 1).toInt = (f 9).toInt + 1 := add_s (by omega) (by omega)
  have s67 : (0 ≤ (scW f1 p w 6).toInt ∧ (scW f1 p w 6).toInt ≤ 20 * ((M + 1 : Nat) : Int)) ∧ (0 ≤ (scW f1 p w 7).toInt ∧ (scW f1 p w 7).toInt ≤ 20 * ((M + 1 : Nat) : Int)) ∧ scW f1 p w 6 + scW f1 p w 7 = f 6 + f 7 + w := by
    have b6 : (f 6 + w).toInt = (f 6).toInt + w.toInt := add_w (by omega) (by omega) (by omega) (by omega)
    have b7 : (f 7 + w).toInt = (f 7).toInt + w.toInt := add_w (by omega) (by omega) (by omega) (by omega)
    match p, hp with
    | 0, _ =>
      have ep : scW f1 0 w 6 = f 6 + w := ep
      rw [ep, eo 7 (by omega) (by omega), b6]
      refine ⟨by omega, by omega, ?_⟩
      rw [Int32.add_assoc, Int32.add_comm w (f 7), ← Int32.add_assoc]
    | 1, _ =>
      have ep : scW f1 1 w 7 = f 7 + w := ep
      rw [ep, eo 6 (by omega) (by omega), b7]
      refine ⟨by omega, by omega, ?_⟩
      rw [← Int32.add_assoc]
  refine ⟨hv, ⟨gF_low hF hU (fun j hj => hi j (by omega)), by unfold gP; rw [hi 3 (by omega)]; exact hP, fun i hi2 => by rw [hi i (by omega)]; exact hK i hi2, fun j h1 h2 => by rw [hi j (by omega)]; exact hb j h1 h2, fun b hb2 => by rw [hi 12 (by omega), hi (25 + b) (by omega), hi (37 + b) (by omega)]; exact hV b hb2, ?_⟩, by rw [hi 4 (by omega), g1 4 (by omega)], s67.2.2, hon⟩
  unfold gC
  rw [e5, e8, e9, a5, a8, a9, hi 12 (by omega), g1 12 (by omega)]
  exact ⟨by omega, by omega, by omega, by omega, by omega, s67.1, s67.2.1⟩
end
