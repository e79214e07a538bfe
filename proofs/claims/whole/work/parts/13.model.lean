/-! the reference: small methods (printed by wip/whole/gen/p13.py) -/
def fX7_in (x : Int64) (lo : Int64) (hi : Int64) : Int32 := if (lg_cmp x lo) < 0 then ((0)) else (if 0 < (lg_cmp x hi) then ((0)) else ((1)))
theorem dX7_in_0 : decode cX7_in 0 = .ok (.lload_n 0, 1) := by decide +kernel
theorem dX7_in_1 : decode cX7_in 1 = .ok (.lload_n 2, 1) := by decide +kernel
theorem dX7_in_2 : decode cX7_in 2 = .ok (.lcmp, 1) := by decide +kernel
theorem dX7_in_3 : decode cX7_in 3 = .ok (.ifCond .lt 14, 3) := by decide +kernel
theorem dX7_in_6 : decode cX7_in 6 = .ok (.lload_n 0, 1) := by decide +kernel
theorem dX7_in_7 : decode cX7_in 7 = .ok (.lload 4, 2) := by decide +kernel
theorem dX7_in_9 : decode cX7_in 9 = .ok (.lcmp, 1) := by decide +kernel
theorem dX7_in_10 : decode cX7_in 10 = .ok (.ifCond .gt 7, 3) := by decide +kernel
theorem dX7_in_13 : decode cX7_in 13 = .ok (.iconst 1, 1) := by decide +kernel
theorem dX7_in_14 : decode cX7_in 14 = .ok (.goto 4, 3) := by decide +kernel
theorem dX7_in_17 : decode cX7_in 17 = .ok (.iconst 0, 1) := by decide +kernel
theorem dX7_in_18 : decode cX7_in 18 = .ok (.ireturn, 1) := by decide +kernel
set_option maxHeartbeats 4000000 in
set_option maxRecDepth 100000 in
theorem kX7_in (l : Launch) (E : Ev) (x : Int64) (lo : Int64) (hi : Int64) : KQ l yX7_in cX7_in 6 (some .boolean) 0 0 E [.long x, .long lo, .long hi] [] (QI E [] (fX7_in x lo hi) []) := by
  refine KQ.mk RX7 rfl (by decide +kernel) (Nat.le_of_ble_eq_true rfl) ?_
  intro p e s m below meth c ls X hr w hl
  have hx := X.1
  have hb := X.2.1
  have hl : lv_has ls 6 [(0, .long x), (2, .long lo), (4, .long hi)] := hl
  refine lv_lload_n hx hb dX7_in_0 rfl (lv_at hl 0 rfl) ?_
  refine lv_lload_n hx hb dX7_in_1 rfl (lv_at hl 1 rfl) ?_
  refine W.lcmp hx hb dX7_in_2 ?_
  refine lv_if_lt (tgt := 17) hx hb dX7_in_3 (by decide) (fun c3_1 => ?_) (fun c3_1 => ?_)
  · refine lv_iconst (v := 0) hx hb dX7_in_17 (by decide) ?_
    have hq : fX7_in x lo hi = (0) := by simp only [fX7_in, if_pos c3_1]
    rw [hq]
    exact r_zret X w hr (Or.inl rfl) rfl dX7_in_18
  · refine lv_lload_n hx hb dX7_in_6 rfl (lv_at hl 0 rfl) ?_
    refine lv_lload hx hb dX7_in_7 (lv_at hl 2 rfl) ?_
    refine W.lcmp hx hb dX7_in_9 ?_
    refine lv_if_gt (tgt := 17) hx hb dX7_in_10 (by decide) (fun c10_2 => ?_) (fun c10_2 => ?_)
    · refine lv_iconst (v := 0) hx hb dX7_in_17 (by decide) ?_
      have hq : fX7_in x lo hi = (0) := by simp only [fX7_in, if_neg c3_1, if_pos c10_2]
      rw [hq]
      exact r_zret X w hr (Or.inl rfl) rfl dX7_in_18
    · refine lv_iconst (v := 1) hx hb dX7_in_13 (by decide) ?_
      refine lv_goto (tgt := 18) hx hb dX7_in_14 (by decide) ?_
      have hq : fX7_in x lo hi = (1) := by simp only [fX7_in, if_neg c3_1, if_neg c10_2]
      rw [hq]
      exact r_zret X w hr (Or.inr rfl) rfl dX7_in_18
theorem zX7_in (x : Int64) (lo : Int64) (hi : Int64) : fX7_in x lo hi = 0 ∨ fX7_in x lo hi = 1 := by
  unfold fX7_in
  repeat' split
  all_goals first | exact Or.inl rfl | exact Or.inr rfl | (simp; done) | exact Or.inl rfl
theorem lg_lt (x y : Int64) : lg_cmp x y < 0 ↔ x < y := by
  unfold lg_cmp
  rw [Int64.lt_iff_toInt_lt]
  repeat' split
  all_goals (simp only [Int64.lt_iff_toInt_lt, Int64.le_iff_toInt_le, ← Int64.toInt_inj] at *)
  all_goals first | (refine ⟨fun q => absurd q (by decide), fun q => ?_⟩; omega) | (refine ⟨fun q => ?_, fun q => by decide⟩; omega)
theorem lg_gt (x y : Int64) : 0 < lg_cmp x y ↔ y < x := by
  unfold lg_cmp
  rw [Int64.lt_iff_toInt_lt]
  repeat' split
  all_goals (simp only [Int64.lt_iff_toInt_lt, Int64.le_iff_toInt_le, ← Int64.toInt_inj] at *)
  all_goals first | (refine ⟨fun q => absurd q (by decide), fun q => ?_⟩; omega) | (refine ⟨fun q => ?_, fun q => by decide⟩; omega)
theorem in_iff {x : Int32} {lo hi : Int64} : fX7_in x.toInt64 lo hi = 0 ↔ (x.toInt < lo.toInt ∨ hi.toInt < x.toInt) := by
  have e : x.toInt64.toInt = x.toInt := Int32.toInt_toInt64 x
  unfold fX7_in
  split
  · rename_i h
    rw [lg_lt, Int64.lt_iff_toInt_lt, e] at h
    exact ⟨fun _ => Or.inl h, fun _ => rfl⟩
  · rename_i h
    rw [lg_lt, Int64.lt_iff_toInt_lt, e] at h
    split
    · rename_i h2
      rw [lg_gt, Int64.lt_iff_toInt_lt, e] at h2
      exact ⟨fun _ => Or.inr h2, fun _ => rfl⟩
    · rename_i h2
      rw [lg_gt, Int64.lt_iff_toInt_lt, e] at h2
      exact ⟨fun q => absurd q (by decide), fun q => q.elim (fun q => absurd q h) (fun q => absurd q h2)⟩
theorem ti_mul {a b : Int32} (h1 : -2147483648 ≤ a.toInt * b.toInt) (h2 : a.toInt * b.toInt < 2147483648) : (a * b).toInt = a.toInt * b.toInt := by
  rw [Int32.toInt_mul]
  exact Int.bmod_eq_of_le (by omega) (by omega)
/-- an array's numbers, copied up to k -/
def cpN (f g : N1) (k : Nat) : N1 := fun j => if j < k then f j else g j
theorem cpN_succ (f g : N1) {k : Nat} (h : k < 2 ^ 31) : upd (cpN f g k) (nI k).toNatClampNeg (f (nI k).toNatClampNeg) = cpN f g (k + 1) := by
  rw [nI_clamp h]
  funext j
  unfold upd cpN
  by_cases h1 : j = k
  · subst h1; simp
  · by_cases h2 : j < k
    · rw [if_neg h1, if_pos h2, if_pos (by omega)]
    · rw [if_neg h1, if_neg h2, if_neg (by omega)]
theorem cpN_0 (f g : N1) : cpN f g 0 = g := by funext j; simp [cpN]
def fX7_copy (f g : N1) : N1 := f
theorem dX7_copy_0 : decode cX7_copy 0 = .ok (.iconst 0, 1) := by decide +kernel
theorem dX7_copy_1 : decode cX7_copy 1 = .ok (.istore_n 2, 1) := by decide +kernel
theorem dX7_copy_2 : decode cX7_copy 2 = .ok (.iload_n 2, 1) := by decide +kernel
theorem dX7_copy_3 : decode cX7_copy 3 = .ok (.bipush 73, 2) := by decide +kernel
theorem dX7_copy_5 : decode cX7_copy 5 = .ok (.if_icmp .ge 15, 3) := by decide +kernel
theorem dX7_copy_8 : decode cX7_copy 8 = .ok (.aload_n 1, 1) := by decide +kernel
theorem dX7_copy_9 : decode cX7_copy 9 = .ok (.iload_n 2, 1) := by decide +kernel
theorem dX7_copy_10 : decode cX7_copy 10 = .ok (.aload_n 0, 1) := by decide +kernel
theorem dX7_copy_11 : decode cX7_copy 11 = .ok (.iload_n 2, 1) := by decide +kernel
theorem dX7_copy_12 : decode cX7_copy 12 = .ok (.iaload, 1) := by decide +kernel
theorem dX7_copy_13 : decode cX7_copy 13 = .ok (.iastore, 1) := by decide +kernel
theorem dX7_copy_14 : decode cX7_copy 14 = .ok (.iinc 2 1, 3) := by decide +kernel
theorem dX7_copy_17 : decode cX7_copy 17 = .ok (.goto (-15), 3) := by decide +kernel
theorem dX7_copy_20 : decode cX7_copy 20 = .ok (.return_, 1) := by decide +kernel
theorem ax_79 {E : Ev} {a0 : Nat} {σ0 : N1} {a1 : Nat} {σ1 : N1} {i x : Int32} : (wAr E a0 73 σ0 ++ wAr E a1 73 σ1).set 1 (a1, .inl (E.2.1.1, 73, .inl (upd (σ1) i.toNatClampNeg x))) = wAr E a0 73 σ0 ++ wAr E a1 73 (upd σ1 i.toNatClampNeg x) := rfl
set_option maxHeartbeats 4000000 in
set_option maxRecDepth 100000 in
theorem kX7_copy (l : Launch) (E : Ev) (a : Nat) (f : N1) (b : Nat) (g : N1) : KQ l yX7_copy cX7_copy 3 none 0 0 E [.ref a, .ref b] (wAr E a 73 f ++ wAr E b 73 g) (QV E (wAr E a 73 f ++ wAr E b 73 g) (wAr E a 73 f ++ wAr E b 73 (fX7_copy f g))) := by
  refine KQ.mk RX7 rfl (by decide +kernel) (Nat.le_of_ble_eq_true rfl) ?_
  intro p e s m below meth c ls X hr w hl
  have hx := X.1
  have hb := X.2.1
  have hl : lv_has ls 3 [(0, .ref a), (1, .ref b)] := hl
  refine lv_iconst (v := 0) hx hb dX7_copy_0 (by decide) ?_
  refine lv_istore_n (lv' := [(2, .int 0), (0, .ref a), (1, .ref b)]) hx hb dX7_copy_1 rfl hl (by decide) rfl (fun ls hl => ?_)
  rw [show wAr E b 73 g = wAr E b 73 (cpN f g 0) by rw [cpN_0]] at w
  have loop : ∀ (n k : Nat), k + n = 73 → ∀ (H : Heap) (locs : List Loc), Wd E (hB (wAr E a 73 f ++ wAr E b 73 g)) s (wAr E a 73 f ++ wAr E b 73 (cpN f g k)) H locs → ∀ (ls : Array Slot), lv_has ls 3 [(2, .int (nI k)), (0, .ref a), (1, .ref b)] → W p l e { frames := 0, cells := 0, slots := 0, locals := 0 } s m (([.ref a, .ref b] : List Value)).toArray below meth c H locs 0 0 (MQ below (QV E (wAr E a 73 f ++ wAr E b 73 g) (wAr E a 73 f ++ wAr E b 73 (fX7_copy f g))) (([.ref a, .ref b] : List Value)).toArray s 0 0 (hB (wAr E a 73 f ++ wAr E b 73 g))) (F0 m 2 ls []) := by
    intro n
    induction n with
    | zero =>
      intro k hk_k H locs w ls hl
      obtain rfl : k = 73 := by omega
      refine lv_iload_n hx hb dX7_copy_2 rfl (lv_at hl 0 rfl) ?_
      refine lv_bipush (v := 73) hx hb dX7_copy_3 (by decide) ?_
      refine lv_icmp_ge (tgt := 20) hx hb dX7_copy_5 (by decide) (fun _ => ?_) (fun h => absurd (by decide : (73 : Int32) ≤ nI 73) h)
      have w := w.arr 1 f rfl (fun q hq => by simp [cpN, hq])
      have hq : fX7_copy f g = (f) := rfl
      rw [hq]
      exact r_vret X w hr dX7_copy_20
    | succ n ih =>
      intro k hk_k H locs w ls hl
      have hkN : k < 73 := by omega
      refine lv_iload_n hx hb dX7_copy_2 rfl (lv_at hl 0 rfl) ?_
      refine lv_bipush (v := 73) hx hb dX7_copy_3 (by decide) ?_
      refine lv_icmp_ge (tgt := 20) hx hb dX7_copy_5 (by decide) (fun h => absurd h (nI_ge (b := 73) hkN (by decide))) (fun _ => ?_)
      refine lv_aload_n hx hb dX7_copy_8 rfl (lv_at hl 2 rfl) ?_
      refine lv_iload_n hx hb dX7_copy_9 rfl (lv_at hl 0 rfl) ?_
      refine lv_aload_n hx hb dX7_copy_10 rfl (lv_at hl 1 rfl) ?_
      refine lv_iload_n hx hb dX7_copy_11 rfl (lv_at hl 0 rfl) ?_
      refine r_iald X w 0 rfl (vp_in_nI hkN (by decide)) dX7_copy_12 ?_
      refine r_iast X w (wAr E a 73 f ++ wAr E b 73 (upd (cpN f g k) (nI k).toNatClampNeg (f (nI k).toNatClampNeg))) 1 rfl (vp_in_nI hkN (by decide)) (ax_79 (E := E)) dX7_copy_13 (fun H locs w => ?_)
      refine lv_iinc (v := (nI k) + 1) (lv' := [(2, .int ((nI k) + 1)), (0, .ref a), (1, .ref b)]) hx hb dX7_copy_14 hl (k := 0) rfl (by first | rfl | decide) (by decide) rfl (fun ls hl => ?_)
      refine lv_goto (tgt := 2) hx hb dX7_copy_17 (by decide) ?_
      have e0 : nI k + 1 = nI (k + 1) := nI_1 k
      rw [e0] at hl
      have e1 : upd (cpN f g k) (nI k).toNatClampNeg (f (nI k).toNatClampNeg) = cpN f g (k + 1) := cpN_succ f g (by omega)
      rw [e1] at w
      exact ih (k + 1) (by omega) _ _ w ls (lv_sub hl [0, 1, 2] rfl)
  exact loop 73 0 (by omega) _ _ w ls (lv_sub hl [0, 1, 2] rfl)
def fX7_remember (μ : N2) (sp : UInt32) : N2 := (va_up μ 1 (fX7_copy (μ 0) (μ 1)))
theorem dX7_remember_0 : decode cX7_remember 0 = .ok (.aload_n 0, 1) := by decide +kernel
theorem dX7_remember_1 : decode cX7_remember 1 = .ok (.getfield 7, 3) := by decide +kernel
theorem dX7_remember_4 : decode cX7_remember 4 = .ok (.aload_n 0, 1) := by decide +kernel
theorem dX7_remember_5 : decode cX7_remember 5 = .ok (.getfield 13, 3) := by decide +kernel
theorem dX7_remember_8 : decode cX7_remember 8 = .ok (.invokestatic 45, 3) := by decide +kernel
theorem dX7_remember_11 : decode cX7_remember 11 = .ok (.return_, 1) := by decide +kernel
theorem ck_X7_45 : CkS RX7 45 yX7_copy cX7_copy 3 none 2 := ⟨wm_X7_45, wst_yX7_copy, wi_X7, wc_yX7_copy, by decide +kernel⟩
theorem hc_80 {E : Ev} {a0 : Nat → Nat} {σ0 : N2} {v0 : UInt32} : ([1, 2] : List Nat).map (fun i => (wMd E a0 σ0 v0)[i]?) = (wAr E (a0 1) 73 (σ0 0) ++ wAr E (a0 2) 73 (σ0 1)).map some := rfl
theorem ha_80 {E : Ev} {a0 : Nat → Nat} {σ0 : N2}  {τ1 : N1} : (wAr E (a0 1) 73 (σ0 0) ++ wAr E (a0 2) 73 τ1).map Prod.fst = (wAr E (a0 1) 73 (σ0 0) ++ wAr E (a0 2) 73 (σ0 1)).map Prod.fst := rfl
theorem hw_80 {E : Ev} {a0 : Nat → Nat} {σ0 : N2} {v0 : UInt32}  {τ1 : N1} : wput (wMd E a0 σ0 v0) [1, 2] (wAr E (a0 1) 73 (σ0 0) ++ wAr E (a0 2) 73 τ1) = wMd E a0 (va_up σ0 1 τ1) v0 := rfl
set_option maxHeartbeats 4000000 in
set_option maxRecDepth 100000 in
theorem kX7_remember (l : Launch) (E : Ev) (a : Nat → Nat) (μ : N2) (sp : UInt32) : KQ l yX7_remember cX7_remember 1 none 1 22 E [.ref (a 0)] (wMd E a μ sp) (QV E (wMd E a μ sp) (wMd E a (fX7_remember μ sp) sp)) := by
  refine KQ.mk RX7 rfl (by decide +kernel) (Nat.le_of_ble_eq_true rfl) ?_
  intro p e s m below meth c ls X hr w hl
  have hx := X.1
  have hb := X.2.1
  have hl : lv_has ls 1 [(0, .ref (a 0))] := hl
  refine lv_aload_n hx hb dX7_remember_0 rfl (lv_at hl 0 rfl) ?_
  refine r_get X w CL7 0 (by decide) wf_X7_7 0 rfl rfl dX7_remember_1 ?_
  refine lv_aload_n hx hb dX7_remember_4 rfl (lv_at hl 0 rfl) ?_
  refine r_get X w CL7 1 (by decide) wf_X7_13 0 rfl rfl dX7_remember_5 ?_
  refine r_cv w (r_runS (As := [.ref (a 1), .ref (a 2)]) (rest := []) X w (kX7_copy l E (a 1) (μ 0) (a 2) (μ 1) ) ck_X7_45 ⟨Nat.le_of_ble_eq_true rfl, Nat.le_of_ble_eq_true rfl⟩ [1, 2] (hc_80 (E := E)) (by decide +kernel) hl.1 (Nat.le_of_ble_eq_true rfl) rfl dX7_remember_8 ⟨Nat.le_of_ble_eq_true rfl, Nat.le_of_ble_eq_true rfl⟩) (wMd E a (va_up μ 1 (fX7_copy (μ 0) (μ 1))) sp) [1, 2] (hc_80 (E := E)) (by decide +kernel) (ha_80 (E := E)) (hw_80 (E := E)) (fun H locs w => ?_)
  have hq : fX7_remember μ sp = (va_up μ 1 (fX7_copy (μ 0) (μ 1))) := rfl
  rw [hq]
  exact r_vret X w hr dX7_remember_11
def fX7_isCell (ce : Int32) : Int32 := ((fX7_in ce.toInt64 0 60))
theorem dX7_isCell_0 : decode cX7_isCell 0 = .ok (.iload_n 0, 1) := by decide +kernel
theorem dX7_isCell_1 : decode cX7_isCell 1 = .ok (.i2l, 1) := by decide +kernel
theorem dX7_isCell_2 : decode cX7_isCell 2 = .ok (.lconst 0, 1) := by decide +kernel
theorem dX7_isCell_3 : decode cX7_isCell 3 = .ok (.ldc2_w 53, 3) := by decide +kernel
theorem dX7_isCell_6 : decode cX7_isCell 6 = .ok (.invokestatic 41, 3) := by decide +kernel
theorem dX7_isCell_9 : decode cX7_isCell 9 = .ok (.ireturn, 1) := by decide +kernel
theorem ck_X7_41 : CkS RX7 41 yX7_in cX7_in 6 (some .boolean) 3 := ⟨wm_X7_41, wst_yX7_in, wi_X7, wc_yX7_in, by decide +kernel⟩
set_option maxHeartbeats 4000000 in
set_option maxRecDepth 100000 in
theorem kX7_isCell (l : Launch) (E : Ev) (ce : Int32) : KQ l yX7_isCell cX7_isCell 1 (some .boolean) 1 25 E [.int ce] [] (QI E [] (fX7_isCell ce) []) := by
  refine KQ.mk RX7 rfl (by decide +kernel) (Nat.le_of_ble_eq_true rfl) ?_
  intro p e s m below meth c ls X hr w hl
  have hx := X.1
  have hb := X.2.1
  have hl : lv_has ls 1 [(0, .int ce)] := hl
  refine lv_iload_n hx hb dX7_isCell_0 rfl (lv_at hl 0 rfl) ?_
  refine lv_i2l hx hb dX7_isCell_1 rfl ?_
  refine lv_lconst (v := 0) hx hb dX7_isCell_2 (by decide) ?_
  refine r_ldcl X wk_X7_53 dX7_isCell_3 ?_
  refine r_ci w (r_runS (As := [.long ce.toInt64, .long 0, .long 60]) (rest := []) X w (kX7_in l E ce.toInt64 0 60 ) ck_X7_41 ⟨Nat.le_of_ble_eq_true rfl, Nat.le_of_ble_eq_true rfl⟩ [] rfl (by decide +kernel) hl.1 (Nat.le_of_ble_eq_true rfl) rfl dX7_isCell_6 ⟨Nat.le_of_ble_eq_true rfl, Nat.le_of_ble_eq_true rfl⟩) ([]) [] rfl (by decide +kernel) rfl rfl (fun H locs w => ?_)
  have hq : fX7_isCell ce = ((fX7_in ce.toInt64 0 60)) := rfl
  rw [hq]
  exact r_zret X w hr (zX7_in _ _ _) rfl dX7_isCell_9
theorem zX7_isCell (ce : Int32) : fX7_isCell ce = 0 ∨ fX7_isCell ce = 1 := by
  unfold fX7_isCell
  repeat' split
  all_goals first | exact Or.inl rfl | exact Or.inr rfl | (simp; done) | exact zX7_in _ _ _
theorem in61 {ce : Int32} (h : ¬ fX7_isCell ce = 0) : vp_in ce 61 := by
  have h2 : ¬ fX7_in ce.toInt64 0 60 = 0 := h
  rw [in_iff] at h2
  have e0 : (0 : Int64).toInt = 0 := rfl
  have e1 : (60 : Int64).toInt = 60 := rfl
  rw [vp_in_iff]
  omega
theorem at_in {q r : Int32} (h1 : ¬ fX7_in q.toInt64 (-4) 4 = 0) (h2 : ¬ fX7_in r.toInt64 (-4) 4 = 0) : vp_in (((9 * (r + 4)) + q) + 4) 81 := by
  rw [in_iff] at h1 h2
  have e0 : (-4 : Int64).toInt = -4 := rfl
  have e1 : (4 : Int64).toInt = 4 := rfl
  have e4 : (4 : Int32).toInt = 4 := rfl
  have e9 : (9 : Int32).toInt = 9 := rfl
  have a1 : (r + 4).toInt = r.toInt + 4 := by rw [ti_add (by omega) (by omega), e4]
  have a2 : (9 * (r + 4)).toInt = 9 * (r.toInt + 4) := by rw [ti_mul (by rw [e9, a1]; omega) (by rw [e9, a1]; omega), e9, a1]
  have a3 : ((9 * (r + 4)) + q).toInt = 9 * (r.toInt + 4) + q.toInt := by rw [ti_add (by omega) (by omega), a2]
  rw [vp_in_iff, ti_add (by omega) (by omega), a3, e4]
  omega
def fX7_cellAt (μ : N2) (sp : UInt32) (q : Int32) (r : Int32) : Int32 := if (fX7_in q.toInt64 (-4) 4) = 0 then (((-5))) else (if (fX7_in r.toInt64 (-4) 4) = 0 then (((-5))) else ((μ 7 (((9 * (r + 4)) + q) + 4).toNatClampNeg)))
theorem dX7_cellAt_0 : decode cX7_cellAt 0 = .ok (.iload_n 1, 1) := by decide +kernel
theorem dX7_cellAt_1 : decode cX7_cellAt 1 = .ok (.i2l, 1) := by decide +kernel
theorem dX7_cellAt_2 : decode cX7_cellAt 2 = .ok (.ldc2_w 37, 3) := by decide +kernel
theorem dX7_cellAt_5 : decode cX7_cellAt 5 = .ok (.ldc2_w 39, 3) := by decide +kernel
theorem dX7_cellAt_8 : decode cX7_cellAt 8 = .ok (.invokestatic 41, 3) := by decide +kernel
theorem dX7_cellAt_11 : decode cX7_cellAt 11 = .ok (.ifCond .eq 35, 3) := by decide +kernel
theorem dX7_cellAt_14 : decode cX7_cellAt 14 = .ok (.iload_n 2, 1) := by decide +kernel
theorem dX7_cellAt_15 : decode cX7_cellAt 15 = .ok (.i2l, 1) := by decide +kernel
theorem dX7_cellAt_16 : decode cX7_cellAt 16 = .ok (.ldc2_w 37, 3) := by decide +kernel
theorem dX7_cellAt_19 : decode cX7_cellAt 19 = .ok (.ldc2_w 39, 3) := by decide +kernel
theorem dX7_cellAt_22 : decode cX7_cellAt 22 = .ok (.invokestatic 41, 3) := by decide +kernel
theorem dX7_cellAt_25 : decode cX7_cellAt 25 = .ok (.ifCond .eq 21, 3) := by decide +kernel
theorem dX7_cellAt_28 : decode cX7_cellAt 28 = .ok (.aload_n 0, 1) := by decide +kernel
theorem dX7_cellAt_29 : decode cX7_cellAt 29 = .ok (.getfield 31, 3) := by decide +kernel
theorem dX7_cellAt_32 : decode cX7_cellAt 32 = .ok (.bipush 9, 2) := by decide +kernel
theorem dX7_cellAt_34 : decode cX7_cellAt 34 = .ok (.iload_n 2, 1) := by decide +kernel
theorem dX7_cellAt_35 : decode cX7_cellAt 35 = .ok (.iconst 4, 1) := by decide +kernel
theorem dX7_cellAt_36 : decode cX7_cellAt 36 = .ok (.iadd, 1) := by decide +kernel
theorem dX7_cellAt_37 : decode cX7_cellAt 37 = .ok (.imul, 1) := by decide +kernel
theorem dX7_cellAt_38 : decode cX7_cellAt 38 = .ok (.iload_n 1, 1) := by decide +kernel
theorem dX7_cellAt_39 : decode cX7_cellAt 39 = .ok (.iadd, 1) := by decide +kernel
theorem dX7_cellAt_40 : decode cX7_cellAt 40 = .ok (.iconst 4, 1) := by decide +kernel
theorem dX7_cellAt_41 : decode cX7_cellAt 41 = .ok (.iadd, 1) := by decide +kernel
theorem dX7_cellAt_42 : decode cX7_cellAt 42 = .ok (.iaload, 1) := by decide +kernel
theorem dX7_cellAt_43 : decode cX7_cellAt 43 = .ok (.goto 5, 3) := by decide +kernel
theorem dX7_cellAt_46 : decode cX7_cellAt 46 = .ok (.bipush (-5), 2) := by decide +kernel
theorem dX7_cellAt_48 : decode cX7_cellAt 48 = .ok (.ireturn, 1) := by decide +kernel
set_option maxHeartbeats 4000000 in
set_option maxRecDepth 100000 in
theorem kX7_cellAt (l : Launch) (E : Ev) (a : Nat → Nat) (μ : N2) (sp : UInt32) (q : Int32) (r : Int32) : KQ l yX7_cellAt cX7_cellAt 3 (some .int) 1 25 E [.ref (a 0), .int q, .int r] (wMd E a μ sp) (QI E (wMd E a μ sp) (fX7_cellAt μ sp q r) (wMd E a μ sp)) := by
  refine KQ.mk RX7 rfl (by decide +kernel) (Nat.le_of_ble_eq_true rfl) ?_
  intro p e s m below meth c ls X hr w hl
  have hx := X.1
  have hb := X.2.1
  have hl : lv_has ls 3 [(0, .ref (a 0)), (1, .int q), (2, .int r)] := hl
  refine lv_iload_n hx hb dX7_cellAt_0 rfl (lv_at hl 1 rfl) ?_
  refine lv_i2l hx hb dX7_cellAt_1 rfl ?_
  refine r_ldcl X wk_X7_37 dX7_cellAt_2 ?_
  refine r_ldcl X wk_X7_39 dX7_cellAt_5 ?_
  refine r_ci w (r_runS (As := [.long q.toInt64, .long (-4), .long 4]) (rest := []) X w (kX7_in l E q.toInt64 (-4) 4 ) ck_X7_41 ⟨Nat.le_of_ble_eq_true rfl, Nat.le_of_ble_eq_true rfl⟩ [] rfl (by decide +kernel) hl.1 (Nat.le_of_ble_eq_true rfl) rfl dX7_cellAt_8 ⟨Nat.le_of_ble_eq_true rfl, Nat.le_of_ble_eq_true rfl⟩) (wMd E a μ sp) [] rfl (by decide +kernel) rfl rfl (fun H locs w => ?_)
  refine lv_if_eq (tgt := 46) hx hb dX7_cellAt_11 (by decide) (fun c11_1 => ?_) (fun c11_1 => ?_)
  · refine lv_bipush (v := (-5)) hx hb dX7_cellAt_46 (by decide) ?_
    have hq : fX7_cellAt μ sp q r = ((-5)) := by simp only [fX7_cellAt, if_pos c11_1]
    rw [hq]
    exact r_iret X w hr rfl dX7_cellAt_48
  · refine lv_iload_n hx hb dX7_cellAt_14 rfl (lv_at hl 2 rfl) ?_
    refine lv_i2l hx hb dX7_cellAt_15 rfl ?_
    refine r_ldcl X wk_X7_37 dX7_cellAt_16 ?_
    refine r_ldcl X wk_X7_39 dX7_cellAt_19 ?_
    refine r_ci w (r_runS (As := [.long r.toInt64, .long (-4), .long 4]) (rest := []) X w (kX7_in l E r.toInt64 (-4) 4 ) ck_X7_41 ⟨Nat.le_of_ble_eq_true rfl, Nat.le_of_ble_eq_true rfl⟩ [] rfl (by decide +kernel) hl.1 (Nat.le_of_ble_eq_true rfl) rfl dX7_cellAt_22 ⟨Nat.le_of_ble_eq_true rfl, Nat.le_of_ble_eq_true rfl⟩) (wMd E a μ sp) [] rfl (by decide +kernel) rfl rfl (fun H locs w => ?_)
    refine lv_if_eq (tgt := 46) hx hb dX7_cellAt_25 (by decide) (fun c25_2 => ?_) (fun c25_2 => ?_)
    · refine lv_bipush (v := (-5)) hx hb dX7_cellAt_46 (by decide) ?_
      have hq : fX7_cellAt μ sp q r = ((-5)) := by simp only [fX7_cellAt, if_neg c11_1, if_pos c25_2]
      rw [hq]
      exact r_iret X w hr rfl dX7_cellAt_48
    · refine lv_aload_n hx hb dX7_cellAt_28 rfl (lv_at hl 0 rfl) ?_
      refine r_get X w CL7 9 (by decide) wf_X7_31 0 rfl rfl dX7_cellAt_29 ?_
      refine lv_bipush (v := 9) hx hb dX7_cellAt_32 (by decide) ?_
      refine lv_iload_n hx hb dX7_cellAt_34 rfl (lv_at hl 2 rfl) ?_
      refine lv_iconst (v := 4) hx hb dX7_cellAt_35 (by decide) ?_
      refine lv_iadd hx hb dX7_cellAt_36 ?_
      refine lv_imul hx hb dX7_cellAt_37 ?_
      refine lv_iload_n hx hb dX7_cellAt_38 rfl (lv_at hl 1 rfl) ?_
      refine lv_iadd hx hb dX7_cellAt_39 ?_
      refine lv_iconst (v := 4) hx hb dX7_cellAt_40 (by decide) ?_
      refine lv_iadd hx hb dX7_cellAt_41 ?_
      refine r_iald X w 8 rfl (at_in c11_1 c25_2) dX7_cellAt_42 ?_
      refine lv_goto (tgt := 48) hx hb dX7_cellAt_43 (by decide) ?_
      have hq : fX7_cellAt μ sp q r = (μ 7 (((9 * (r + 4)) + q) + 4).toNatClampNeg) := by simp only [fX7_cellAt, if_neg c11_1, if_neg c25_2]
      rw [hq]
      exact r_iret X w hr rfl dX7_cellAt_48
def fX7_qBy (wy : Int32) : Int32 := if 2 ≤ wy then (if wy = 2 then ((0)) else (if wy = 5 then ((0)) else (((-1))))) else ((1))
theorem dX7_qBy_0 : decode cX7_qBy 0 = .ok (.iload_n 0, 1) := by decide +kernel
theorem dX7_qBy_1 : decode cX7_qBy 1 = .ok (.iconst 2, 1) := by decide +kernel
theorem dX7_qBy_2 : decode cX7_qBy 2 = .ok (.if_icmp .ge 7, 3) := by decide +kernel
theorem dX7_qBy_5 : decode cX7_qBy 5 = .ok (.iconst 1, 1) := by decide +kernel
theorem dX7_qBy_6 : decode cX7_qBy 6 = .ok (.goto 18, 3) := by decide +kernel
theorem dX7_qBy_9 : decode cX7_qBy 9 = .ok (.iload_n 0, 1) := by decide +kernel
theorem dX7_qBy_10 : decode cX7_qBy 10 = .ok (.iconst 2, 1) := by decide +kernel
theorem dX7_qBy_11 : decode cX7_qBy 11 = .ok (.if_icmp .eq 8, 3) := by decide +kernel
theorem dX7_qBy_14 : decode cX7_qBy 14 = .ok (.iload_n 0, 1) := by decide +kernel
theorem dX7_qBy_15 : decode cX7_qBy 15 = .ok (.iconst 5, 1) := by decide +kernel
theorem dX7_qBy_16 : decode cX7_qBy 16 = .ok (.if_icmp .ne 7, 3) := by decide +kernel
theorem dX7_qBy_19 : decode cX7_qBy 19 = .ok (.iconst 0, 1) := by decide +kernel
theorem dX7_qBy_20 : decode cX7_qBy 20 = .ok (.goto 4, 3) := by decide +kernel
theorem dX7_qBy_23 : decode cX7_qBy 23 = .ok (.iconst (-1), 1) := by decide +kernel
theorem dX7_qBy_24 : decode cX7_qBy 24 = .ok (.ireturn, 1) := by decide +kernel
set_option maxHeartbeats 4000000 in
set_option maxRecDepth 100000 in
theorem kX7_qBy (l : Launch) (E : Ev) (wy : Int32) : KQ l yX7_qBy cX7_qBy 1 (some .int) 0 0 E [.int wy] [] (QI E [] (fX7_qBy wy) []) := by
  refine KQ.mk RX7 rfl (by decide +kernel) (Nat.le_of_ble_eq_true rfl) ?_
  intro p e s m below meth c ls X hr w hl
  have hx := X.1
  have hb := X.2.1
  have hl : lv_has ls 1 [(0, .int wy)] := hl
  refine lv_iload_n hx hb dX7_qBy_0 rfl (lv_at hl 0 rfl) ?_
  refine lv_iconst (v := 2) hx hb dX7_qBy_1 (by decide) ?_
  refine lv_icmp_ge (tgt := 9) hx hb dX7_qBy_2 (by decide) (fun c2_1 => ?_) (fun c2_1 => ?_)
  · refine lv_iload_n hx hb dX7_qBy_9 rfl (lv_at hl 0 rfl) ?_
    refine lv_iconst (v := 2) hx hb dX7_qBy_10 (by decide) ?_
    refine lv_icmp_eq (tgt := 19) hx hb dX7_qBy_11 (by decide) (fun c11_2 => ?_) (fun c11_2 => ?_)
    · refine lv_iconst (v := 0) hx hb dX7_qBy_19 (by decide) ?_
      refine lv_goto (tgt := 24) hx hb dX7_qBy_20 (by decide) ?_
      have hq : fX7_qBy wy = (0) := by simp only [fX7_qBy, if_pos c2_1, if_pos c11_2]
      rw [hq]
      exact r_iret X w hr rfl dX7_qBy_24
    · refine lv_iload_n hx hb dX7_qBy_14 rfl (lv_at hl 0 rfl) ?_
      refine lv_iconst (v := 5) hx hb dX7_qBy_15 (by decide) ?_
      refine lv_icmp_ne (tgt := 23) hx hb dX7_qBy_16 (by decide) (fun c16_3 => ?_) (fun c16_3 => ?_)
      · refine lv_iconst (v := (-1)) hx hb dX7_qBy_23 (by decide) ?_
        have hq : fX7_qBy wy = ((-1)) := by simp only [fX7_qBy, if_pos c2_1, if_neg c11_2, if_neg c16_3]
        rw [hq]
        exact r_iret X w hr rfl dX7_qBy_24
      · refine lv_iconst (v := 0) hx hb dX7_qBy_19 (by decide) ?_
        refine lv_goto (tgt := 24) hx hb dX7_qBy_20 (by decide) ?_
        have hq : fX7_qBy wy = (0) := by simp only [fX7_qBy, if_pos c2_1, if_neg c11_2, if_pos c16_3]
        rw [hq]
        exact r_iret X w hr rfl dX7_qBy_24
  · refine lv_iconst (v := 1) hx hb dX7_qBy_5 (by decide) ?_
    refine lv_goto (tgt := 24) hx hb dX7_qBy_6 (by decide) ?_
    have hq : fX7_qBy wy = (1) := by simp only [fX7_qBy, if_neg c2_1]
    rw [hq]
    exact r_iret X w hr rfl dX7_qBy_24
def fX7_rBy (wy : Int32) : Int32 := if wy = 1 then (((-1))) else (if wy = 2 then (((-1))) else (if wy = 4 then ((1)) else (if wy = 5 then ((1)) else ((0)))))
theorem dX7_rBy_0 : decode cX7_rBy 0 = .ok (.iload_n 0, 1) := by decide +kernel
theorem dX7_rBy_1 : decode cX7_rBy 1 = .ok (.iconst 1, 1) := by decide +kernel
theorem dX7_rBy_2 : decode cX7_rBy 2 = .ok (.if_icmp .eq 8, 3) := by decide +kernel
theorem dX7_rBy_5 : decode cX7_rBy 5 = .ok (.iload_n 0, 1) := by decide +kernel
theorem dX7_rBy_6 : decode cX7_rBy 6 = .ok (.iconst 2, 1) := by decide +kernel
theorem dX7_rBy_7 : decode cX7_rBy 7 = .ok (.if_icmp .ne 7, 3) := by decide +kernel
theorem dX7_rBy_10 : decode cX7_rBy 10 = .ok (.iconst (-1), 1) := by decide +kernel
theorem dX7_rBy_11 : decode cX7_rBy 11 = .ok (.goto 18, 3) := by decide +kernel
theorem dX7_rBy_14 : decode cX7_rBy 14 = .ok (.iload_n 0, 1) := by decide +kernel
theorem dX7_rBy_15 : decode cX7_rBy 15 = .ok (.iconst 4, 1) := by decide +kernel
theorem dX7_rBy_16 : decode cX7_rBy 16 = .ok (.if_icmp .eq 8, 3) := by decide +kernel
theorem dX7_rBy_19 : decode cX7_rBy 19 = .ok (.iload_n 0, 1) := by decide +kernel
theorem dX7_rBy_20 : decode cX7_rBy 20 = .ok (.iconst 5, 1) := by decide +kernel
theorem dX7_rBy_21 : decode cX7_rBy 21 = .ok (.if_icmp .ne 7, 3) := by decide +kernel
theorem dX7_rBy_24 : decode cX7_rBy 24 = .ok (.iconst 1, 1) := by decide +kernel
theorem dX7_rBy_25 : decode cX7_rBy 25 = .ok (.goto 4, 3) := by decide +kernel
theorem dX7_rBy_28 : decode cX7_rBy 28 = .ok (.iconst 0, 1) := by decide +kernel
theorem dX7_rBy_29 : decode cX7_rBy 29 = .ok (.ireturn, 1) := by decide +kernel
set_option maxHeartbeats 4000000 in
set_option maxRecDepth 100000 in
theorem kX7_rBy (l : Launch) (E : Ev) (wy : Int32) : KQ l yX7_rBy cX7_rBy 1 (some .int) 0 0 E [.int wy] [] (QI E [] (fX7_rBy wy) []) := by
  refine KQ.mk RX7 rfl (by decide +kernel) (Nat.le_of_ble_eq_true rfl) ?_
  intro p e s m below meth c ls X hr w hl
  have hx := X.1
  have hb := X.2.1
  have hl : lv_has ls 1 [(0, .int wy)] := hl
  refine lv_iload_n hx hb dX7_rBy_0 rfl (lv_at hl 0 rfl) ?_
  refine lv_iconst (v := 1) hx hb dX7_rBy_1 (by decide) ?_
  refine lv_icmp_eq (tgt := 10) hx hb dX7_rBy_2 (by decide) (fun c2_1 => ?_) (fun c2_1 => ?_)
  · refine lv_iconst (v := (-1)) hx hb dX7_rBy_10 (by decide) ?_
    refine lv_goto (tgt := 29) hx hb dX7_rBy_11 (by decide) ?_
    have hq : fX7_rBy wy = ((-1)) := by simp only [fX7_rBy, if_pos c2_1]
    rw [hq]
    exact r_iret X w hr rfl dX7_rBy_29
  · refine lv_iload_n hx hb dX7_rBy_5 rfl (lv_at hl 0 rfl) ?_
    refine lv_iconst (v := 2) hx hb dX7_rBy_6 (by decide) ?_
    refine lv_icmp_ne (tgt := 14) hx hb dX7_rBy_7 (by decide) (fun c7_2 => ?_) (fun c7_2 => ?_)
    · refine lv_iload_n hx hb dX7_rBy_14 rfl (lv_at hl 0 rfl) ?_
      refine lv_iconst (v := 4) hx hb dX7_rBy_15 (by decide) ?_
      refine lv_icmp_eq (tgt := 24) hx hb dX7_rBy_16 (by decide) (fun c16_3 => ?_) (fun c16_3 => ?_)
      · refine lv_iconst (v := 1) hx hb dX7_rBy_24 (by decide) ?_
        refine lv_goto (tgt := 29) hx hb dX7_rBy_25 (by decide) ?_
        have hq : fX7_rBy wy = (1) := by simp only [fX7_rBy, if_neg c2_1, if_neg c7_2, if_pos c16_3]
        rw [hq]
        exact r_iret X w hr rfl dX7_rBy_29
      · refine lv_iload_n hx hb dX7_rBy_19 rfl (lv_at hl 0 rfl) ?_
        refine lv_iconst (v := 5) hx hb dX7_rBy_20 (by decide) ?_
        refine lv_icmp_ne (tgt := 28) hx hb dX7_rBy_21 (by decide) (fun c21_4 => ?_) (fun c21_4 => ?_)
        · refine lv_iconst (v := 0) hx hb dX7_rBy_28 (by decide) ?_
          have hq : fX7_rBy wy = (0) := by simp only [fX7_rBy, if_neg c2_1, if_neg c7_2, if_neg c16_3, if_neg c21_4]
          rw [hq]
          exact r_iret X w hr rfl dX7_rBy_29
        · refine lv_iconst (v := 1) hx hb dX7_rBy_24 (by decide) ?_
          refine lv_goto (tgt := 29) hx hb dX7_rBy_25 (by decide) ?_
          have hq : fX7_rBy wy = (1) := by simp only [fX7_rBy, if_neg c2_1, if_neg c7_2, if_neg c16_3, if_pos c21_4]
          rw [hq]
          exact r_iret X w hr rfl dX7_rBy_29
    · refine lv_iconst (v := (-1)) hx hb dX7_rBy_10 (by decide) ?_
      refine lv_goto (tgt := 29) hx hb dX7_rBy_11 (by decide) ?_
      have hq : fX7_rBy wy = ((-1)) := by simp only [fX7_rBy, if_neg c2_1, if_pos c7_2]
      rw [hq]
      exact r_iret X w hr rfl dX7_rBy_29
def fX7_ahead (μ : N2) (sp : UInt32) (ce : Int32) (wy : Int32) : Int32 := ((fX7_cellAt μ sp ((μ 5 ce.toNatClampNeg) + (fX7_qBy wy)) ((μ 6 ce.toNatClampNeg) + (fX7_rBy wy))))
theorem dX7_ahead_0 : decode cX7_ahead 0 = .ok (.aload_n 0, 1) := by decide +kernel
theorem dX7_ahead_1 : decode cX7_ahead 1 = .ok (.aload_n 0, 1) := by decide +kernel
theorem dX7_ahead_2 : decode cX7_ahead 2 = .ok (.getfield 25, 3) := by decide +kernel
theorem dX7_ahead_5 : decode cX7_ahead 5 = .ok (.iload_n 1, 1) := by decide +kernel
theorem dX7_ahead_6 : decode cX7_ahead 6 = .ok (.iaload, 1) := by decide +kernel
theorem dX7_ahead_7 : decode cX7_ahead 7 = .ok (.iload_n 2, 1) := by decide +kernel
theorem dX7_ahead_8 : decode cX7_ahead 8 = .ok (.invokestatic 55, 3) := by decide +kernel
theorem dX7_ahead_11 : decode cX7_ahead 11 = .ok (.iadd, 1) := by decide +kernel
theorem dX7_ahead_12 : decode cX7_ahead 12 = .ok (.aload_n 0, 1) := by decide +kernel
theorem dX7_ahead_13 : decode cX7_ahead 13 = .ok (.getfield 28, 3) := by decide +kernel
theorem dX7_ahead_16 : decode cX7_ahead 16 = .ok (.iload_n 1, 1) := by decide +kernel
theorem dX7_ahead_17 : decode cX7_ahead 17 = .ok (.iaload, 1) := by decide +kernel
theorem dX7_ahead_18 : decode cX7_ahead 18 = .ok (.iload_n 2, 1) := by decide +kernel
theorem dX7_ahead_19 : decode cX7_ahead 19 = .ok (.invokestatic 59, 3) := by decide +kernel
theorem dX7_ahead_22 : decode cX7_ahead 22 = .ok (.iadd, 1) := by decide +kernel
theorem dX7_ahead_23 : decode cX7_ahead 23 = .ok (.invokevirtual 62, 3) := by decide +kernel
theorem dX7_ahead_26 : decode cX7_ahead 26 = .ok (.ireturn, 1) := by decide +kernel
theorem ck_X7_55 : CkS RX7 55 yX7_qBy cX7_qBy 1 (some .int) 1 := ⟨wm_X7_55, wst_yX7_qBy, wi_X7, wc_yX7_qBy, by decide +kernel⟩
theorem ck_X7_59 : CkS RX7 59 yX7_rBy cX7_rBy 1 (some .int) 1 := ⟨wm_X7_59, wst_yX7_rBy, wi_X7, wc_yX7_rBy, by decide +kernel⟩
theorem ck_X7_62 : CkV RX7 62 RX7 yX7_cellAt cX7_cellAt 3 (some .int) 2 := ⟨wm_X7_62, wim_yX7_cellAt, wse_yX7_cellAt, wi_X7, wc_yX7_cellAt, by decide +kernel⟩
theorem hc_81 {E : Ev} {a0 : Nat → Nat} {σ0 : N2} {v0 : UInt32} : ([0, 1, 2, 3, 4, 5, 6, 7, 8, 9] : List Nat).map (fun i => (wMd E a0 σ0 v0)[i]?) = (wMd E a0 σ0 v0).map some := rfl
theorem ha_81 {E : Ev} {a0 : Nat → Nat} {σ0 : N2} {v0 : UInt32} {τ0_0 : N2} {τ0_1 : UInt32} : (wMd E a0 τ0_0 τ0_1).map Prod.fst = (wMd E a0 σ0 v0).map Prod.fst := rfl
theorem hw_81 {E : Ev} {a0 : Nat → Nat} {σ0 : N2} {v0 : UInt32} {τ0_0 : N2} {τ0_1 : UInt32} : wput (wMd E a0 σ0 v0) [0, 1, 2, 3, 4, 5, 6, 7, 8, 9] (wMd E a0 τ0_0 τ0_1) = wMd E a0 τ0_0 τ0_1 := rfl
set_option maxHeartbeats 4000000 in
set_option maxRecDepth 100000 in
theorem kX7_ahead (l : Launch) (E : Ev) (a : Nat → Nat) (μ : N2) (sp : UInt32) (ce : Int32) (wy : Int32) (hc : vp_in ce 61) : KQ l yX7_ahead cX7_ahead 3 (some .int) 2 47 E [.ref (a 0), .int ce, .int wy] (wMd E a μ sp) (QI E (wMd E a μ sp) (fX7_ahead μ sp ce wy) (wMd E a μ sp)) := by
  refine KQ.mk RX7 rfl (by decide +kernel) (Nat.le_of_ble_eq_true rfl) ?_
  intro p e s m below meth c ls X hr w hl
  have hx := X.1
  have hb := X.2.1
  have hl : lv_has ls 3 [(0, .ref (a 0)), (1, .int ce), (2, .int wy)] := hl
  refine lv_aload_n hx hb dX7_ahead_0 rfl (lv_at hl 0 rfl) ?_
  refine lv_aload_n hx hb dX7_ahead_1 rfl (lv_at hl 0 rfl) ?_
  refine r_get X w CL7 7 (by decide) wf_X7_25 0 rfl rfl dX7_ahead_2 ?_
  refine lv_iload_n hx hb dX7_ahead_5 rfl (lv_at hl 1 rfl) ?_
  refine r_iald X w 6 rfl hc dX7_ahead_6 ?_
  refine lv_iload_n hx hb dX7_ahead_7 rfl (lv_at hl 2 rfl) ?_
  refine r_ci w (r_runS (As := [.int wy]) (rest := [.int (μ 5 ce.toNatClampNeg), .ref (a 0)]) X w (kX7_qBy l E wy ) ck_X7_55 ⟨Nat.le_of_ble_eq_true rfl, Nat.le_of_ble_eq_true rfl⟩ [] rfl (by decide +kernel) hl.1 (Nat.le_of_ble_eq_true rfl) rfl dX7_ahead_8 ⟨Nat.le_of_ble_eq_true rfl, Nat.le_of_ble_eq_true rfl⟩) (wMd E a μ sp) [] rfl (by decide +kernel) rfl rfl (fun H locs w => ?_)
  refine lv_iadd hx hb dX7_ahead_11 ?_
  refine lv_aload_n hx hb dX7_ahead_12 rfl (lv_at hl 0 rfl) ?_
  refine r_get X w CL7 8 (by decide) wf_X7_28 0 rfl rfl dX7_ahead_13 ?_
  refine lv_iload_n hx hb dX7_ahead_16 rfl (lv_at hl 1 rfl) ?_
  refine r_iald X w 7 rfl hc dX7_ahead_17 ?_
  refine lv_iload_n hx hb dX7_ahead_18 rfl (lv_at hl 2 rfl) ?_
  refine r_ci w (r_runS (As := [.int wy]) (rest := [.int (μ 6 ce.toNatClampNeg), .int ((μ 5 ce.toNatClampNeg) + (fX7_qBy wy)), .ref (a 0)]) X w (kX7_rBy l E wy ) ck_X7_59 ⟨Nat.le_of_ble_eq_true rfl, Nat.le_of_ble_eq_true rfl⟩ [] rfl (by decide +kernel) hl.1 (Nat.le_of_ble_eq_true rfl) rfl dX7_ahead_19 ⟨Nat.le_of_ble_eq_true rfl, Nat.le_of_ble_eq_true rfl⟩) (wMd E a μ sp) [] rfl (by decide +kernel) rfl rfl (fun H locs w => ?_)
  refine lv_iadd hx hb dX7_ahead_22 ?_
  refine r_ci w (r_runV (As := [.int ((μ 5 ce.toNatClampNeg) + (fX7_qBy wy)), .int ((μ 6 ce.toNatClampNeg) + (fX7_rBy wy))]) (rest := []) X w (kX7_cellAt l E a μ sp ((μ 5 ce.toNatClampNeg) + (fX7_qBy wy)) ((μ 6 ce.toNatClampNeg) + (fX7_rBy wy)) ) ck_X7_62 ⟨Nat.le_of_ble_eq_true rfl, Nat.le_of_ble_eq_true rfl⟩ [0, 1, 2, 3, 4, 5, 6, 7, 8, 9] (hc_81 (E := E)) (by decide +kernel) (k0 := 0) CL7 rfl hl.1 (Nat.le_of_ble_eq_true rfl) rfl dX7_ahead_23 ⟨Nat.le_of_ble_eq_true rfl, Nat.le_of_ble_eq_true rfl⟩) (wMd E a μ sp) [0, 1, 2, 3, 4, 5, 6, 7, 8, 9] (hc_81 (E := E)) (by decide +kernel) (ha_81 (E := E)) (hw_81 (E := E)) (fun H locs w => ?_)
  have hq : fX7_ahead μ sp ce wy = ((fX7_cellAt μ sp ((μ 5 ce.toNatClampNeg) + (fX7_qBy wy)) ((μ 6 ce.toNatClampNeg) + (fX7_rBy wy)))) := rfl
  rw [hq]
  exact r_iret X w hr rfl dX7_ahead_26
def fX7_cornerOf (μ : N2) (sp : UInt32) (ce : Int32) : Int32 := if (μ 5 ce.toNatClampNeg) = (4 * (fX7_qBy 0)) then (if (μ 6 ce.toNatClampNeg) = (4 * (fX7_rBy 0)) then ((0)) else (if (μ 5 ce.toNatClampNeg) = (4 * (fX7_qBy 1)) then (if (μ 6 ce.toNatClampNeg) = (4 * (fX7_rBy 1)) then ((1)) else (if (μ 5 ce.toNatClampNeg) = (4 * (fX7_qBy 2)) then (if (μ 6 ce.toNatClampNeg) = (4 * (fX7_rBy 2)) then ((2)) else (if (μ 5 ce.toNatClampNeg) = (4 * (fX7_qBy 3)) then (if (μ 6 ce.toNatClampNeg) = (4 * (fX7_rBy 3)) then ((3)) else (if (μ 5 ce.toNatClampNeg) = (4 * (fX7_qBy 4)) then (if (μ 6 ce.toNatClampNeg) = (4 * (fX7_rBy 4)) then ((4)) else (if (μ 5 ce.toNatClampNeg) = (4 * (fX7_qBy 5)) then (if (μ 6 ce.toNatClampNeg) = (4 * (fX7_rBy 5)) then ((5)) else (((-5)))) else (((-5))))) else (if (μ 5 ce.toNatClampNeg) = (4 * (fX7_qBy 5)) then (if (μ 6 ce.toNatClampNeg) = (4 * (fX7_rBy 5)) then ((5)) else (((-5)))) else (((-5)))))) else (if (μ 5 ce.toNatClampNeg) = (4 * (fX7_qBy 4)) then (if (μ 6 ce.toNatClampNeg) = (4 * (fX7_rBy 4)) then ((4)) else (if (μ 5 ce.toNatClampNeg) = (4 * (fX7_qBy 5)) then (if (μ 6 ce.toNatClampNeg) = (4 * (fX7_rBy 5)) then ((5)) else (((-5)))) else (((-5))))) else (if (μ 5 ce.toNatClampNeg) = (4 * (fX7_qBy 5)) then (if (μ 6 ce.toNatClampNeg) = (4 * (fX7_rBy 5)) then ((5)) else (((-5)))) else (((-5))))))) else (if (μ 5 ce.toNatClampNeg) = (4 * (fX7_qBy 3)) then (if (μ 6 ce.toNatClampNeg) = (4 * (fX7_rBy 3)) then ((3)) else (if (μ 5 ce.toNatClampNeg) = (4 * (fX7_qBy 4)) then (if (μ 6 ce.toNatClampNeg) = (4 * (fX7_rBy 4)) then ((4)) else (if (μ 5 ce.toNatClampNeg) = (4 * (fX7_qBy 5)) then (if (μ 6 ce.toNatClampNeg) = (4 * (fX7_rBy 5)) then ((5)) else (((-5)))) else (((-5))))) else (if (μ 5 ce.toNatClampNeg) = (4 * (fX7_qBy 5)) then (if (μ 6 ce.toNatClampNeg) = (4 * (fX7_rBy 5)) then ((5)) else (((-5)))) else (((-5)))))) else (if (μ 5 ce.toNatClampNeg) = (4 * (fX7_qBy 4)) then (if (μ 6 ce.toNatClampNeg) = (4 * (fX7_rBy 4)) then ((4)) else (if (μ 5 ce.toNatClampNeg) = (4 * (fX7_qBy 5)) then (if (μ 6 ce.toNatClampNeg) = (4 * (fX7_rBy 5)) then ((5)) else (((-5)))) else (((-5))))) else (if (μ 5 ce.toNatClampNeg) = (4 * (fX7_qBy 5)) then (if (μ 6 ce.toNatClampNeg) = (4 * (fX7_rBy 5)) then ((5)) else (((-5)))) else (((-5)))))))) else (if (μ 5 ce.toNatClampNeg) = (4 * (fX7_qBy 2)) then (if (μ 6 ce.toNatClampNeg) = (4 * (fX7_rBy 2)) then ((2)) else (if (μ 5 ce.toNatClampNeg) = (4 * (fX7_qBy 3)) then (if (μ 6 ce.toNatClampNeg) = (4 * (fX7_rBy 3)) then ((3)) else (if (μ 5 ce.toNatClampNeg) = (4 * (fX7_qBy 4)) then (if (μ 6 ce.toNatClampNeg) = (4 * (fX7_rBy 4)) then ((4)) else (if (μ 5 ce.toNatClampNeg) = (4 * (fX7_qBy 5)) then (if (μ 6 ce.toNatClampNeg) = (4 * (fX7_rBy 5)) then ((5)) else (((-5)))) else (((-5))))) else (if (μ 5 ce.toNatClampNeg) = (4 * (fX7_qBy 5)) then (if (μ 6 ce.toNatClampNeg) = (4 * (fX7_rBy 5)) then ((5)) else (((-5)))) else (((-5)))))) else (if (μ 5 ce.toNatClampNeg) = (4 * (fX7_qBy 4)) then (if (μ 6 ce.toNatClampNeg) = (4 * (fX7_rBy 4)) then ((4)) else (if (μ 5 ce.toNatClampNeg) = (4 * (fX7_qBy 5)) then (if (μ 6 ce.toNatClampNeg) = (4 * (fX7_rBy 5)) then ((5)) else (((-5)))) else (((-5))))) else (if (μ 5 ce.toNatClampNeg) = (4 * (fX7_qBy 5)) then (if (μ 6 ce.toNatClampNeg) = (4 * (fX7_rBy 5)) then ((5)) else (((-5)))) else (((-5))))))) else (if (μ 5 ce.toNatClampNeg) = (4 * (fX7_qBy 3)) then (if (μ 6 ce.toNatClampNeg) = (4 * (fX7_rBy 3)) then ((3)) else (if (μ 5 ce.toNatClampNeg) = (4 * (fX7_qBy 4)) then (if (μ 6 ce.toNatClampNeg) = (4 * (fX7_rBy 4)) then ((4)) else (if (μ 5 ce.toNatClampNeg) = (4 * (fX7_qBy 5)) then (if (μ 6 ce.toNatClampNeg) = (4 * (fX7_rBy 5)) then ((5)) else (((-5)))) else (((-5))))) else (if (μ 5 ce.toNatClampNeg) = (4 * (fX7_qBy 5)) then (if (μ 6 ce.toNatClampNeg) = (4 * (fX7_rBy 5)) then ((5)) else (((-5)))) else (((-5)))))) else (if (μ 5 ce.toNatClampNeg) = (4 * (fX7_qBy 4)) then (if (μ 6 ce.toNatClampNeg) = (4 * (fX7_rBy 4)) then ((4)) else (if (μ 5 ce.toNatClampNeg) = (4 * (fX7_qBy 5)) then (if (μ 6 ce.toNatClampNeg) = (4 * (fX7_rBy 5)) then ((5)) else (((-5)))) else (((-5))))) else (if (μ 5 ce.toNatClampNeg) = (4 * (fX7_qBy 5)) then (if (μ 6 ce.toNatClampNeg) = (4 * (fX7_rBy 5)) then ((5)) else (((-5)))) else (((-5))))))))) else (if (μ 5 ce.toNatClampNeg) = (4 * (fX7_qBy 1)) then (if (μ 6 ce.toNatClampNeg) = (4 * (fX7_rBy 1)) then ((1)) else (if (μ 5 ce.toNatClampNeg) = (4 * (fX7_qBy 2)) then (if (μ 6 ce.toNatClampNeg) = (4 * (fX7_rBy 2)) then ((2)) else (if (μ 5 ce.toNatClampNeg) = (4 * (fX7_qBy 3)) then (if (μ 6 ce.toNatClampNeg) = (4 * (fX7_rBy 3)) then ((3)) else (if (μ 5 ce.toNatClampNeg) = (4 * (fX7_qBy 4)) then (if (μ 6 ce.toNatClampNeg) = (4 * (fX7_rBy 4)) then ((4)) else (if (μ 5 ce.toNatClampNeg) = (4 * (fX7_qBy 5)) then (if (μ 6 ce.toNatClampNeg) = (4 * (fX7_rBy 5)) then ((5)) else (((-5)))) else (((-5))))) else (if (μ 5 ce.toNatClampNeg) = (4 * (fX7_qBy 5)) then (if (μ 6 ce.toNatClampNeg) = (4 * (fX7_rBy 5)) then ((5)) else (((-5)))) else (((-5)))))) else (if (μ 5 ce.toNatClampNeg) = (4 * (fX7_qBy 4)) then (if (μ 6 ce.toNatClampNeg) = (4 * (fX7_rBy 4)) then ((4)) else (if (μ 5 ce.toNatClampNeg) = (4 * (fX7_qBy 5)) then (if (μ 6 ce.toNatClampNeg) = (4 * (fX7_rBy 5)) then ((5)) else (((-5)))) else (((-5))))) else (if (μ 5 ce.toNatClampNeg) = (4 * (fX7_qBy 5)) then (if (μ 6 ce.toNatClampNeg) = (4 * (fX7_rBy 5)) then ((5)) else (((-5)))) else (((-5))))))) else (if (μ 5 ce.toNatClampNeg) = (4 * (fX7_qBy 3)) then (if (μ 6 ce.toNatClampNeg) = (4 * (fX7_rBy 3)) then ((3)) else (if (μ 5 ce.toNatClampNeg) = (4 * (fX7_qBy 4)) then (if (μ 6 ce.toNatClampNeg) = (4 * (fX7_rBy 4)) then ((4)) else (if (μ 5 ce.toNatClampNeg) = (4 * (fX7_qBy 5)) then (if (μ 6 ce.toNatClampNeg) = (4 * (fX7_rBy 5)) then ((5)) else (((-5)))) else (((-5))))) else (if (μ 5 ce.toNatClampNeg) = (4 * (fX7_qBy 5)) then (if (μ 6 ce.toNatClampNeg) = (4 * (fX7_rBy 5)) then ((5)) else (((-5)))) else (((-5)))))) else (if (μ 5 ce.toNatClampNeg) = (4 * (fX7_qBy 4)) then (if (μ 6 ce.toNatClampNeg) = (4 * (fX7_rBy 4)) then ((4)) else (if (μ 5 ce.toNatClampNeg) = (4 * (fX7_qBy 5)) then (if (μ 6 ce.toNatClampNeg) = (4 * (fX7_rBy 5)) then ((5)) else (((-5)))) else (((-5))))) else (if (μ 5 ce.toNatClampNeg) = (4 * (fX7_qBy 5)) then (if (μ 6 ce.toNatClampNeg) = (4 * (fX7_rBy 5)) then ((5)) else (((-5)))) else (((-5)))))))) else (if (μ 5 ce.toNatClampNeg) = (4 * (fX7_qBy 2)) then (if (μ 6 ce.toNatClampNeg) = (4 * (fX7_rBy 2)) then ((2)) else (if (μ 5 ce.toNatClampNeg) = (4 * (fX7_qBy 3)) then (if (μ 6 ce.toNatClampNeg) = (4 * (fX7_rBy 3)) then ((3)) else (if (μ 5 ce.toNatClampNeg) = (4 * (fX7_qBy 4)) then (if (μ 6 ce.toNatClampNeg) = (4 * (fX7_rBy 4)) then ((4)) else (if (μ 5 ce.toNatClampNeg) = (4 * (fX7_qBy 5)) then (if (μ 6 ce.toNatClampNeg) = (4 * (fX7_rBy 5)) then ((5)) else (((-5)))) else (((-5))))) else (if (μ 5 ce.toNatClampNeg) = (4 * (fX7_qBy 5)) then (if (μ 6 ce.toNatClampNeg) = (4 * (fX7_rBy 5)) then ((5)) else (((-5)))) else (((-5)))))) else (if (μ 5 ce.toNatClampNeg) = (4 * (fX7_qBy 4)) then (if (μ 6 ce.toNatClampNeg) = (4 * (fX7_rBy 4)) then ((4)) else (if (μ 5 ce.toNatClampNeg) = (4 * (fX7_qBy 5)) then (if (μ 6 ce.toNatClampNeg) = (4 * (fX7_rBy 5)) then ((5)) else (((-5)))) else (((-5))))) else (if (μ 5 ce.toNatClampNeg) = (4 * (fX7_qBy 5)) then (if (μ 6 ce.toNatClampNeg) = (4 * (fX7_rBy 5)) then ((5)) else (((-5)))) else (((-5))))))) else (if (μ 5 ce.toNatClampNeg) = (4 * (fX7_qBy 3)) then (if (μ 6 ce.toNatClampNeg) = (4 * (fX7_rBy 3)) then ((3)) else (if (μ 5 ce.toNatClampNeg) = (4 * (fX7_qBy 4)) then (if (μ 6 ce.toNatClampNeg) = (4 * (fX7_rBy 4)) then ((4)) else (if (μ 5 ce.toNatClampNeg) = (4 * (fX7_qBy 5)) then (if (μ 6 ce.toNatClampNeg) = (4 * (fX7_rBy 5)) then ((5)) else (((-5)))) else (((-5))))) else (if (μ 5 ce.toNatClampNeg) = (4 * (fX7_qBy 5)) then (if (μ 6 ce.toNatClampNeg) = (4 * (fX7_rBy 5)) then ((5)) else (((-5)))) else (((-5)))))) else (if (μ 5 ce.toNatClampNeg) = (4 * (fX7_qBy 4)) then (if (μ 6 ce.toNatClampNeg) = (4 * (fX7_rBy 4)) then ((4)) else (if (μ 5 ce.toNatClampNeg) = (4 * (fX7_qBy 5)) then (if (μ 6 ce.toNatClampNeg) = (4 * (fX7_rBy 5)) then ((5)) else (((-5)))) else (((-5))))) else (if (μ 5 ce.toNatClampNeg) = (4 * (fX7_qBy 5)) then (if (μ 6 ce.toNatClampNeg) = (4 * (fX7_rBy 5)) then ((5)) else (((-5)))) else (((-5))))))))
theorem dX7_cornerOf_0 : decode cX7_cornerOf 0 = .ok (.iconst 0, 1) := by decide +kernel
theorem dX7_cornerOf_1 : decode cX7_cornerOf 1 = .ok (.istore_n 2, 1) := by decide +kernel
theorem dX7_cornerOf_2 : decode cX7_cornerOf 2 = .ok (.iload_n 2, 1) := by decide +kernel
theorem dX7_cornerOf_3 : decode cX7_cornerOf 3 = .ok (.bipush 6, 2) := by decide +kernel
theorem dX7_cornerOf_5 : decode cX7_cornerOf 5 = .ok (.if_icmp .ge 41, 3) := by decide +kernel
theorem dX7_cornerOf_8 : decode cX7_cornerOf 8 = .ok (.aload_n 0, 1) := by decide +kernel
theorem dX7_cornerOf_9 : decode cX7_cornerOf 9 = .ok (.getfield 25, 3) := by decide +kernel
theorem dX7_cornerOf_12 : decode cX7_cornerOf 12 = .ok (.iload_n 1, 1) := by decide +kernel
theorem dX7_cornerOf_13 : decode cX7_cornerOf 13 = .ok (.iaload, 1) := by decide +kernel
theorem dX7_cornerOf_14 : decode cX7_cornerOf 14 = .ok (.iconst 4, 1) := by decide +kernel
theorem dX7_cornerOf_15 : decode cX7_cornerOf 15 = .ok (.iload_n 2, 1) := by decide +kernel
theorem dX7_cornerOf_16 : decode cX7_cornerOf 16 = .ok (.invokestatic 55, 3) := by decide +kernel
theorem dX7_cornerOf_19 : decode cX7_cornerOf 19 = .ok (.imul, 1) := by decide +kernel
theorem dX7_cornerOf_20 : decode cX7_cornerOf 20 = .ok (.if_icmp .ne 20, 3) := by decide +kernel
theorem dX7_cornerOf_23 : decode cX7_cornerOf 23 = .ok (.aload_n 0, 1) := by decide +kernel
theorem dX7_cornerOf_24 : decode cX7_cornerOf 24 = .ok (.getfield 28, 3) := by decide +kernel
theorem dX7_cornerOf_27 : decode cX7_cornerOf 27 = .ok (.iload_n 1, 1) := by decide +kernel
theorem dX7_cornerOf_28 : decode cX7_cornerOf 28 = .ok (.iaload, 1) := by decide +kernel
theorem dX7_cornerOf_29 : decode cX7_cornerOf 29 = .ok (.iconst 4, 1) := by decide +kernel
theorem dX7_cornerOf_30 : decode cX7_cornerOf 30 = .ok (.iload_n 2, 1) := by decide +kernel
theorem dX7_cornerOf_31 : decode cX7_cornerOf 31 = .ok (.invokestatic 59, 3) := by decide +kernel
theorem dX7_cornerOf_34 : decode cX7_cornerOf 34 = .ok (.imul, 1) := by decide +kernel
theorem dX7_cornerOf_35 : decode cX7_cornerOf 35 = .ok (.if_icmp .ne 5, 3) := by decide +kernel
theorem dX7_cornerOf_38 : decode cX7_cornerOf 38 = .ok (.iload_n 2, 1) := by decide +kernel
theorem dX7_cornerOf_39 : decode cX7_cornerOf 39 = .ok (.ireturn, 1) := by decide +kernel
theorem dX7_cornerOf_40 : decode cX7_cornerOf 40 = .ok (.iinc 2 1, 3) := by decide +kernel
theorem dX7_cornerOf_43 : decode cX7_cornerOf 43 = .ok (.goto (-41), 3) := by decide +kernel
theorem dX7_cornerOf_46 : decode cX7_cornerOf 46 = .ok (.bipush (-5), 2) := by decide +kernel
theorem dX7_cornerOf_48 : decode cX7_cornerOf 48 = .ok (.ireturn, 1) := by decide +kernel
set_option maxHeartbeats 4000000 in
set_option maxRecDepth 100000 in
theorem kX7_cornerOf (l : Launch) (E : Ev) (a : Nat → Nat) (μ : N2) (sp : UInt32) (ce : Int32) (hc : vp_in ce 61) : KQ l yX7_cornerOf cX7_cornerOf 3 (some .int) 1 20 E [.ref (a 0), .int ce] (wMd E a μ sp) (QI E (wMd E a μ sp) (fX7_cornerOf μ sp ce) (wMd E a μ sp)) := by
  refine KQ.mk RX7 rfl (by decide +kernel) (Nat.le_of_ble_eq_true rfl) ?_
  intro p e s m below meth c ls X hr w hl
  have hx := X.1
  have hb := X.2.1
  have hl : lv_has ls 3 [(0, .ref (a 0)), (1, .int ce)] := hl
  refine lv_iconst (v := 0) hx hb dX7_cornerOf_0 (by decide) ?_
  refine lv_istore_n (lv' := [(2, .int 0), (0, .ref (a 0)), (1, .int ce)]) hx hb dX7_cornerOf_1 rfl hl (by decide) rfl (fun ls hl => ?_)
  refine lv_iload_n hx hb dX7_cornerOf_2 rfl (lv_at hl 0 rfl) ?_
  refine lv_bipush (v := 6) hx hb dX7_cornerOf_3 (by decide) ?_
  refine lv_icmp_ge (tgt := 46) hx hb dX7_cornerOf_5 (by decide) (fun h => absurd h (by decide)) (fun _ => ?_)
  refine lv_aload_n hx hb dX7_cornerOf_8 rfl (lv_at hl 1 rfl) ?_
  refine r_get X w CL7 7 (by decide) wf_X7_25 0 rfl rfl dX7_cornerOf_9 ?_
  refine lv_iload_n hx hb dX7_cornerOf_12 rfl (lv_at hl 2 rfl) ?_
  refine r_iald X w 6 rfl hc dX7_cornerOf_13 ?_
  refine lv_iconst (v := 4) hx hb dX7_cornerOf_14 (by decide) ?_
  refine lv_iload_n hx hb dX7_cornerOf_15 rfl (lv_at hl 0 rfl) ?_
  refine r_ci w (r_runS (As := [.int 0]) (rest := [.int 4, .int (μ 5 ce.toNatClampNeg)]) X w (kX7_qBy l E 0 ) ck_X7_55 ⟨Nat.le_of_ble_eq_true rfl, Nat.le_of_ble_eq_true rfl⟩ [] rfl (by decide +kernel) hl.1 (Nat.le_of_ble_eq_true rfl) rfl dX7_cornerOf_16 ⟨Nat.le_of_ble_eq_true rfl, Nat.le_of_ble_eq_true rfl⟩) (wMd E a μ sp) [] rfl (by decide +kernel) rfl rfl (fun H locs w => ?_)
  refine lv_imul hx hb dX7_cornerOf_19 ?_
  refine lv_icmp_ne (tgt := 40) hx hb dX7_cornerOf_20 (by decide) (fun c20_1 => ?_) (fun c20_1 => ?_)
  · refine lv_iinc (v := 1) (lv' := [(2, .int 1), (0, .ref (a 0)), (1, .int ce)]) hx hb dX7_cornerOf_40 hl (k := 0) rfl (by first | rfl | decide) (by decide) rfl (fun ls hl => ?_)
    refine lv_goto (tgt := 2) hx hb dX7_cornerOf_43 (by decide) ?_
    refine lv_iload_n hx hb dX7_cornerOf_2 rfl (lv_at hl 0 rfl) ?_
    refine lv_bipush (v := 6) hx hb dX7_cornerOf_3 (by decide) ?_
    refine lv_icmp_ge (tgt := 46) hx hb dX7_cornerOf_5 (by decide) (fun h => absurd h (by decide)) (fun _ => ?_)
    refine lv_aload_n hx hb dX7_cornerOf_8 rfl (lv_at hl 1 rfl) ?_
    refine r_get X w CL7 7 (by decide) wf_X7_25 0 rfl rfl dX7_cornerOf_9 ?_
    refine lv_iload_n hx hb dX7_cornerOf_12 rfl (lv_at hl 2 rfl) ?_
    refine r_iald X w 6 rfl hc dX7_cornerOf_13 ?_
    refine lv_iconst (v := 4) hx hb dX7_cornerOf_14 (by decide) ?_
    refine lv_iload_n hx hb dX7_cornerOf_15 rfl (lv_at hl 0 rfl) ?_
    refine r_ci w (r_runS (As := [.int 1]) (rest := [.int 4, .int (μ 5 ce.toNatClampNeg)]) X w (kX7_qBy l E 1 ) ck_X7_55 ⟨Nat.le_of_ble_eq_true rfl, Nat.le_of_ble_eq_true rfl⟩ [] rfl (by decide +kernel) hl.1 (Nat.le_of_ble_eq_true rfl) rfl dX7_cornerOf_16 ⟨Nat.le_of_ble_eq_true rfl, Nat.le_of_ble_eq_true rfl⟩) (wMd E a μ sp) [] rfl (by decide +kernel) rfl rfl (fun H locs w => ?_)
    refine lv_imul hx hb dX7_cornerOf_19 ?_
    refine lv_icmp_ne (tgt := 40) hx hb dX7_cornerOf_20 (by decide) (fun c20_2 => ?_) (fun c20_2 => ?_)
    · refine lv_iinc (v := 2) (lv' := [(2, .int 2), (0, .ref (a 0)), (1, .int ce)]) hx hb dX7_cornerOf_40 hl (k := 0) rfl (by first | rfl | decide) (by decide) rfl (fun ls hl => ?_)
      refine lv_goto (tgt := 2) hx hb dX7_cornerOf_43 (by decide) ?_
      refine lv_iload_n hx hb dX7_cornerOf_2 rfl (lv_at hl 0 rfl) ?_
      refine lv_bipush (v := 6) hx hb dX7_cornerOf_3 (by decide) ?_
      refine lv_icmp_ge (tgt := 46) hx hb dX7_cornerOf_5 (by decide) (fun h => absurd h (by decide)) (fun _ => ?_)
      refine lv_aload_n hx hb dX7_cornerOf_8 rfl (lv_at hl 1 rfl) ?_
      refine r_get X w CL7 7 (by decide) wf_X7_25 0 rfl rfl dX7_cornerOf_9 ?_
      refine lv_iload_n hx hb dX7_cornerOf_12 rfl (lv_at hl 2 rfl) ?_
      refine r_iald X w 6 rfl hc dX7_cornerOf_13 ?_
      refine lv_iconst (v := 4) hx hb dX7_cornerOf_14 (by decide) ?_
      refine lv_iload_n hx hb dX7_cornerOf_15 rfl (lv_at hl 0 rfl) ?_
      refine r_ci w (r_runS (As := [.int 2]) (rest := [.int 4, .int (μ 5 ce.toNatClampNeg)]) X w (kX7_qBy l E 2 ) ck_X7_55 ⟨Nat.le_of_ble_eq_true rfl, Nat.le_of_ble_eq_true rfl⟩ [] rfl (by decide +kernel) hl.1 (Nat.le_of_ble_eq_true rfl) rfl dX7_cornerOf_16 ⟨Nat.le_of_ble_eq_true rfl, Nat.le_of_ble_eq_true rfl⟩) (wMd E a μ sp) [] rfl (by decide +kernel) rfl rfl (fun H locs w => ?_)
      refine lv_imul hx hb dX7_cornerOf_19 ?_
      refine lv_icmp_ne (tgt := 40) hx hb dX7_cornerOf_20 (by decide) (fun c20_3 => ?_) (fun c20_3 => ?_)
      · refine lv_iinc (v := 3) (lv' := [(2, .int 3), (0, .ref (a 0)), (1, .int ce)]) hx hb dX7_cornerOf_40 hl (k := 0) rfl (by first | rfl | decide) (by decide) rfl (fun ls hl => ?_)
        refine lv_goto (tgt := 2) hx hb dX7_cornerOf_43 (by decide) ?_
        refine lv_iload_n hx hb dX7_cornerOf_2 rfl (lv_at hl 0 rfl) ?_
        refine lv_bipush (v := 6) hx hb dX7_cornerOf_3 (by decide) ?_
        refine lv_icmp_ge (tgt := 46) hx hb dX7_cornerOf_5 (by decide) (fun h => absurd h (by decide)) (fun _ => ?_)
        refine lv_aload_n hx hb dX7_cornerOf_8 rfl (lv_at hl 1 rfl) ?_
        refine r_get X w CL7 7 (by decide) wf_X7_25 0 rfl rfl dX7_cornerOf_9 ?_
        refine lv_iload_n hx hb dX7_cornerOf_12 rfl (lv_at hl 2 rfl) ?_
        refine r_iald X w 6 rfl hc dX7_cornerOf_13 ?_
        refine lv_iconst (v := 4) hx hb dX7_cornerOf_14 (by decide) ?_
        refine lv_iload_n hx hb dX7_cornerOf_15 rfl (lv_at hl 0 rfl) ?_
        refine r_ci w (r_runS (As := [.int 3]) (rest := [.int 4, .int (μ 5 ce.toNatClampNeg)]) X w (kX7_qBy l E 3 ) ck_X7_55 ⟨Nat.le_of_ble_eq_true rfl, Nat.le_of_ble_eq_true rfl⟩ [] rfl (by decide +kernel) hl.1 (Nat.le_of_ble_eq_true rfl) rfl dX7_cornerOf_16 ⟨Nat.le_of_ble_eq_true rfl, Nat.le_of_ble_eq_true rfl⟩) (wMd E a μ sp) [] rfl (by decide +kernel) rfl rfl (fun H locs w => ?_)
        refine lv_imul hx hb dX7_cornerOf_19 ?_
        refine lv_icmp_ne (tgt := 40) hx hb dX7_cornerOf_20 (by decide) (fun c20_4 => ?_) (fun c20_4 => ?_)
        · refine lv_iinc (v := 4) (lv' := [(2, .int 4), (0, .ref (a 0)), (1, .int ce)]) hx hb dX7_cornerOf_40 hl (k := 0) rfl (by first | rfl | decide) (by decide) rfl (fun ls hl => ?_)
          refine lv_goto (tgt := 2) hx hb dX7_cornerOf_43 (by decide) ?_
          refine lv_iload_n hx hb dX7_cornerOf_2 rfl (lv_at hl 0 rfl) ?_
          refine lv_bipush (v := 6) hx hb dX7_cornerOf_3 (by decide) ?_
          refine lv_icmp_ge (tgt := 46) hx hb dX7_cornerOf_5 (by decide) (fun h => absurd h (by decide)) (fun _ => ?_)
          refine lv_aload_n hx hb dX7_cornerOf_8 rfl (lv_at hl 1 rfl) ?_
          refine r_get X w CL7 7 (by decide) wf_X7_25 0 rfl rfl dX7_cornerOf_9 ?_
          refine lv_iload_n hx hb dX7_cornerOf_12 rfl (lv_at hl 2 rfl) ?_
          refine r_iald X w 6 rfl hc dX7_cornerOf_13 ?_
          refine lv_iconst (v := 4) hx hb dX7_cornerOf_14 (by decide) ?_
          refine lv_iload_n hx hb dX7_cornerOf_15 rfl (lv_at hl 0 rfl) ?_
          refine r_ci w (r_runS (As := [.int 4]) (rest := [.int 4, .int (μ 5 ce.toNatClampNeg)]) X w (kX7_qBy l E 4 ) ck_X7_55 ⟨Nat.le_of_ble_eq_true rfl, Nat.le_of_ble_eq_true rfl⟩ [] rfl (by decide +kernel) hl.1 (Nat.le_of_ble_eq_true rfl) rfl dX7_cornerOf_16 ⟨Nat.le_of_ble_eq_true rfl, Nat.le_of_ble_eq_true rfl⟩) (wMd E a μ sp) [] rfl (by decide +kernel) rfl rfl (fun H locs w => ?_)
          refine lv_imul hx hb dX7_cornerOf_19 ?_
          refine lv_icmp_ne (tgt := 40) hx hb dX7_cornerOf_20 (by decide) (fun c20_5 => ?_) (fun c20_5 => ?_)
          · refine lv_iinc (v := 5) (lv' := [(2, .int 5), (0, .ref (a 0)), (1, .int ce)]) hx hb dX7_cornerOf_40 hl (k := 0) rfl (by first | rfl | decide) (by decide) rfl (fun ls hl => ?_)
            refine lv_goto (tgt := 2) hx hb dX7_cornerOf_43 (by decide) ?_
            refine lv_iload_n hx hb dX7_cornerOf_2 rfl (lv_at hl 0 rfl) ?_
            refine lv_bipush (v := 6) hx hb dX7_cornerOf_3 (by decide) ?_
            refine lv_icmp_ge (tgt := 46) hx hb dX7_cornerOf_5 (by decide) (fun h => absurd h (by decide)) (fun _ => ?_)
            refine lv_aload_n hx hb dX7_cornerOf_8 rfl (lv_at hl 1 rfl) ?_
            refine r_get X w CL7 7 (by decide) wf_X7_25 0 rfl rfl dX7_cornerOf_9 ?_
            refine lv_iload_n hx hb dX7_cornerOf_12 rfl (lv_at hl 2 rfl) ?_
            refine r_iald X w 6 rfl hc dX7_cornerOf_13 ?_
            refine lv_iconst (v := 4) hx hb dX7_cornerOf_14 (by decide) ?_
            refine lv_iload_n hx hb dX7_cornerOf_15 rfl (lv_at hl 0 rfl) ?_
            refine r_ci w (r_runS (As := [.int 5]) (rest := [.int 4, .int (μ 5 ce.toNatClampNeg)]) X w (kX7_qBy l E 5 ) ck_X7_55 ⟨Nat.le_of_ble_eq_true rfl, Nat.le_of_ble_eq_true rfl⟩ [] rfl (by decide +kernel) hl.1 (Nat.le_of_ble_eq_true rfl) rfl dX7_cornerOf_16 ⟨Nat.le_of_ble_eq_true rfl, Nat.le_of_ble_eq_true rfl⟩) (wMd E a μ sp) [] rfl (by decide +kernel) rfl rfl (fun H locs w => ?_)
            refine lv_imul hx hb dX7_cornerOf_19 ?_
            refine lv_icmp_ne (tgt := 40) hx hb dX7_cornerOf_20 (by decide) (fun c20_6 => ?_) (fun c20_6 => ?_)
            · refine lv_iinc (v := 6) (lv' := [(2, .int 6), (0, .ref (a 0)), (1, .int ce)]) hx hb dX7_cornerOf_40 hl (k := 0) rfl (by first | rfl | decide) (by decide) rfl (fun ls hl => ?_)
              refine lv_goto (tgt := 2) hx hb dX7_cornerOf_43 (by decide) ?_
              refine lv_iload_n hx hb dX7_cornerOf_2 rfl (lv_at hl 0 rfl) ?_
              refine lv_bipush (v := 6) hx hb dX7_cornerOf_3 (by decide) ?_
              refine lv_icmp_ge (tgt := 46) hx hb dX7_cornerOf_5 (by decide) (fun _ => ?_) (fun h => absurd h (by decide))
              refine lv_bipush (v := (-5)) hx hb dX7_cornerOf_46 (by decide) ?_
              have hq : fX7_cornerOf μ sp ce = ((-5)) := by simp only [fX7_cornerOf, if_neg c20_1, if_neg c20_2, if_neg c20_3, if_neg c20_4, if_neg c20_5, if_neg c20_6]
              rw [hq]
              exact r_iret X w hr rfl dX7_cornerOf_48
            · refine lv_aload_n hx hb dX7_cornerOf_23 rfl (lv_at hl 1 rfl) ?_
              refine r_get X w CL7 8 (by decide) wf_X7_28 0 rfl rfl dX7_cornerOf_24 ?_
              refine lv_iload_n hx hb dX7_cornerOf_27 rfl (lv_at hl 2 rfl) ?_
              refine r_iald X w 7 rfl hc dX7_cornerOf_28 ?_
              refine lv_iconst (v := 4) hx hb dX7_cornerOf_29 (by decide) ?_
              refine lv_iload_n hx hb dX7_cornerOf_30 rfl (lv_at hl 0 rfl) ?_
              refine r_ci w (r_runS (As := [.int 5]) (rest := [.int 4, .int (μ 6 ce.toNatClampNeg)]) X w (kX7_rBy l E 5 ) ck_X7_59 ⟨Nat.le_of_ble_eq_true rfl, Nat.le_of_ble_eq_true rfl⟩ [] rfl (by decide +kernel) hl.1 (Nat.le_of_ble_eq_true rfl) rfl dX7_cornerOf_31 ⟨Nat.le_of_ble_eq_true rfl, Nat.le_of_ble_eq_true rfl⟩) (wMd E a μ sp) [] rfl (by decide +kernel) rfl rfl (fun H locs w => ?_)
              refine lv_imul hx hb dX7_cornerOf_34 ?_
              refine lv_icmp_ne (tgt := 40) hx hb dX7_cornerOf_35 (by decide) (fun c35_7 => ?_) (fun c35_7 => ?_)
              · refine lv_iinc (v := 6) (lv' := [(2, .int 6), (0, .ref (a 0)), (1, .int ce)]) hx hb dX7_cornerOf_40 hl (k := 0) rfl (by first | rfl | decide) (by decide) rfl (fun ls hl => ?_)
                refine lv_goto (tgt := 2) hx hb dX7_cornerOf_43 (by decide) ?_
                refine lv_iload_n hx hb dX7_cornerOf_2 rfl (lv_at hl 0 rfl) ?_
                refine lv_bipush (v := 6) hx hb dX7_cornerOf_3 (by decide) ?_
                refine lv_icmp_ge (tgt := 46) hx hb dX7_cornerOf_5 (by decide) (fun _ => ?_) (fun h => absurd h (by decide))
                refine lv_bipush (v := (-5)) hx hb dX7_cornerOf_46 (by decide) ?_
                have hq : fX7_cornerOf μ sp ce = ((-5)) := by simp only [fX7_cornerOf, if_neg c20_1, if_neg c20_2, if_neg c20_3, if_neg c20_4, if_neg c20_5, if_pos c20_6, if_neg c35_7]
                rw [hq]
                exact r_iret X w hr rfl dX7_cornerOf_48
              · refine lv_iload_n hx hb dX7_cornerOf_38 rfl (lv_at hl 0 rfl) ?_
                have hq : fX7_cornerOf μ sp ce = (5) := by simp only [fX7_cornerOf, if_neg c20_1, if_neg c20_2, if_neg c20_3, if_neg c20_4, if_neg c20_5, if_pos c20_6, if_pos c35_7]
                rw [hq]
                exact r_iret X w hr rfl dX7_cornerOf_39
          · refine lv_aload_n hx hb dX7_cornerOf_23 rfl (lv_at hl 1 rfl) ?_
            refine r_get X w CL7 8 (by decide) wf_X7_28 0 rfl rfl dX7_cornerOf_24 ?_
            refine lv_iload_n hx hb dX7_cornerOf_27 rfl (lv_at hl 2 rfl) ?_
            refine r_iald X w 7 rfl hc dX7_cornerOf_28 ?_
            refine lv_iconst (v := 4) hx hb dX7_cornerOf_29 (by decide) ?_
            refine lv_iload_n hx hb dX7_cornerOf_30 rfl (lv_at hl 0 rfl) ?_
            refine r_ci w (r_runS (As := [.int 4]) (rest := [.int 4, .int (μ 6 ce.toNatClampNeg)]) X w (kX7_rBy l E 4 ) ck_X7_59 ⟨Nat.le_of_ble_eq_true rfl, Nat.le_of_ble_eq_true rfl⟩ [] rfl (by decide +kernel) hl.1 (Nat.le_of_ble_eq_true rfl) rfl dX7_cornerOf_31 ⟨Nat.le_of_ble_eq_true rfl, Nat.le_of_ble_eq_true rfl⟩) (wMd E a μ sp) [] rfl (by decide +kernel) rfl rfl (fun H locs w => ?_)
            refine lv_imul hx hb dX7_cornerOf_34 ?_
            refine lv_icmp_ne (tgt := 40) hx hb dX7_cornerOf_35 (by decide) (fun c35_8 => ?_) (fun c35_8 => ?_)
            · refine lv_iinc (v := 5) (lv' := [(2, .int 5), (0, .ref (a 0)), (1, .int ce)]) hx hb dX7_cornerOf_40 hl (k := 0) rfl (by first | rfl | decide) (by decide) rfl (fun ls hl => ?_)
              refine lv_goto (tgt := 2) hx hb dX7_cornerOf_43 (by decide) ?_
              refine lv_iload_n hx hb dX7_cornerOf_2 rfl (lv_at hl 0 rfl) ?_
              refine lv_bipush (v := 6) hx hb dX7_cornerOf_3 (by decide) ?_
              refine lv_icmp_ge (tgt := 46) hx hb dX7_cornerOf_5 (by decide) (fun h => absurd h (by decide)) (fun _ => ?_)
              refine lv_aload_n hx hb dX7_cornerOf_8 rfl (lv_at hl 1 rfl) ?_
              refine r_get X w CL7 7 (by decide) wf_X7_25 0 rfl rfl dX7_cornerOf_9 ?_
              refine lv_iload_n hx hb dX7_cornerOf_12 rfl (lv_at hl 2 rfl) ?_
              refine r_iald X w 6 rfl hc dX7_cornerOf_13 ?_
              refine lv_iconst (v := 4) hx hb dX7_cornerOf_14 (by decide) ?_
              refine lv_iload_n hx hb dX7_cornerOf_15 rfl (lv_at hl 0 rfl) ?_
              refine r_ci w (r_runS (As := [.int 5]) (rest := [.int 4, .int (μ 5 ce.toNatClampNeg)]) X w (kX7_qBy l E 5 ) ck_X7_55 ⟨Nat.le_of_ble_eq_true rfl, Nat.le_of_ble_eq_true rfl⟩ [] rfl (by decide +kernel) hl.1 (Nat.le_of_ble_eq_true rfl) rfl dX7_cornerOf_16 ⟨Nat.le_of_ble_eq_true rfl, Nat.le_of_ble_eq_true rfl⟩) (wMd E a μ sp) [] rfl (by decide +kernel) rfl rfl (fun H locs w => ?_)
              refine lv_imul hx hb dX7_cornerOf_19 ?_
              refine lv_icmp_ne (tgt := 40) hx hb dX7_cornerOf_20 (by decide) (fun c20_9 => ?_) (fun c20_9 => ?_)
              · refine lv_iinc (v := 6) (lv' := [(2, .int 6), (0, .ref (a 0)), (1, .int ce)]) hx hb dX7_cornerOf_40 hl (k := 0) rfl (by first | rfl | decide) (by decide) rfl (fun ls hl => ?_)
                refine lv_goto (tgt := 2) hx hb dX7_cornerOf_43 (by decide) ?_
                refine lv_iload_n hx hb dX7_cornerOf_2 rfl (lv_at hl 0 rfl) ?_
                refine lv_bipush (v := 6) hx hb dX7_cornerOf_3 (by decide) ?_
                refine lv_icmp_ge (tgt := 46) hx hb dX7_cornerOf_5 (by decide) (fun _ => ?_) (fun h => absurd h (by decide))
                refine lv_bipush (v := (-5)) hx hb dX7_cornerOf_46 (by decide) ?_
                have hq : fX7_cornerOf μ sp ce = ((-5)) := by simp only [fX7_cornerOf, if_neg c20_1, if_neg c20_2, if_neg c20_3, if_neg c20_4, if_pos c20_5, if_neg c35_8, if_neg c20_9]
                rw [hq]
                exact r_iret X w hr rfl dX7_cornerOf_48
              · refine lv_aload_n hx hb dX7_cornerOf_23 rfl (lv_at hl 1 rfl) ?_
                refine r_get X w CL7 8 (by decide) wf_X7_28 0 rfl rfl dX7_cornerOf_24 ?_
                refine lv_iload_n hx hb dX7_cornerOf_27 rfl (lv_at hl 2 rfl) ?_
                refine r_iald X w 7 rfl hc dX7_cornerOf_28 ?_
                refine lv_iconst (v := 4) hx hb dX7_cornerOf_29 (by decide) ?_
                refine lv_iload_n hx hb dX7_cornerOf_30 rfl (lv_at hl 0 rfl) ?_
                refine r_ci w (r_runS (As := [.int 5]) (rest := [.int 4, .int (μ 6 ce.toNatClampNeg)]) X w (kX7_rBy l E 5 ) ck_X7_59 ⟨Nat.le_of_ble_eq_true rfl, Nat.le_of_ble_eq_true rfl⟩ [] rfl (by decide +kernel) hl.1 (Nat.le_of_ble_eq_true rfl) rfl dX7_cornerOf_31 ⟨Nat.le_of_ble_eq_true rfl, Nat.le_of_ble_eq_true rfl⟩) (wMd E a μ sp) [] rfl (by decide +kernel) rfl rfl (fun H locs w => ?_)
                refine lv_imul hx hb dX7_cornerOf_34 ?_
                refine lv_icmp_ne (tgt := 40) hx hb dX7_cornerOf_35 (by decide) (fun c35_10 => ?_) (fun c35_10 => ?_)
                · refine lv_iinc (v := 6) (lv' := [(2, .int 6), (0, .ref (a 0)), (1, .int ce)]) hx hb dX7_cornerOf_40 hl (k := 0) rfl (by first | rfl | decide) (by decide) rfl (fun ls hl => ?_)
                  refine lv_goto (tgt := 2) hx hb dX7_cornerOf_43 (by decide) ?_
                  refine lv_iload_n hx hb dX7_cornerOf_2 rfl (lv_at hl 0 rfl) ?_
                  refine lv_bipush (v := 6) hx hb dX7_cornerOf_3 (by decide) ?_
                  refine lv_icmp_ge (tgt := 46) hx hb dX7_cornerOf_5 (by decide) (fun _ => ?_) (fun h => absurd h (by decide))
                  refine lv_bipush (v := (-5)) hx hb dX7_cornerOf_46 (by decide) ?_
                  have hq : fX7_cornerOf μ sp ce = ((-5)) := by simp only [fX7_cornerOf, if_neg c20_1, if_neg c20_2, if_neg c20_3, if_neg c20_4, if_pos c20_5, if_neg c35_8, if_pos c20_9, if_neg c35_10]
                  rw [hq]
                  exact r_iret X w hr rfl dX7_cornerOf_48
                · refine lv_iload_n hx hb dX7_cornerOf_38 rfl (lv_at hl 0 rfl) ?_
                  have hq : fX7_cornerOf μ sp ce = (5) := by simp only [fX7_cornerOf, if_neg c20_1, if_neg c20_2, if_neg c20_3, if_neg c20_4, if_pos c20_5, if_neg c35_8, if_pos c20_9, if_pos c35_10]
                  rw [hq]
                  exact r_iret X w hr rfl dX7_cornerOf_39
            · refine lv_iload_n hx hb dX7_cornerOf_38 rfl (lv_at hl 0 rfl) ?_
              have hq : fX7_cornerOf μ sp ce = (4) := by simp only [fX7_cornerOf, if_neg c20_1, if_neg c20_2, if_neg c20_3, if_neg c20_4, if_pos c20_5, if_pos c35_8]
              rw [hq]
              exact r_iret X w hr rfl dX7_cornerOf_39
        · refine lv_aload_n hx hb dX7_cornerOf_23 rfl (lv_at hl 1 rfl) ?_
          refine r_get X w CL7 8 (by decide) wf_X7_28 0 rfl rfl dX7_cornerOf_24 ?_
          refine lv_iload_n hx hb dX7_cornerOf_27 rfl (lv_at hl 2 rfl) ?_
          refine r_iald X w 7 rfl hc dX7_cornerOf_28 ?_
          refine lv_iconst (v := 4) hx hb dX7_cornerOf_29 (by decide) ?_
          refine lv_iload_n hx hb dX7_cornerOf_30 rfl (lv_at hl 0 rfl) ?_
          refine r_ci w (r_runS (As := [.int 3]) (rest := [.int 4, .int (μ 6 ce.toNatClampNeg)]) X w (kX7_rBy l E 3 ) ck_X7_59 ⟨Nat.le_of_ble_eq_true rfl, Nat.le_of_ble_eq_true rfl⟩ [] rfl (by decide +kernel) hl.1 (Nat.le_of_ble_eq_true rfl) rfl dX7_cornerOf_31 ⟨Nat.le_of_ble_eq_true rfl, Nat.le_of_ble_eq_true rfl⟩) (wMd E a μ sp) [] rfl (by decide +kernel) rfl rfl (fun H locs w => ?_)
          refine lv_imul hx hb dX7_cornerOf_34 ?_
          refine lv_icmp_ne (tgt := 40) hx hb dX7_cornerOf_35 (by decide) (fun c35_11 => ?_) (fun c35_11 => ?_)
          · refine lv_iinc (v := 4) (lv' := [(2, .int 4), (0, .ref (a 0)), (1, .int ce)]) hx hb dX7_cornerOf_40 hl (k := 0) rfl (by first | rfl | decide) (by decide) rfl (fun ls hl => ?_)
            refine lv_goto (tgt := 2) hx hb dX7_cornerOf_43 (by decide) ?_
            refine lv_iload_n hx hb dX7_cornerOf_2 rfl (lv_at hl 0 rfl) ?_
            refine lv_bipush (v := 6) hx hb dX7_cornerOf_3 (by decide) ?_
            refine lv_icmp_ge (tgt := 46) hx hb dX7_cornerOf_5 (by decide) (fun h => absurd h (by decide)) (fun _ => ?_)
            refine lv_aload_n hx hb dX7_cornerOf_8 rfl (lv_at hl 1 rfl) ?_
            refine r_get X w CL7 7 (by decide) wf_X7_25 0 rfl rfl dX7_cornerOf_9 ?_
            refine lv_iload_n hx hb dX7_cornerOf_12 rfl (lv_at hl 2 rfl) ?_
            refine r_iald X w 6 rfl hc dX7_cornerOf_13 ?_
            refine lv_iconst (v := 4) hx hb dX7_cornerOf_14 (by decide) ?_
            refine lv_iload_n hx hb dX7_cornerOf_15 rfl (lv_at hl 0 rfl) ?_
            refine r_ci w (r_runS (As := [.int 4]) (rest := [.int 4, .int (μ 5 ce.toNatClampNeg)]) X w (kX7_qBy l E 4 ) ck_X7_55 ⟨Nat.le_of_ble_eq_true rfl, Nat.le_of_ble_eq_true rfl⟩ [] rfl (by decide +kernel) hl.1 (Nat.le_of_ble_eq_true rfl) rfl dX7_cornerOf_16 ⟨Nat.le_of_ble_eq_true rfl, Nat.le_of_ble_eq_true rfl⟩) (wMd E a μ sp) [] rfl (by decide +kernel) rfl rfl (fun H locs w => ?_)
            refine lv_imul hx hb dX7_cornerOf_19 ?_
            refine lv_icmp_ne (tgt := 40) hx hb dX7_cornerOf_20 (by decide) (fun c20_12 => ?_) (fun c20_12 => ?_)
            · refine lv_iinc (v := 5) (lv' := [(2, .int 5), (0, .ref (a 0)), (1, .int ce)]) hx hb dX7_cornerOf_40 hl (k := 0) rfl (by first | rfl | decide) (by decide) rfl (fun ls hl => ?_)
              refine lv_goto (tgt := 2) hx hb dX7_cornerOf_43 (by decide) ?_
              refine lv_iload_n hx hb dX7_cornerOf_2 rfl (lv_at hl 0 rfl) ?_
              refine lv_bipush (v := 6) hx hb dX7_cornerOf_3 (by decide) ?_
              refine lv_icmp_ge (tgt := 46) hx hb dX7_cornerOf_5 (by decide) (fun h => absurd h (by decide)) (fun _ => ?_)
              refine lv_aload_n hx hb dX7_cornerOf_8 rfl (lv_at hl 1 rfl) ?_
              refine r_get X w CL7 7 (by decide) wf_X7_25 0 rfl rfl dX7_cornerOf_9 ?_
              refine lv_iload_n hx hb dX7_cornerOf_12 rfl (lv_at hl 2 rfl) ?_
              refine r_iald X w 6 rfl hc dX7_cornerOf_13 ?_
              refine lv_iconst (v := 4) hx hb dX7_cornerOf_14 (by decide) ?_
              refine lv_iload_n hx hb dX7_cornerOf_15 rfl (lv_at hl 0 rfl) ?_
              refine r_ci w (r_runS (As := [.int 5]) (rest := [.int 4, .int (μ 5 ce.toNatClampNeg)]) X w (kX7_qBy l E 5 ) ck_X7_55 ⟨Nat.le_of_ble_eq_true rfl, Nat.le_of_ble_eq_true rfl⟩ [] rfl (by decide +kernel) hl.1 (Nat.le_of_ble_eq_true rfl) rfl dX7_cornerOf_16 ⟨Nat.le_of_ble_eq_true rfl, Nat.le_of_ble_eq_true rfl⟩) (wMd E a μ sp) [] rfl (by decide +kernel) rfl rfl (fun H locs w => ?_)
              refine lv_imul hx hb dX7_cornerOf_19 ?_
              refine lv_icmp_ne (tgt := 40) hx hb dX7_cornerOf_20 (by decide) (fun c20_13 => ?_) (fun c20_13 => ?_)
              · refine lv_iinc (v := 6) (lv' := [(2, .int 6), (0, .ref (a 0)), (1, .int ce)]) hx hb dX7_cornerOf_40 hl (k := 0) rfl (by first | rfl | decide) (by decide) rfl (fun ls hl => ?_)
                refine lv_goto (tgt := 2) hx hb dX7_cornerOf_43 (by decide) ?_
                refine lv_iload_n hx hb dX7_cornerOf_2 rfl (lv_at hl 0 rfl) ?_
                refine lv_bipush (v := 6) hx hb dX7_cornerOf_3 (by decide) ?_
                refine lv_icmp_ge (tgt := 46) hx hb dX7_cornerOf_5 (by decide) (fun _ => ?_) (fun h => absurd h (by decide))
                refine lv_bipush (v := (-5)) hx hb dX7_cornerOf_46 (by decide) ?_
                have hq : fX7_cornerOf μ sp ce = ((-5)) := by simp only [fX7_cornerOf, if_neg c20_1, if_neg c20_2, if_neg c20_3, if_pos c20_4, if_neg c35_11, if_neg c20_12, if_neg c20_13]
                rw [hq]
                exact r_iret X w hr rfl dX7_cornerOf_48
              · refine lv_aload_n hx hb dX7_cornerOf_23 rfl (lv_at hl 1 rfl) ?_
                refine r_get X w CL7 8 (by decide) wf_X7_28 0 rfl rfl dX7_cornerOf_24 ?_
                refine lv_iload_n hx hb dX7_cornerOf_27 rfl (lv_at hl 2 rfl) ?_
                refine r_iald X w 7 rfl hc dX7_cornerOf_28 ?_
                refine lv_iconst (v := 4) hx hb dX7_cornerOf_29 (by decide) ?_
                refine lv_iload_n hx hb dX7_cornerOf_30 rfl (lv_at hl 0 rfl) ?_
                refine r_ci w (r_runS (As := [.int 5]) (rest := [.int 4, .int (μ 6 ce.toNatClampNeg)]) X w (kX7_rBy l E 5 ) ck_X7_59 ⟨Nat.le_of_ble_eq_true rfl, Nat.le_of_ble_eq_true rfl⟩ [] rfl (by decide +kernel) hl.1 (Nat.le_of_ble_eq_true rfl) rfl dX7_cornerOf_31 ⟨Nat.le_of_ble_eq_true rfl, Nat.le_of_ble_eq_true rfl⟩) (wMd E a μ sp) [] rfl (by decide +kernel) rfl rfl (fun H locs w => ?_)
                refine lv_imul hx hb dX7_cornerOf_34 ?_
                refine lv_icmp_ne (tgt := 40) hx hb dX7_cornerOf_35 (by decide) (fun c35_14 => ?_) (fun c35_14 => ?_)
                · refine lv_iinc (v := 6) (lv' := [(2, .int 6), (0, .ref (a 0)), (1, .int ce)]) hx hb dX7_cornerOf_40 hl (k := 0) rfl (by first | rfl | decide) (by decide) rfl (fun ls hl => ?_)
                  refine lv_goto (tgt := 2) hx hb dX7_cornerOf_43 (by decide) ?_
                  refine lv_iload_n hx hb dX7_cornerOf_2 rfl (lv_at hl 0 rfl) ?_
                  refine lv_bipush (v := 6) hx hb dX7_cornerOf_3 (by decide) ?_
                  refine lv_icmp_ge (tgt := 46) hx hb dX7_cornerOf_5 (by decide) (fun _ => ?_) (fun h => absurd h (by decide))
                  refine lv_bipush (v := (-5)) hx hb dX7_cornerOf_46 (by decide) ?_
                  have hq : fX7_cornerOf μ sp ce = ((-5)) := by simp only [fX7_cornerOf, if_neg c20_1, if_neg c20_2, if_neg c20_3, if_pos c20_4, if_neg c35_11, if_neg c20_12, if_pos c20_13, if_neg c35_14]
                  rw [hq]
                  exact r_iret X w hr rfl dX7_cornerOf_48
                · refine lv_iload_n hx hb dX7_cornerOf_38 rfl (lv_at hl 0 rfl) ?_
                  have hq : fX7_cornerOf μ sp ce = (5) := by simp only [fX7_cornerOf, if_neg c20_1, if_neg c20_2, if_neg c20_3, if_pos c20_4, if_neg c35_11, if_neg c20_12, if_pos c20_13, if_pos c35_14]
                  rw [hq]
                  exact r_iret X w hr rfl dX7_cornerOf_39
            · refine lv_aload_n hx hb dX7_cornerOf_23 rfl (lv_at hl 1 rfl) ?_
              refine r_get X w CL7 8 (by decide) wf_X7_28 0 rfl rfl dX7_cornerOf_24 ?_
              refine lv_iload_n hx hb dX7_cornerOf_27 rfl (lv_at hl 2 rfl) ?_
              refine r_iald X w 7 rfl hc dX7_cornerOf_28 ?_
              refine lv_iconst (v := 4) hx hb dX7_cornerOf_29 (by decide) ?_
              refine lv_iload_n hx hb dX7_cornerOf_30 rfl (lv_at hl 0 rfl) ?_
              refine r_ci w (r_runS (As := [.int 4]) (rest := [.int 4, .int (μ 6 ce.toNatClampNeg)]) X w (kX7_rBy l E 4 ) ck_X7_59 ⟨Nat.le_of_ble_eq_true rfl, Nat.le_of_ble_eq_true rfl⟩ [] rfl (by decide +kernel) hl.1 (Nat.le_of_ble_eq_true rfl) rfl dX7_cornerOf_31 ⟨Nat.le_of_ble_eq_true rfl, Nat.le_of_ble_eq_true rfl⟩) (wMd E a μ sp) [] rfl (by decide +kernel) rfl rfl (fun H locs w => ?_)
              refine lv_imul hx hb dX7_cornerOf_34 ?_
              refine lv_icmp_ne (tgt := 40) hx hb dX7_cornerOf_35 (by decide) (fun c35_15 => ?_) (fun c35_15 => ?_)
              · refine lv_iinc (v := 5) (lv' := [(2, .int 5), (0, .ref (a 0)), (1, .int ce)]) hx hb dX7_cornerOf_40 hl (k := 0) rfl (by first | rfl | decide) (by decide) rfl (fun ls hl => ?_)
                refine lv_goto (tgt := 2) hx hb dX7_cornerOf_43 (by decide) ?_
                refine lv_iload_n hx hb dX7_cornerOf_2 rfl (lv_at hl 0 rfl) ?_
                refine lv_bipush (v := 6) hx hb dX7_cornerOf_3 (by decide) ?_
                refine lv_icmp_ge (tgt := 46) hx hb dX7_cornerOf_5 (by decide) (fun h => absurd h (by decide)) (fun _ => ?_)
                refine lv_aload_n hx hb dX7_cornerOf_8 rfl (lv_at hl 1 rfl) ?_
                refine r_get X w CL7 7 (by decide) wf_X7_25 0 rfl rfl dX7_cornerOf_9 ?_
                refine lv_iload_n hx hb dX7_cornerOf_12 rfl (lv_at hl 2 rfl) ?_
                refine r_iald X w 6 rfl hc dX7_cornerOf_13 ?_
                refine lv_iconst (v := 4) hx hb dX7_cornerOf_14 (by decide) ?_
                refine lv_iload_n hx hb dX7_cornerOf_15 rfl (lv_at hl 0 rfl) ?_
                refine r_ci w (r_runS (As := [.int 5]) (rest := [.int 4, .int (μ 5 ce.toNatClampNeg)]) X w (kX7_qBy l E 5 ) ck_X7_55 ⟨Nat.le_of_ble_eq_true rfl, Nat.le_of_ble_eq_true rfl⟩ [] rfl (by decide +kernel) hl.1 (Nat.le_of_ble_eq_true rfl) rfl dX7_cornerOf_16 ⟨Nat.le_of_ble_eq_true rfl, Nat.le_of_ble_eq_true rfl⟩) (wMd E a μ sp) [] rfl (by decide +kernel) rfl rfl (fun H locs w => ?_)
                refine lv_imul hx hb dX7_cornerOf_19 ?_
                refine lv_icmp_ne (tgt := 40) hx hb dX7_cornerOf_20 (by decide) (fun c20_16 => ?_) (fun c20_16 => ?_)
                · refine lv_iinc (v := 6) (lv' := [(2, .int 6), (0, .ref (a 0)), (1, .int ce)]) hx hb dX7_cornerOf_40 hl (k := 0) rfl (by first | rfl | decide) (by decide) rfl (fun ls hl => ?_)
                  refine lv_goto (tgt := 2) hx hb dX7_cornerOf_43 (by decide) ?_
                  refine lv_iload_n hx hb dX7_cornerOf_2 rfl (lv_at hl 0 rfl) ?_
                  refine lv_bipush (v := 6) hx hb dX7_cornerOf_3 (by decide) ?_
                  refine lv_icmp_ge (tgt := 46) hx hb dX7_cornerOf_5 (by decide) (fun _ => ?_) (fun h => absurd h (by decide))
                  refine lv_bipush (v := (-5)) hx hb dX7_cornerOf_46 (by decide) ?_
                  have hq : fX7_cornerOf μ sp ce = ((-5)) := by simp only [fX7_cornerOf, if_neg c20_1, if_neg c20_2, if_neg c20_3, if_pos c20_4, if_neg c35_11, if_pos c20_12, if_neg c35_15, if_neg c20_16]
                  rw [hq]
                  exact r_iret X w hr rfl dX7_cornerOf_48
                · refine lv_aload_n hx hb dX7_cornerOf_23 rfl (lv_at hl 1 rfl) ?_
                  refine r_get X w CL7 8 (by decide) wf_X7_28 0 rfl rfl dX7_cornerOf_24 ?_
                  refine lv_iload_n hx hb dX7_cornerOf_27 rfl (lv_at hl 2 rfl) ?_
                  refine r_iald X w 7 rfl hc dX7_cornerOf_28 ?_
                  refine lv_iconst (v := 4) hx hb dX7_cornerOf_29 (by decide) ?_
                  refine lv_iload_n hx hb dX7_cornerOf_30 rfl (lv_at hl 0 rfl) ?_
                  refine r_ci w (r_runS (As := [.int 5]) (rest := [.int 4, .int (μ 6 ce.toNatClampNeg)]) X w (kX7_rBy l E 5 ) ck_X7_59 ⟨Nat.le_of_ble_eq_true rfl, Nat.le_of_ble_eq_true rfl⟩ [] rfl (by decide +kernel) hl.1 (Nat.le_of_ble_eq_true rfl) rfl dX7_cornerOf_31 ⟨Nat.le_of_ble_eq_true rfl, Nat.le_of_ble_eq_true rfl⟩) (wMd E a μ sp) [] rfl (by decide +kernel) rfl rfl (fun H locs w => ?_)
                  refine lv_imul hx hb dX7_cornerOf_34 ?_
                  refine lv_icmp_ne (tgt := 40) hx hb dX7_cornerOf_35 (by decide) (fun c35_17 => ?_) (fun c35_17 => ?_)
                  · refine lv_iinc (v := 6) (lv' := [(2, .int 6), (0, .ref (a 0)), (1, .int ce)]) hx hb dX7_cornerOf_40 hl (k := 0) rfl (by first | rfl | decide) (by decide) rfl (fun ls hl => ?_)
                    refine lv_goto (tgt := 2) hx hb dX7_cornerOf_43 (by decide) ?_
                    refine lv_iload_n hx hb dX7_cornerOf_2 rfl (lv_at hl 0 rfl) ?_
                    refine lv_bipush (v := 6) hx hb dX7_cornerOf_3 (by decide) ?_
                    refine lv_icmp_ge (tgt := 46) hx hb dX7_cornerOf_5 (by decide) (fun _ => ?_) (fun h => absurd h (by decide))
                    refine lv_bipush (v := (-5)) hx hb dX7_cornerOf_46 (by decide) ?_
                    have hq : fX7_cornerOf μ sp ce = ((-5)) := by simp only [fX7_cornerOf, if_neg c20_1, if_neg c20_2, if_neg c20_3, if_pos c20_4, if_neg c35_11, if_pos c20_12, if_neg c35_15, if_pos c20_16, if_neg c35_17]
                    rw [hq]
                    exact r_iret X w hr rfl dX7_cornerOf_48
                  · refine lv_iload_n hx hb dX7_cornerOf_38 rfl (lv_at hl 0 rfl) ?_
                    have hq : fX7_cornerOf μ sp ce = (5) := by simp only [fX7_cornerOf, if_neg c20_1, if_neg c20_2, if_neg c20_3, if_pos c20_4, if_neg c35_11, if_pos c20_12, if_neg c35_15, if_pos c20_16, if_pos c35_17]
                    rw [hq]
                    exact r_iret X w hr rfl dX7_cornerOf_39
              · refine lv_iload_n hx hb dX7_cornerOf_38 rfl (lv_at hl 0 rfl) ?_
                have hq : fX7_cornerOf μ sp ce = (4) := by simp only [fX7_cornerOf, if_neg c20_1, if_neg c20_2, if_neg c20_3, if_pos c20_4, if_neg c35_11, if_pos c20_12, if_pos c35_15]
                rw [hq]
                exact r_iret X w hr rfl dX7_cornerOf_39
          · refine lv_iload_n hx hb dX7_cornerOf_38 rfl (lv_at hl 0 rfl) ?_
            have hq : fX7_cornerOf μ sp ce = (3) := by simp only [fX7_cornerOf, if_neg c20_1, if_neg c20_2, if_neg c20_3, if_pos c20_4, if_pos c35_11]
            rw [hq]
            exact r_iret X w hr rfl dX7_cornerOf_39
      · refine lv_aload_n hx hb dX7_cornerOf_23 rfl (lv_at hl 1 rfl) ?_
        refine r_get X w CL7 8 (by decide) wf_X7_28 0 rfl rfl dX7_cornerOf_24 ?_
        refine lv_iload_n hx hb dX7_cornerOf_27 rfl (lv_at hl 2 rfl) ?_
        refine r_iald X w 7 rfl hc dX7_cornerOf_28 ?_
        refine lv_iconst (v := 4) hx hb dX7_cornerOf_29 (by decide) ?_
        refine lv_iload_n hx hb dX7_cornerOf_30 rfl (lv_at hl 0 rfl) ?_
        refine r_ci w (r_runS (As := [.int 2]) (rest := [.int 4, .int (μ 6 ce.toNatClampNeg)]) X w (kX7_rBy l E 2 ) ck_X7_59 ⟨Nat.le_of_ble_eq_true rfl, Nat.le_of_ble_eq_true rfl⟩ [] rfl (by decide +kernel) hl.1 (Nat.le_of_ble_eq_true rfl) rfl dX7_cornerOf_31 ⟨Nat.le_of_ble_eq_true rfl, Nat.le_of_ble_eq_true rfl⟩) (wMd E a μ sp) [] rfl (by decide +kernel) rfl rfl (fun H locs w => ?_)
        refine lv_imul hx hb dX7_cornerOf_34 ?_
        refine lv_icmp_ne (tgt := 40) hx hb dX7_cornerOf_35 (by decide) (fun c35_18 => ?_) (fun c35_18 => ?_)
        · refine lv_iinc (v := 3) (lv' := [(2, .int 3), (0, .ref (a 0)), (1, .int ce)]) hx hb dX7_cornerOf_40 hl (k := 0) rfl (by first | rfl | decide) (by decide) rfl (fun ls hl => ?_)
          refine lv_goto (tgt := 2) hx hb dX7_cornerOf_43 (by decide) ?_
          refine lv_iload_n hx hb dX7_cornerOf_2 rfl (lv_at hl 0 rfl) ?_
          refine lv_bipush (v := 6) hx hb dX7_cornerOf_3 (by decide) ?_
          refine lv_icmp_ge (tgt := 46) hx hb dX7_cornerOf_5 (by decide) (fun h => absurd h (by decide)) (fun _ => ?_)
          refine lv_aload_n hx hb dX7_cornerOf_8 rfl (lv_at hl 1 rfl) ?_
          refine r_get X w CL7 7 (by decide) wf_X7_25 0 rfl rfl dX7_cornerOf_9 ?_
          refine lv_iload_n hx hb dX7_cornerOf_12 rfl (lv_at hl 2 rfl) ?_
          refine r_iald X w 6 rfl hc dX7_cornerOf_13 ?_
          refine lv_iconst (v := 4) hx hb dX7_cornerOf_14 (by decide) ?_
          refine lv_iload_n hx hb dX7_cornerOf_15 rfl (lv_at hl 0 rfl) ?_
          refine r_ci w (r_runS (As := [.int 3]) (rest := [.int 4, .int (μ 5 ce.toNatClampNeg)]) X w (kX7_qBy l E 3 ) ck_X7_55 ⟨Nat.le_of_ble_eq_true rfl, Nat.le_of_ble_eq_true rfl⟩ [] rfl (by decide +kernel) hl.1 (Nat.le_of_ble_eq_true rfl) rfl dX7_cornerOf_16 ⟨Nat.le_of_ble_eq_true rfl, Nat.le_of_ble_eq_true rfl⟩) (wMd E a μ sp) [] rfl (by decide +kernel) rfl rfl (fun H locs w => ?_)
          refine lv_imul hx hb dX7_cornerOf_19 ?_
          refine lv_icmp_ne (tgt := 40) hx hb dX7_cornerOf_20 (by decide) (fun c20_19 => ?_) (fun c20_19 => ?_)
          · refine lv_iinc (v := 4) (lv' := [(2, .int 4), (0, .ref (a 0)), (1, .int ce)]) hx hb dX7_cornerOf_40 hl (k := 0) rfl (by first | rfl | decide) (by decide) rfl (fun ls hl => ?_)
            refine lv_goto (tgt := 2) hx hb dX7_cornerOf_43 (by decide) ?_
            refine lv_iload_n hx hb dX7_cornerOf_2 rfl (lv_at hl 0 rfl) ?_
            refine lv_bipush (v := 6) hx hb dX7_cornerOf_3 (by decide) ?_
            refine lv_icmp_ge (tgt := 46) hx hb dX7_cornerOf_5 (by decide) (fun h => absurd h (by decide)) (fun _ => ?_)
            refine lv_aload_n hx hb dX7_cornerOf_8 rfl (lv_at hl 1 rfl) ?_
            refine r_get X w CL7 7 (by decide) wf_X7_25 0 rfl rfl dX7_cornerOf_9 ?_
            refine lv_iload_n hx hb dX7_cornerOf_12 rfl (lv_at hl 2 rfl) ?_
            refine r_iald X w 6 rfl hc dX7_cornerOf_13 ?_
            refine lv_iconst (v := 4) hx hb dX7_cornerOf_14 (by decide) ?_
            refine lv_iload_n hx hb dX7_cornerOf_15 rfl (lv_at hl 0 rfl) ?_
            refine r_ci w (r_runS (As := [.int 4]) (rest := [.int 4, .int (μ 5 ce.toNatClampNeg)]) X w (kX7_qBy l E 4 ) ck_X7_55 ⟨Nat.le_of_ble_eq_true rfl, Nat.le_of_ble_eq_true rfl⟩ [] rfl (by decide +kernel) hl.1 (Nat.le_of_ble_eq_true rfl) rfl dX7_cornerOf_16 ⟨Nat.le_of_ble_eq_true rfl, Nat.le_of_ble_eq_true rfl⟩) (wMd E a μ sp) [] rfl (by decide +kernel) rfl rfl (fun H locs w => ?_)
            refine lv_imul hx hb dX7_cornerOf_19 ?_
            refine lv_icmp_ne (tgt := 40) hx hb dX7_cornerOf_20 (by decide) (fun c20_20 => ?_) (fun c20_20 => ?_)
            · refine lv_iinc (v := 5) (lv' := [(2, .int 5), (0, .ref (a 0)), (1, .int ce)]) hx hb dX7_cornerOf_40 hl (k := 0) rfl (by first | rfl | decide) (by decide) rfl (fun ls hl => ?_)
              refine lv_goto (tgt := 2) hx hb dX7_cornerOf_43 (by decide) ?_
              refine lv_iload_n hx hb dX7_cornerOf_2 rfl (lv_at hl 0 rfl) ?_
              refine lv_bipush (v := 6) hx hb dX7_cornerOf_3 (by decide) ?_
              refine lv_icmp_ge (tgt := 46) hx hb dX7_cornerOf_5 (by decide) (fun h => absurd h (by decide)) (fun _ => ?_)
              refine lv_aload_n hx hb dX7_cornerOf_8 rfl (lv_at hl 1 rfl) ?_
              refine r_get X w CL7 7 (by decide) wf_X7_25 0 rfl rfl dX7_cornerOf_9 ?_
              refine lv_iload_n hx hb dX7_cornerOf_12 rfl (lv_at hl 2 rfl) ?_
              refine r_iald X w 6 rfl hc dX7_cornerOf_13 ?_
              refine lv_iconst (v := 4) hx hb dX7_cornerOf_14 (by decide) ?_
              refine lv_iload_n hx hb dX7_cornerOf_15 rfl (lv_at hl 0 rfl) ?_
              refine r_ci w (r_runS (As := [.int 5]) (rest := [.int 4, .int (μ 5 ce.toNatClampNeg)]) X w (kX7_qBy l E 5 ) ck_X7_55 ⟨Nat.le_of_ble_eq_true rfl, Nat.le_of_ble_eq_true rfl⟩ [] rfl (by decide +kernel) hl.1 (Nat.le_of_ble_eq_true rfl) rfl dX7_cornerOf_16 ⟨Nat.le_of_ble_eq_true rfl, Nat.le_of_ble_eq_true rfl⟩) (wMd E a μ sp) [] rfl (by decide +kernel) rfl rfl (fun H locs w => ?_)
              refine lv_imul hx hb dX7_cornerOf_19 ?_
              refine lv_icmp_ne (tgt := 40) hx hb dX7_cornerOf_20 (by decide) (fun c20_21 => ?_) (fun c20_21 => ?_)
              · refine lv_iinc (v := 6) (lv' := [(2, .int 6), (0, .ref (a 0)), (1, .int ce)]) hx hb dX7_cornerOf_40 hl (k := 0) rfl (by first | rfl | decide) (by decide) rfl (fun ls hl => ?_)
                refine lv_goto (tgt := 2) hx hb dX7_cornerOf_43 (by decide) ?_
                refine lv_iload_n hx hb dX7_cornerOf_2 rfl (lv_at hl 0 rfl) ?_
                refine lv_bipush (v := 6) hx hb dX7_cornerOf_3 (by decide) ?_
                refine lv_icmp_ge (tgt := 46) hx hb dX7_cornerOf_5 (by decide) (fun _ => ?_) (fun h => absurd h (by decide))
                refine lv_bipush (v := (-5)) hx hb dX7_cornerOf_46 (by decide) ?_
                have hq : fX7_cornerOf μ sp ce = ((-5)) := by simp only [fX7_cornerOf, if_neg c20_1, if_neg c20_2, if_pos c20_3, if_neg c35_18, if_neg c20_19, if_neg c20_20, if_neg c20_21]
                rw [hq]
                exact r_iret X w hr rfl dX7_cornerOf_48
              · refine lv_aload_n hx hb dX7_cornerOf_23 rfl (lv_at hl 1 rfl) ?_
                refine r_get X w CL7 8 (by decide) wf_X7_28 0 rfl rfl dX7_cornerOf_24 ?_
                refine lv_iload_n hx hb dX7_cornerOf_27 rfl (lv_at hl 2 rfl) ?_
                refine r_iald X w 7 rfl hc dX7_cornerOf_28 ?_
                refine lv_iconst (v := 4) hx hb dX7_cornerOf_29 (by decide) ?_
                refine lv_iload_n hx hb dX7_cornerOf_30 rfl (lv_at hl 0 rfl) ?_
                refine r_ci w (r_runS (As := [.int 5]) (rest := [.int 4, .int (μ 6 ce.toNatClampNeg)]) X w (kX7_rBy l E 5 ) ck_X7_59 ⟨Nat.le_of_ble_eq_true rfl, Nat.le_of_ble_eq_true rfl⟩ [] rfl (by decide +kernel) hl.1 (Nat.le_of_ble_eq_true rfl) rfl dX7_cornerOf_31 ⟨Nat.le_of_ble_eq_true rfl, Nat.le_of_ble_eq_true rfl⟩) (wMd E a μ sp) [] rfl (by decide +kernel) rfl rfl (fun H locs w => ?_)
                refine lv_imul hx hb dX7_cornerOf_34 ?_
                refine lv_icmp_ne (tgt := 40) hx hb dX7_cornerOf_35 (by decide) (fun c35_22 => ?_) (fun c35_22 => ?_)
                · refine lv_iinc (v := 6) (lv' := [(2, .int 6), (0, .ref (a 0)), (1, .int ce)]) hx hb dX7_cornerOf_40 hl (k := 0) rfl (by first | rfl | decide) (by decide) rfl (fun ls hl => ?_)
                  refine lv_goto (tgt := 2) hx hb dX7_cornerOf_43 (by decide) ?_
                  refine lv_iload_n hx hb dX7_cornerOf_2 rfl (lv_at hl 0 rfl) ?_
                  refine lv_bipush (v := 6) hx hb dX7_cornerOf_3 (by decide) ?_
                  refine lv_icmp_ge (tgt := 46) hx hb dX7_cornerOf_5 (by decide) (fun _ => ?_) (fun h => absurd h (by decide))
                  refine lv_bipush (v := (-5)) hx hb dX7_cornerOf_46 (by decide) ?_
                  have hq : fX7_cornerOf μ sp ce = ((-5)) := by simp only [fX7_cornerOf, if_neg c20_1, if_neg c20_2, if_pos c20_3, if_neg c35_18, if_neg c20_19, if_neg c20_20, if_pos c20_21, if_neg c35_22]
                  rw [hq]
                  exact r_iret X w hr rfl dX7_cornerOf_48
                · refine lv_iload_n hx hb dX7_cornerOf_38 rfl (lv_at hl 0 rfl) ?_
                  have hq : fX7_cornerOf μ sp ce = (5) := by simp only [fX7_cornerOf, if_neg c20_1, if_neg c20_2, if_pos c20_3, if_neg c35_18, if_neg c20_19, if_neg c20_20, if_pos c20_21, if_pos c35_22]
                  rw [hq]
                  exact r_iret X w hr rfl dX7_cornerOf_39
            · refine lv_aload_n hx hb dX7_cornerOf_23 rfl (lv_at hl 1 rfl) ?_
              refine r_get X w CL7 8 (by decide) wf_X7_28 0 rfl rfl dX7_cornerOf_24 ?_
              refine lv_iload_n hx hb dX7_cornerOf_27 rfl (lv_at hl 2 rfl) ?_
              refine r_iald X w 7 rfl hc dX7_cornerOf_28 ?_
              refine lv_iconst (v := 4) hx hb dX7_cornerOf_29 (by decide) ?_
              refine lv_iload_n hx hb dX7_cornerOf_30 rfl (lv_at hl 0 rfl) ?_
              refine r_ci w (r_runS (As := [.int 4]) (rest := [.int 4, .int (μ 6 ce.toNatClampNeg)]) X w (kX7_rBy l E 4 ) ck_X7_59 ⟨Nat.le_of_ble_eq_true rfl, Nat.le_of_ble_eq_true rfl⟩ [] rfl (by decide +kernel) hl.1 (Nat.le_of_ble_eq_true rfl) rfl dX7_cornerOf_31 ⟨Nat.le_of_ble_eq_true rfl, Nat.le_of_ble_eq_true rfl⟩) (wMd E a μ sp) [] rfl (by decide +kernel) rfl rfl (fun H locs w => ?_)
              refine lv_imul hx hb dX7_cornerOf_34 ?_
              refine lv_icmp_ne (tgt := 40) hx hb dX7_cornerOf_35 (by decide) (fun c35_23 => ?_) (fun c35_23 => ?_)
              · refine lv_iinc (v := 5) (lv' := [(2, .int 5), (0, .ref (a 0)), (1, .int ce)]) hx hb dX7_cornerOf_40 hl (k := 0) rfl (by first | rfl | decide) (by decide) rfl (fun ls hl => ?_)
                refine lv_goto (tgt := 2) hx hb dX7_cornerOf_43 (by decide) ?_
                refine lv_iload_n hx hb dX7_cornerOf_2 rfl (lv_at hl 0 rfl) ?_
                refine lv_bipush (v := 6) hx hb dX7_cornerOf_3 (by decide) ?_
                refine lv_icmp_ge (tgt := 46) hx hb dX7_cornerOf_5 (by decide) (fun h => absurd h (by decide)) (fun _ => ?_)
                refine lv_aload_n hx hb dX7_cornerOf_8 rfl (lv_at hl 1 rfl) ?_
                refine r_get X w CL7 7 (by decide) wf_X7_25 0 rfl rfl dX7_cornerOf_9 ?_
                refine lv_iload_n hx hb dX7_cornerOf_12 rfl (lv_at hl 2 rfl) ?_
                refine r_iald X w 6 rfl hc dX7_cornerOf_13 ?_
                refine lv_iconst (v := 4) hx hb dX7_cornerOf_14 (by decide) ?_
                refine lv_iload_n hx hb dX7_cornerOf_15 rfl (lv_at hl 0 rfl) ?_
                refine r_ci w (r_runS (As := [.int 5]) (rest := [.int 4, .int (μ 5 ce.toNatClampNeg)]) X w (kX7_qBy l E 5 ) ck_X7_55 ⟨Nat.le_of_ble_eq_true rfl, Nat.le_of_ble_eq_true rfl⟩ [] rfl (by decide +kernel) hl.1 (Nat.le_of_ble_eq_true rfl) rfl dX7_cornerOf_16 ⟨Nat.le_of_ble_eq_true rfl, Nat.le_of_ble_eq_true rfl⟩) (wMd E a μ sp) [] rfl (by decide +kernel) rfl rfl (fun H locs w => ?_)
                refine lv_imul hx hb dX7_cornerOf_19 ?_
                refine lv_icmp_ne (tgt := 40) hx hb dX7_cornerOf_20 (by decide) (fun c20_24 => ?_) (fun c20_24 => ?_)
                · refine lv_iinc (v := 6) (lv' := [(2, .int 6), (0, .ref (a 0)), (1, .int ce)]) hx hb dX7_cornerOf_40 hl (k := 0) rfl (by first | rfl | decide) (by decide) rfl (fun ls hl => ?_)
                  refine lv_goto (tgt := 2) hx hb dX7_cornerOf_43 (by decide) ?_
                  refine lv_iload_n hx hb dX7_cornerOf_2 rfl (lv_at hl 0 rfl) ?_
                  refine lv_bipush (v := 6) hx hb dX7_cornerOf_3 (by decide) ?_
                  refine lv_icmp_ge (tgt := 46) hx hb dX7_cornerOf_5 (by decide) (fun _ => ?_) (fun h => absurd h (by decide))
                  refine lv_bipush (v := (-5)) hx hb dX7_cornerOf_46 (by decide) ?_
                  have hq : fX7_cornerOf μ sp ce = ((-5)) := by simp only [fX7_cornerOf, if_neg c20_1, if_neg c20_2, if_pos c20_3, if_neg c35_18, if_neg c20_19, if_pos c20_20, if_neg c35_23, if_neg c20_24]
                  rw [hq]
                  exact r_iret X w hr rfl dX7_cornerOf_48
                · refine lv_aload_n hx hb dX7_cornerOf_23 rfl (lv_at hl 1 rfl) ?_
                  refine r_get X w CL7 8 (by decide) wf_X7_28 0 rfl rfl dX7_cornerOf_24 ?_
                  refine lv_iload_n hx hb dX7_cornerOf_27 rfl (lv_at hl 2 rfl) ?_
                  refine r_iald X w 7 rfl hc dX7_cornerOf_28 ?_
                  refine lv_iconst (v := 4) hx hb dX7_cornerOf_29 (by decide) ?_
                  refine lv_iload_n hx hb dX7_cornerOf_30 rfl (lv_at hl 0 rfl) ?_
                  refine r_ci w (r_runS (As := [.int 5]) (rest := [.int 4, .int (μ 6 ce.toNatClampNeg)]) X w (kX7_rBy l E 5 ) ck_X7_59 ⟨Nat.le_of_ble_eq_true rfl, Nat.le_of_ble_eq_true rfl⟩ [] rfl (by decide +kernel) hl.1 (Nat.le_of_ble_eq_true rfl) rfl dX7_cornerOf_31 ⟨Nat.le_of_ble_eq_true rfl, Nat.le_of_ble_eq_true rfl⟩) (wMd E a μ sp) [] rfl (by decide +kernel) rfl rfl (fun H locs w => ?_)
                  refine lv_imul hx hb dX7_cornerOf_34 ?_
                  refine lv_icmp_ne (tgt := 40) hx hb dX7_cornerOf_35 (by decide) (fun c35_25 => ?_) (fun c35_25 => ?_)
                  · refine lv_iinc (v := 6) (lv' := [(2, .int 6), (0, .ref (a 0)), (1, .int ce)]) hx hb dX7_cornerOf_40 hl (k := 0) rfl (by first | rfl | decide) (by decide) rfl (fun ls hl => ?_)
                    refine lv_goto (tgt := 2) hx hb dX7_cornerOf_43 (by decide) ?_
                    refine lv_iload_n hx hb dX7_cornerOf_2 rfl (lv_at hl 0 rfl) ?_
                    refine lv_bipush (v := 6) hx hb dX7_cornerOf_3 (by decide) ?_
                    refine lv_icmp_ge (tgt := 46) hx hb dX7_cornerOf_5 (by decide) (fun _ => ?_) (fun h => absurd h (by decide))
                    refine lv_bipush (v := (-5)) hx hb dX7_cornerOf_46 (by decide) ?_
                    have hq : fX7_cornerOf μ sp ce = ((-5)) := by simp only [fX7_cornerOf, if_neg c20_1, if_neg c20_2, if_pos c20_3, if_neg c35_18, if_neg c20_19, if_pos c20_20, if_neg c35_23, if_pos c20_24, if_neg c35_25]
                    rw [hq]
                    exact r_iret X w hr rfl dX7_cornerOf_48
                  · refine lv_iload_n hx hb dX7_cornerOf_38 rfl (lv_at hl 0 rfl) ?_
                    have hq : fX7_cornerOf μ sp ce = (5) := by simp only [fX7_cornerOf, if_neg c20_1, if_neg c20_2, if_pos c20_3, if_neg c35_18, if_neg c20_19, if_pos c20_20, if_neg c35_23, if_pos c20_24, if_pos c35_25]
                    rw [hq]
                    exact r_iret X w hr rfl dX7_cornerOf_39
              · refine lv_iload_n hx hb dX7_cornerOf_38 rfl (lv_at hl 0 rfl) ?_
                have hq : fX7_cornerOf μ sp ce = (4) := by simp only [fX7_cornerOf, if_neg c20_1, if_neg c20_2, if_pos c20_3, if_neg c35_18, if_neg c20_19, if_pos c20_20, if_pos c35_23]
                rw [hq]
                exact r_iret X w hr rfl dX7_cornerOf_39
          · refine lv_aload_n hx hb dX7_cornerOf_23 rfl (lv_at hl 1 rfl) ?_
            refine r_get X w CL7 8 (by decide) wf_X7_28 0 rfl rfl dX7_cornerOf_24 ?_
            refine lv_iload_n hx hb dX7_cornerOf_27 rfl (lv_at hl 2 rfl) ?_
            refine r_iald X w 7 rfl hc dX7_cornerOf_28 ?_
            refine lv_iconst (v := 4) hx hb dX7_cornerOf_29 (by decide) ?_
            refine lv_iload_n hx hb dX7_cornerOf_30 rfl (lv_at hl 0 rfl) ?_
            refine r_ci w (r_runS (As := [.int 3]) (rest := [.int 4, .int (μ 6 ce.toNatClampNeg)]) X w (kX7_rBy l E 3 ) ck_X7_59 ⟨Nat.le_of_ble_eq_true rfl, Nat.le_of_ble_eq_true rfl⟩ [] rfl (by decide +kernel) hl.1 (Nat.le_of_ble_eq_true rfl) rfl dX7_cornerOf_31 ⟨Nat.le_of_ble_eq_true rfl, Nat.le_of_ble_eq_true rfl⟩) (wMd E a μ sp) [] rfl (by decide +kernel) rfl rfl (fun H locs w => ?_)
            refine lv_imul hx hb dX7_cornerOf_34 ?_
            refine lv_icmp_ne (tgt := 40) hx hb dX7_cornerOf_35 (by decide) (fun c35_26 => ?_) (fun c35_26 => ?_)
            · refine lv_iinc (v := 4) (lv' := [(2, .int 4), (0, .ref (a 0)), (1, .int ce)]) hx hb dX7_cornerOf_40 hl (k := 0) rfl (by first | rfl | decide) (by decide) rfl (fun ls hl => ?_)
              refine lv_goto (tgt := 2) hx hb dX7_cornerOf_43 (by decide) ?_
              refine lv_iload_n hx hb dX7_cornerOf_2 rfl (lv_at hl 0 rfl) ?_
              refine lv_bipush (v := 6) hx hb dX7_cornerOf_3 (by decide) ?_
              refine lv_icmp_ge (tgt := 46) hx hb dX7_cornerOf_5 (by decide) (fun h => absurd h (by decide)) (fun _ => ?_)
              refine lv_aload_n hx hb dX7_cornerOf_8 rfl (lv_at hl 1 rfl) ?_
              refine r_get X w CL7 7 (by decide) wf_X7_25 0 rfl rfl dX7_cornerOf_9 ?_
              refine lv_iload_n hx hb dX7_cornerOf_12 rfl (lv_at hl 2 rfl) ?_
              refine r_iald X w 6 rfl hc dX7_cornerOf_13 ?_
              refine lv_iconst (v := 4) hx hb dX7_cornerOf_14 (by decide) ?_
              refine lv_iload_n hx hb dX7_cornerOf_15 rfl (lv_at hl 0 rfl) ?_
              refine r_ci w (r_runS (As := [.int 4]) (rest := [.int 4, .int (μ 5 ce.toNatClampNeg)]) X w (kX7_qBy l E 4 ) ck_X7_55 ⟨Nat.le_of_ble_eq_true rfl, Nat.le_of_ble_eq_true rfl⟩ [] rfl (by decide +kernel) hl.1 (Nat.le_of_ble_eq_true rfl) rfl dX7_cornerOf_16 ⟨Nat.le_of_ble_eq_true rfl, Nat.le_of_ble_eq_true rfl⟩) (wMd E a μ sp) [] rfl (by decide +kernel) rfl rfl (fun H locs w => ?_)
              refine lv_imul hx hb dX7_cornerOf_19 ?_
              refine lv_icmp_ne (tgt := 40) hx hb dX7_cornerOf_20 (by decide) (fun c20_27 => ?_) (fun c20_27 => ?_)
              · refine lv_iinc (v := 5) (lv' := [(2, .int 5), (0, .ref (a 0)), (1, .int ce)]) hx hb dX7_cornerOf_40 hl (k := 0) rfl (by first | rfl | decide) (by decide) rfl (fun ls hl => ?_)
                refine lv_goto (tgt := 2) hx hb dX7_cornerOf_43 (by decide) ?_
                refine lv_iload_n hx hb dX7_cornerOf_2 rfl (lv_at hl 0 rfl) ?_
                refine lv_bipush (v := 6) hx hb dX7_cornerOf_3 (by decide) ?_
                refine lv_icmp_ge (tgt := 46) hx hb dX7_cornerOf_5 (by decide) (fun h => absurd h (by decide)) (fun _ => ?_)
                refine lv_aload_n hx hb dX7_cornerOf_8 rfl (lv_at hl 1 rfl) ?_
                refine r_get X w CL7 7 (by decide) wf_X7_25 0 rfl rfl dX7_cornerOf_9 ?_
                refine lv_iload_n hx hb dX7_cornerOf_12 rfl (lv_at hl 2 rfl) ?_
                refine r_iald X w 6 rfl hc dX7_cornerOf_13 ?_
                refine lv_iconst (v := 4) hx hb dX7_cornerOf_14 (by decide) ?_
                refine lv_iload_n hx hb dX7_cornerOf_15 rfl (lv_at hl 0 rfl) ?_
                refine r_ci w (r_runS (As := [.int 5]) (rest := [.int 4, .int (μ 5 ce.toNatClampNeg)]) X w (kX7_qBy l E 5 ) ck_X7_55 ⟨Nat.le_of_ble_eq_true rfl, Nat.le_of_ble_eq_true rfl⟩ [] rfl (by decide +kernel) hl.1 (Nat.le_of_ble_eq_true rfl) rfl dX7_cornerOf_16 ⟨Nat.le_of_ble_eq_true rfl, Nat.le_of_ble_eq_true rfl⟩) (wMd E a μ sp) [] rfl (by decide +kernel) rfl rfl (fun H locs w => ?_)
                refine lv_imul hx hb dX7_cornerOf_19 ?_
                refine lv_icmp_ne (tgt := 40) hx hb dX7_cornerOf_20 (by decide) (fun c20_28 => ?_) (fun c20_28 => ?_)
                · refine lv_iinc (v := 6) (lv' := [(2, .int 6), (0, .ref (a 0)), (1, .int ce)]) hx hb dX7_cornerOf_40 hl (k := 0) rfl (by first | rfl | decide) (by decide) rfl (fun ls hl => ?_)
                  refine lv_goto (tgt := 2) hx hb dX7_cornerOf_43 (by decide) ?_
                  refine lv_iload_n hx hb dX7_cornerOf_2 rfl (lv_at hl 0 rfl) ?_
                  refine lv_bipush (v := 6) hx hb dX7_cornerOf_3 (by decide) ?_
                  refine lv_icmp_ge (tgt := 46) hx hb dX7_cornerOf_5 (by decide) (fun _ => ?_) (fun h => absurd h (by decide))
                  refine lv_bipush (v := (-5)) hx hb dX7_cornerOf_46 (by decide) ?_
                  have hq : fX7_cornerOf μ sp ce = ((-5)) := by simp only [fX7_cornerOf, if_neg c20_1, if_neg c20_2, if_pos c20_3, if_neg c35_18, if_pos c20_19, if_neg c35_26, if_neg c20_27, if_neg c20_28]
                  rw [hq]
                  exact r_iret X w hr rfl dX7_cornerOf_48
                · refine lv_aload_n hx hb dX7_cornerOf_23 rfl (lv_at hl 1 rfl) ?_
                  refine r_get X w CL7 8 (by decide) wf_X7_28 0 rfl rfl dX7_cornerOf_24 ?_
                  refine lv_iload_n hx hb dX7_cornerOf_27 rfl (lv_at hl 2 rfl) ?_
                  refine r_iald X w 7 rfl hc dX7_cornerOf_28 ?_
                  refine lv_iconst (v := 4) hx hb dX7_cornerOf_29 (by decide) ?_
                  refine lv_iload_n hx hb dX7_cornerOf_30 rfl (lv_at hl 0 rfl) ?_
                  refine r_ci w (r_runS (As := [.int 5]) (rest := [.int 4, .int (μ 6 ce.toNatClampNeg)]) X w (kX7_rBy l E 5 ) ck_X7_59 ⟨Nat.le_of_ble_eq_true rfl, Nat.le_of_ble_eq_true rfl⟩ [] rfl (by decide +kernel) hl.1 (Nat.le_of_ble_eq_true rfl) rfl dX7_cornerOf_31 ⟨Nat.le_of_ble_eq_true rfl, Nat.le_of_ble_eq_true rfl⟩) (wMd E a μ sp) [] rfl (by decide +kernel) rfl rfl (fun H locs w => ?_)
                  refine lv_imul hx hb dX7_cornerOf_34 ?_
                  refine lv_icmp_ne (tgt := 40) hx hb dX7_cornerOf_35 (by decide) (fun c35_29 => ?_) (fun c35_29 => ?_)
                  · refine lv_iinc (v := 6) (lv' := [(2, .int 6), (0, .ref (a 0)), (1, .int ce)]) hx hb dX7_cornerOf_40 hl (k := 0) rfl (by first | rfl | decide) (by decide) rfl (fun ls hl => ?_)
                    refine lv_goto (tgt := 2) hx hb dX7_cornerOf_43 (by decide) ?_
                    refine lv_iload_n hx hb dX7_cornerOf_2 rfl (lv_at hl 0 rfl) ?_
                    refine lv_bipush (v := 6) hx hb dX7_cornerOf_3 (by decide) ?_
                    refine lv_icmp_ge (tgt := 46) hx hb dX7_cornerOf_5 (by decide) (fun _ => ?_) (fun h => absurd h (by decide))
                    refine lv_bipush (v := (-5)) hx hb dX7_cornerOf_46 (by decide) ?_
                    have hq : fX7_cornerOf μ sp ce = ((-5)) := by simp only [fX7_cornerOf, if_neg c20_1, if_neg c20_2, if_pos c20_3, if_neg c35_18, if_pos c20_19, if_neg c35_26, if_neg c20_27, if_pos c20_28, if_neg c35_29]
                    rw [hq]
                    exact r_iret X w hr rfl dX7_cornerOf_48
                  · refine lv_iload_n hx hb dX7_cornerOf_38 rfl (lv_at hl 0 rfl) ?_
                    have hq : fX7_cornerOf μ sp ce = (5) := by simp only [fX7_cornerOf, if_neg c20_1, if_neg c20_2, if_pos c20_3, if_neg c35_18, if_pos c20_19, if_neg c35_26, if_neg c20_27, if_pos c20_28, if_pos c35_29]
                    rw [hq]
                    exact r_iret X w hr rfl dX7_cornerOf_39
              · refine lv_aload_n hx hb dX7_cornerOf_23 rfl (lv_at hl 1 rfl) ?_
                refine r_get X w CL7 8 (by decide) wf_X7_28 0 rfl rfl dX7_cornerOf_24 ?_
                refine lv_iload_n hx hb dX7_cornerOf_27 rfl (lv_at hl 2 rfl) ?_
                refine r_iald X w 7 rfl hc dX7_cornerOf_28 ?_
                refine lv_iconst (v := 4) hx hb dX7_cornerOf_29 (by decide) ?_
                refine lv_iload_n hx hb dX7_cornerOf_30 rfl (lv_at hl 0 rfl) ?_
                refine r_ci w (r_runS (As := [.int 4]) (rest := [.int 4, .int (μ 6 ce.toNatClampNeg)]) X w (kX7_rBy l E 4 ) ck_X7_59 ⟨Nat.le_of_ble_eq_true rfl, Nat.le_of_ble_eq_true rfl⟩ [] rfl (by decide +kernel) hl.1 (Nat.le_of_ble_eq_true rfl) rfl dX7_cornerOf_31 ⟨Nat.le_of_ble_eq_true rfl, Nat.le_of_ble_eq_true rfl⟩) (wMd E a μ sp) [] rfl (by decide +kernel) rfl rfl (fun H locs w => ?_)
                refine lv_imul hx hb dX7_cornerOf_34 ?_
                refine lv_icmp_ne (tgt := 40) hx hb dX7_cornerOf_35 (by decide) (fun c35_30 => ?_) (fun c35_30 => ?_)
                · refine lv_iinc (v := 5) (lv' := [(2, .int 5), (0, .ref (a 0)), (1, .int ce)]) hx hb dX7_cornerOf_40 hl (k := 0) rfl (by first | rfl | decide) (by decide) rfl (fun ls hl => ?_)
                  refine lv_goto (tgt := 2) hx hb dX7_cornerOf_43 (by decide) ?_
                  refine lv_iload_n hx hb dX7_cornerOf_2 rfl (lv_at hl 0 rfl) ?_
                  refine lv_bipush (v := 6) hx hb dX7_cornerOf_3 (by decide) ?_
                  refine lv_icmp_ge (tgt := 46) hx hb dX7_cornerOf_5 (by decide) (fun h => absurd h (by decide)) (fun _ => ?_)
                  refine lv_aload_n hx hb dX7_cornerOf_8 rfl (lv_at hl 1 rfl) ?_
                  refine r_get X w CL7 7 (by decide) wf_X7_25 0 rfl rfl dX7_cornerOf_9 ?_
                  refine lv_iload_n hx hb dX7_cornerOf_12 rfl (lv_at hl 2 rfl) ?_
                  refine r_iald X w 6 rfl hc dX7_cornerOf_13 ?_
                  refine lv_iconst (v := 4) hx hb dX7_cornerOf_14 (by decide) ?_
                  refine lv_iload_n hx hb dX7_cornerOf_15 rfl (lv_at hl 0 rfl) ?_
                  refine r_ci w (r_runS (As := [.int 5]) (rest := [.int 4, .int (μ 5 ce.toNatClampNeg)]) X w (kX7_qBy l E 5 ) ck_X7_55 ⟨Nat.le_of_ble_eq_true rfl, Nat.le_of_ble_eq_true rfl⟩ [] rfl (by decide +kernel) hl.1 (Nat.le_of_ble_eq_true rfl) rfl dX7_cornerOf_16 ⟨Nat.le_of_ble_eq_true rfl, Nat.le_of_ble_eq_true rfl⟩) (wMd E a μ sp) [] rfl (by decide +kernel) rfl rfl (fun H locs w => ?_)
                  refine lv_imul hx hb dX7_cornerOf_19 ?_
                  refine lv_icmp_ne (tgt := 40) hx hb dX7_cornerOf_20 (by decide) (fun c20_31 => ?_) (fun c20_31 => ?_)
                  · refine lv_iinc (v := 6) (lv' := [(2, .int 6), (0, .ref (a 0)), (1, .int ce)]) hx hb dX7_cornerOf_40 hl (k := 0) rfl (by first | rfl | decide) (by decide) rfl (fun ls hl => ?_)
                    refine lv_goto (tgt := 2) hx hb dX7_cornerOf_43 (by decide) ?_
                    refine lv_iload_n hx hb dX7_cornerOf_2 rfl (lv_at hl 0 rfl) ?_
                    refine lv_bipush (v := 6) hx hb dX7_cornerOf_3 (by decide) ?_
                    refine lv_icmp_ge (tgt := 46) hx hb dX7_cornerOf_5 (by decide) (fun _ => ?_) (fun h => absurd h (by decide))
                    refine lv_bipush (v := (-5)) hx hb dX7_cornerOf_46 (by decide) ?_
                    have hq : fX7_cornerOf μ sp ce = ((-5)) := by simp only [fX7_cornerOf, if_neg c20_1, if_neg c20_2, if_pos c20_3, if_neg c35_18, if_pos c20_19, if_neg c35_26, if_pos c20_27, if_neg c35_30, if_neg c20_31]
                    rw [hq]
                    exact r_iret X w hr rfl dX7_cornerOf_48
                  · refine lv_aload_n hx hb dX7_cornerOf_23 rfl (lv_at hl 1 rfl) ?_
                    refine r_get X w CL7 8 (by decide) wf_X7_28 0 rfl rfl dX7_cornerOf_24 ?_
                    refine lv_iload_n hx hb dX7_cornerOf_27 rfl (lv_at hl 2 rfl) ?_
                    refine r_iald X w 7 rfl hc dX7_cornerOf_28 ?_
                    refine lv_iconst (v := 4) hx hb dX7_cornerOf_29 (by decide) ?_
                    refine lv_iload_n hx hb dX7_cornerOf_30 rfl (lv_at hl 0 rfl) ?_
                    refine r_ci w (r_runS (As := [.int 5]) (rest := [.int 4, .int (μ 6 ce.toNatClampNeg)]) X w (kX7_rBy l E 5 ) ck_X7_59 ⟨Nat.le_of_ble_eq_true rfl, Nat.le_of_ble_eq_true rfl⟩ [] rfl (by decide +kernel) hl.1 (Nat.le_of_ble_eq_true rfl) rfl dX7_cornerOf_31 ⟨Nat.le_of_ble_eq_true rfl, Nat.le_of_ble_eq_true rfl⟩) (wMd E a μ sp) [] rfl (by decide +kernel) rfl rfl (fun H locs w => ?_)
                    refine lv_imul hx hb dX7_cornerOf_34 ?_
                    refine lv_icmp_ne (tgt := 40) hx hb dX7_cornerOf_35 (by decide) (fun c35_32 => ?_) (fun c35_32 => ?_)
                    · refine lv_iinc (v := 6) (lv' := [(2, .int 6), (0, .ref (a 0)), (1, .int ce)]) hx hb dX7_cornerOf_40 hl (k := 0) rfl (by first | rfl | decide) (by decide) rfl (fun ls hl => ?_)
                      refine lv_goto (tgt := 2) hx hb dX7_cornerOf_43 (by decide) ?_
                      refine lv_iload_n hx hb dX7_cornerOf_2 rfl (lv_at hl 0 rfl) ?_
                      refine lv_bipush (v := 6) hx hb dX7_cornerOf_3 (by decide) ?_
                      refine lv_icmp_ge (tgt := 46) hx hb dX7_cornerOf_5 (by decide) (fun _ => ?_) (fun h => absurd h (by decide))
                      refine lv_bipush (v := (-5)) hx hb dX7_cornerOf_46 (by decide) ?_
                      have hq : fX7_cornerOf μ sp ce = ((-5)) := by simp only [fX7_cornerOf, if_neg c20_1, if_neg c20_2, if_pos c20_3, if_neg c35_18, if_pos c20_19, if_neg c35_26, if_pos c20_27, if_neg c35_30, if_pos c20_31, if_neg c35_32]
                      rw [hq]
                      exact r_iret X w hr rfl dX7_cornerOf_48
                    · refine lv_iload_n hx hb dX7_cornerOf_38 rfl (lv_at hl 0 rfl) ?_
                      have hq : fX7_cornerOf μ sp ce = (5) := by simp only [fX7_cornerOf, if_neg c20_1, if_neg c20_2, if_pos c20_3, if_neg c35_18, if_pos c20_19, if_neg c35_26, if_pos c20_27, if_neg c35_30, if_pos c20_31, if_pos c35_32]
                      rw [hq]
                      exact r_iret X w hr rfl dX7_cornerOf_39
                · refine lv_iload_n hx hb dX7_cornerOf_38 rfl (lv_at hl 0 rfl) ?_
                  have hq : fX7_cornerOf μ sp ce = (4) := by simp only [fX7_cornerOf, if_neg c20_1, if_neg c20_2, if_pos c20_3, if_neg c35_18, if_pos c20_19, if_neg c35_26, if_pos c20_27, if_pos c35_30]
                  rw [hq]
                  exact r_iret X w hr rfl dX7_cornerOf_39
            · refine lv_iload_n hx hb dX7_cornerOf_38 rfl (lv_at hl 0 rfl) ?_
              have hq : fX7_cornerOf μ sp ce = (3) := by simp only [fX7_cornerOf, if_neg c20_1, if_neg c20_2, if_pos c20_3, if_neg c35_18, if_pos c20_19, if_pos c35_26]
              rw [hq]
              exact r_iret X w hr rfl dX7_cornerOf_39
        · refine lv_iload_n hx hb dX7_cornerOf_38 rfl (lv_at hl 0 rfl) ?_
          have hq : fX7_cornerOf μ sp ce = (2) := by simp only [fX7_cornerOf, if_neg c20_1, if_neg c20_2, if_pos c20_3, if_pos c35_18]
          rw [hq]
          exact r_iret X w hr rfl dX7_cornerOf_39
    · refine lv_aload_n hx hb dX7_cornerOf_23 rfl (lv_at hl 1 rfl) ?_
      refine r_get X w CL7 8 (by decide) wf_X7_28 0 rfl rfl dX7_cornerOf_24 ?_
      refine lv_iload_n hx hb dX7_cornerOf_27 rfl (lv_at hl 2 rfl) ?_
      refine r_iald X w 7 rfl hc dX7_cornerOf_28 ?_
      refine lv_iconst (v := 4) hx hb dX7_cornerOf_29 (by decide) ?_
      refine lv_iload_n hx hb dX7_cornerOf_30 rfl (lv_at hl 0 rfl) ?_
      refine r_ci w (r_runS (As := [.int 1]) (rest := [.int 4, .int (μ 6 ce.toNatClampNeg)]) X w (kX7_rBy l E 1 ) ck_X7_59 ⟨Nat.le_of_ble_eq_true rfl, Nat.le_of_ble_eq_true rfl⟩ [] rfl (by decide +kernel) hl.1 (Nat.le_of_ble_eq_true rfl) rfl dX7_cornerOf_31 ⟨Nat.le_of_ble_eq_true rfl, Nat.le_of_ble_eq_true rfl⟩) (wMd E a μ sp) [] rfl (by decide +kernel) rfl rfl (fun H locs w => ?_)
      refine lv_imul hx hb dX7_cornerOf_34 ?_
      refine lv_icmp_ne (tgt := 40) hx hb dX7_cornerOf_35 (by decide) (fun c35_33 => ?_) (fun c35_33 => ?_)
      · refine lv_iinc (v := 2) (lv' := [(2, .int 2), (0, .ref (a 0)), (1, .int ce)]) hx hb dX7_cornerOf_40 hl (k := 0) rfl (by first | rfl | decide) (by decide) rfl (fun ls hl => ?_)
        refine lv_goto (tgt := 2) hx hb dX7_cornerOf_43 (by decide) ?_
        refine lv_iload_n hx hb dX7_cornerOf_2 rfl (lv_at hl 0 rfl) ?_
        refine lv_bipush (v := 6) hx hb dX7_cornerOf_3 (by decide) ?_
        refine lv_icmp_ge (tgt := 46) hx hb dX7_cornerOf_5 (by decide) (fun h => absurd h (by decide)) (fun _ => ?_)
        refine lv_aload_n hx hb dX7_cornerOf_8 rfl (lv_at hl 1 rfl) ?_
        refine r_get X w CL7 7 (by decide) wf_X7_25 0 rfl rfl dX7_cornerOf_9 ?_
        refine lv_iload_n hx hb dX7_cornerOf_12 rfl (lv_at hl 2 rfl) ?_
        refine r_iald X w 6 rfl hc dX7_cornerOf_13 ?_
        refine lv_iconst (v := 4) hx hb dX7_cornerOf_14 (by decide) ?_
        refine lv_iload_n hx hb dX7_cornerOf_15 rfl (lv_at hl 0 rfl) ?_
        refine r_ci w (r_runS (As := [.int 2]) (rest := [.int 4, .int (μ 5 ce.toNatClampNeg)]) X w (kX7_qBy l E 2 ) ck_X7_55 ⟨Nat.le_of_ble_eq_true rfl, Nat.le_of_ble_eq_true rfl⟩ [] rfl (by decide +kernel) hl.1 (Nat.le_of_ble_eq_true rfl) rfl dX7_cornerOf_16 ⟨Nat.le_of_ble_eq_true rfl, Nat.le_of_ble_eq_true rfl⟩) (wMd E a μ sp) [] rfl (by decide +kernel) rfl rfl (fun H locs w => ?_)
        refine lv_imul hx hb dX7_cornerOf_19 ?_
        refine lv_icmp_ne (tgt := 40) hx hb dX7_cornerOf_20 (by decide) (fun c20_34 => ?_) (fun c20_34 => ?_)
        · refine lv_iinc (v := 3) (lv' := [(2, .int 3), (0, .ref (a 0)), (1, .int ce)]) hx hb dX7_cornerOf_40 hl (k := 0) rfl (by first | rfl | decide) (by decide) rfl (fun ls hl => ?_)
          refine lv_goto (tgt := 2) hx hb dX7_cornerOf_43 (by decide) ?_
          refine lv_iload_n hx hb dX7_cornerOf_2 rfl (lv_at hl 0 rfl) ?_
          refine lv_bipush (v := 6) hx hb dX7_cornerOf_3 (by decide) ?_
          refine lv_icmp_ge (tgt := 46) hx hb dX7_cornerOf_5 (by decide) (fun h => absurd h (by decide)) (fun _ => ?_)
          refine lv_aload_n hx hb dX7_cornerOf_8 rfl (lv_at hl 1 rfl) ?_
          refine r_get X w CL7 7 (by decide) wf_X7_25 0 rfl rfl dX7_cornerOf_9 ?_
          refine lv_iload_n hx hb dX7_cornerOf_12 rfl (lv_at hl 2 rfl) ?_
          refine r_iald X w 6 rfl hc dX7_cornerOf_13 ?_
          refine lv_iconst (v := 4) hx hb dX7_cornerOf_14 (by decide) ?_
          refine lv_iload_n hx hb dX7_cornerOf_15 rfl (lv_at hl 0 rfl) ?_
          refine r_ci w (r_runS (As := [.int 3]) (rest := [.int 4, .int (μ 5 ce.toNatClampNeg)]) X w (kX7_qBy l E 3 ) ck_X7_55 ⟨Nat.le_of_ble_eq_true rfl, Nat.le_of_ble_eq_true rfl⟩ [] rfl (by decide +kernel) hl.1 (Nat.le_of_ble_eq_true rfl) rfl dX7_cornerOf_16 ⟨Nat.le_of_ble_eq_true rfl, Nat.le_of_ble_eq_true rfl⟩) (wMd E a μ sp) [] rfl (by decide +kernel) rfl rfl (fun H locs w => ?_)
          refine lv_imul hx hb dX7_cornerOf_19 ?_
          refine lv_icmp_ne (tgt := 40) hx hb dX7_cornerOf_20 (by decide) (fun c20_35 => ?_) (fun c20_35 => ?_)
          · refine lv_iinc (v := 4) (lv' := [(2, .int 4), (0, .ref (a 0)), (1, .int ce)]) hx hb dX7_cornerOf_40 hl (k := 0) rfl (by first | rfl | decide) (by decide) rfl (fun ls hl => ?_)
            refine lv_goto (tgt := 2) hx hb dX7_cornerOf_43 (by decide) ?_
            refine lv_iload_n hx hb dX7_cornerOf_2 rfl (lv_at hl 0 rfl) ?_
            refine lv_bipush (v := 6) hx hb dX7_cornerOf_3 (by decide) ?_
            refine lv_icmp_ge (tgt := 46) hx hb dX7_cornerOf_5 (by decide) (fun h => absurd h (by decide)) (fun _ => ?_)
            refine lv_aload_n hx hb dX7_cornerOf_8 rfl (lv_at hl 1 rfl) ?_
            refine r_get X w CL7 7 (by decide) wf_X7_25 0 rfl rfl dX7_cornerOf_9 ?_
            refine lv_iload_n hx hb dX7_cornerOf_12 rfl (lv_at hl 2 rfl) ?_
            refine r_iald X w 6 rfl hc dX7_cornerOf_13 ?_
            refine lv_iconst (v := 4) hx hb dX7_cornerOf_14 (by decide) ?_
            refine lv_iload_n hx hb dX7_cornerOf_15 rfl (lv_at hl 0 rfl) ?_
            refine r_ci w (r_runS (As := [.int 4]) (rest := [.int 4, .int (μ 5 ce.toNatClampNeg)]) X w (kX7_qBy l E 4 ) ck_X7_55 ⟨Nat.le_of_ble_eq_true rfl, Nat.le_of_ble_eq_true rfl⟩ [] rfl (by decide +kernel) hl.1 (Nat.le_of_ble_eq_true rfl) rfl dX7_cornerOf_16 ⟨Nat.le_of_ble_eq_true rfl, Nat.le_of_ble_eq_true rfl⟩) (wMd E a μ sp) [] rfl (by decide +kernel) rfl rfl (fun H locs w => ?_)
            refine lv_imul hx hb dX7_cornerOf_19 ?_
            refine lv_icmp_ne (tgt := 40) hx hb dX7_cornerOf_20 (by decide) (fun c20_36 => ?_) (fun c20_36 => ?_)
            · refine lv_iinc (v := 5) (lv' := [(2, .int 5), (0, .ref (a 0)), (1, .int ce)]) hx hb dX7_cornerOf_40 hl (k := 0) rfl (by first | rfl | decide) (by decide) rfl (fun ls hl => ?_)
              refine lv_goto (tgt := 2) hx hb dX7_cornerOf_43 (by decide) ?_
              refine lv_iload_n hx hb dX7_cornerOf_2 rfl (lv_at hl 0 rfl) ?_
              refine lv_bipush (v := 6) hx hb dX7_cornerOf_3 (by decide) ?_
              refine lv_icmp_ge (tgt := 46) hx hb dX7_cornerOf_5 (by decide) (fun h => absurd h (by decide)) (fun _ => ?_)
              refine lv_aload_n hx hb dX7_cornerOf_8 rfl (lv_at hl 1 rfl) ?_
              refine r_get X w CL7 7 (by decide) wf_X7_25 0 rfl rfl dX7_cornerOf_9 ?_
              refine lv_iload_n hx hb dX7_cornerOf_12 rfl (lv_at hl 2 rfl) ?_
              refine r_iald X w 6 rfl hc dX7_cornerOf_13 ?_
              refine lv_iconst (v := 4) hx hb dX7_cornerOf_14 (by decide) ?_
              refine lv_iload_n hx hb dX7_cornerOf_15 rfl (lv_at hl 0 rfl) ?_
              refine r_ci w (r_runS (As := [.int 5]) (rest := [.int 4, .int (μ 5 ce.toNatClampNeg)]) X w (kX7_qBy l E 5 ) ck_X7_55 ⟨Nat.le_of_ble_eq_true rfl, Nat.le_of_ble_eq_true rfl⟩ [] rfl (by decide +kernel) hl.1 (Nat.le_of_ble_eq_true rfl) rfl dX7_cornerOf_16 ⟨Nat.le_of_ble_eq_true rfl, Nat.le_of_ble_eq_true rfl⟩) (wMd E a μ sp) [] rfl (by decide +kernel) rfl rfl (fun H locs w => ?_)
              refine lv_imul hx hb dX7_cornerOf_19 ?_
              refine lv_icmp_ne (tgt := 40) hx hb dX7_cornerOf_20 (by decide) (fun c20_37 => ?_) (fun c20_37 => ?_)
              · refine lv_iinc (v := 6) (lv' := [(2, .int 6), (0, .ref (a 0)), (1, .int ce)]) hx hb dX7_cornerOf_40 hl (k := 0) rfl (by first | rfl | decide) (by decide) rfl (fun ls hl => ?_)
                refine lv_goto (tgt := 2) hx hb dX7_cornerOf_43 (by decide) ?_
                refine lv_iload_n hx hb dX7_cornerOf_2 rfl (lv_at hl 0 rfl) ?_
                refine lv_bipush (v := 6) hx hb dX7_cornerOf_3 (by decide) ?_
                refine lv_icmp_ge (tgt := 46) hx hb dX7_cornerOf_5 (by decide) (fun _ => ?_) (fun h => absurd h (by decide))
                refine lv_bipush (v := (-5)) hx hb dX7_cornerOf_46 (by decide) ?_
                have hq : fX7_cornerOf μ sp ce = ((-5)) := by simp only [fX7_cornerOf, if_neg c20_1, if_pos c20_2, if_neg c35_33, if_neg c20_34, if_neg c20_35, if_neg c20_36, if_neg c20_37]
                rw [hq]
                exact r_iret X w hr rfl dX7_cornerOf_48
              · refine lv_aload_n hx hb dX7_cornerOf_23 rfl (lv_at hl 1 rfl) ?_
                refine r_get X w CL7 8 (by decide) wf_X7_28 0 rfl rfl dX7_cornerOf_24 ?_
                refine lv_iload_n hx hb dX7_cornerOf_27 rfl (lv_at hl 2 rfl) ?_
                refine r_iald X w 7 rfl hc dX7_cornerOf_28 ?_
                refine lv_iconst (v := 4) hx hb dX7_cornerOf_29 (by decide) ?_
                refine lv_iload_n hx hb dX7_cornerOf_30 rfl (lv_at hl 0 rfl) ?_
                refine r_ci w (r_runS (As := [.int 5]) (rest := [.int 4, .int (μ 6 ce.toNatClampNeg)]) X w (kX7_rBy l E 5 ) ck_X7_59 ⟨Nat.le_of_ble_eq_true rfl, Nat.le_of_ble_eq_true rfl⟩ [] rfl (by decide +kernel) hl.1 (Nat.le_of_ble_eq_true rfl) rfl dX7_cornerOf_31 ⟨Nat.le_of_ble_eq_true rfl, Nat.le_of_ble_eq_true rfl⟩) (wMd E a μ sp) [] rfl (by decide +kernel) rfl rfl (fun H locs w => ?_)
                refine lv_imul hx hb dX7_cornerOf_34 ?_
                refine lv_icmp_ne (tgt := 40) hx hb dX7_cornerOf_35 (by decide) (fun c35_38 => ?_) (fun c35_38 => ?_)
                · refine lv_iinc (v := 6) (lv' := [(2, .int 6), (0, .ref (a 0)), (1, .int ce)]) hx hb dX7_cornerOf_40 hl (k := 0) rfl (by first | rfl | decide) (by decide) rfl (fun ls hl => ?_)
                  refine lv_goto (tgt := 2) hx hb dX7_cornerOf_43 (by decide) ?_
                  refine lv_iload_n hx hb dX7_cornerOf_2 rfl (lv_at hl 0 rfl) ?_
                  refine lv_bipush (v := 6) hx hb dX7_cornerOf_3 (by decide) ?_
                  refine lv_icmp_ge (tgt := 46) hx hb dX7_cornerOf_5 (by decide) (fun _ => ?_) (fun h => absurd h (by decide))
                  refine lv_bipush (v := (-5)) hx hb dX7_cornerOf_46 (by decide) ?_
                  have hq : fX7_cornerOf μ sp ce = ((-5)) := by simp only [fX7_cornerOf, if_neg c20_1, if_pos c20_2, if_neg c35_33, if_neg c20_34, if_neg c20_35, if_neg c20_36, if_pos c20_37, if_neg c35_38]
                  rw [hq]
                  exact r_iret X w hr rfl dX7_cornerOf_48
                · refine lv_iload_n hx hb dX7_cornerOf_38 rfl (lv_at hl 0 rfl) ?_
                  have hq : fX7_cornerOf μ sp ce = (5) := by simp only [fX7_cornerOf, if_neg c20_1, if_pos c20_2, if_neg c35_33, if_neg c20_34, if_neg c20_35, if_neg c20_36, if_pos c20_37, if_pos c35_38]
                  rw [hq]
                  exact r_iret X w hr rfl dX7_cornerOf_39
            · refine lv_aload_n hx hb dX7_cornerOf_23 rfl (lv_at hl 1 rfl) ?_
              refine r_get X w CL7 8 (by decide) wf_X7_28 0 rfl rfl dX7_cornerOf_24 ?_
              refine lv_iload_n hx hb dX7_cornerOf_27 rfl (lv_at hl 2 rfl) ?_
              refine r_iald X w 7 rfl hc dX7_cornerOf_28 ?_
              refine lv_iconst (v := 4) hx hb dX7_cornerOf_29 (by decide) ?_
              refine lv_iload_n hx hb dX7_cornerOf_30 rfl (lv_at hl 0 rfl) ?_
              refine r_ci w (r_runS (As := [.int 4]) (rest := [.int 4, .int (μ 6 ce.toNatClampNeg)]) X w (kX7_rBy l E 4 ) ck_X7_59 ⟨Nat.le_of_ble_eq_true rfl, Nat.le_of_ble_eq_true rfl⟩ [] rfl (by decide +kernel) hl.1 (Nat.le_of_ble_eq_true rfl) rfl dX7_cornerOf_31 ⟨Nat.le_of_ble_eq_true rfl, Nat.le_of_ble_eq_true rfl⟩) (wMd E a μ sp) [] rfl (by decide +kernel) rfl rfl (fun H locs w => ?_)
              refine lv_imul hx hb dX7_cornerOf_34 ?_
              refine lv_icmp_ne (tgt := 40) hx hb dX7_cornerOf_35 (by decide) (fun c35_39 => ?_) (fun c35_39 => ?_)
              · refine lv_iinc (v := 5) (lv' := [(2, .int 5), (0, .ref (a 0)), (1, .int ce)]) hx hb dX7_cornerOf_40 hl (k := 0) rfl (by first | rfl | decide) (by decide) rfl (fun ls hl => ?_)
                refine lv_goto (tgt := 2) hx hb dX7_cornerOf_43 (by decide) ?_
                refine lv_iload_n hx hb dX7_cornerOf_2 rfl (lv_at hl 0 rfl) ?_
                refine lv_bipush (v := 6) hx hb dX7_cornerOf_3 (by decide) ?_
                refine lv_icmp_ge (tgt := 46) hx hb dX7_cornerOf_5 (by decide) (fun h => absurd h (by decide)) (fun _ => ?_)
                refine lv_aload_n hx hb dX7_cornerOf_8 rfl (lv_at hl 1 rfl) ?_
                refine r_get X w CL7 7 (by decide) wf_X7_25 0 rfl rfl dX7_cornerOf_9 ?_
                refine lv_iload_n hx hb dX7_cornerOf_12 rfl (lv_at hl 2 rfl) ?_
                refine r_iald X w 6 rfl hc dX7_cornerOf_13 ?_
                refine lv_iconst (v := 4) hx hb dX7_cornerOf_14 (by decide) ?_
                refine lv_iload_n hx hb dX7_cornerOf_15 rfl (lv_at hl 0 rfl) ?_
                refine r_ci w (r_runS (As := [.int 5]) (rest := [.int 4, .int (μ 5 ce.toNatClampNeg)]) X w (kX7_qBy l E 5 ) ck_X7_55 ⟨Nat.le_of_ble_eq_true rfl, Nat.le_of_ble_eq_true rfl⟩ [] rfl (by decide +kernel) hl.1 (Nat.le_of_ble_eq_true rfl) rfl dX7_cornerOf_16 ⟨Nat.le_of_ble_eq_true rfl, Nat.le_of_ble_eq_true rfl⟩) (wMd E a μ sp) [] rfl (by decide +kernel) rfl rfl (fun H locs w => ?_)
                refine lv_imul hx hb dX7_cornerOf_19 ?_
                refine lv_icmp_ne (tgt := 40) hx hb dX7_cornerOf_20 (by decide) (fun c20_40 => ?_) (fun c20_40 => ?_)
                · refine lv_iinc (v := 6) (lv' := [(2, .int 6), (0, .ref (a 0)), (1, .int ce)]) hx hb dX7_cornerOf_40 hl (k := 0) rfl (by first | rfl | decide) (by decide) rfl (fun ls hl => ?_)
                  refine lv_goto (tgt := 2) hx hb dX7_cornerOf_43 (by decide) ?_
                  refine lv_iload_n hx hb dX7_cornerOf_2 rfl (lv_at hl 0 rfl) ?_
                  refine lv_bipush (v := 6) hx hb dX7_cornerOf_3 (by decide) ?_
                  refine lv_icmp_ge (tgt := 46) hx hb dX7_cornerOf_5 (by decide) (fun _ => ?_) (fun h => absurd h (by decide))
                  refine lv_bipush (v := (-5)) hx hb dX7_cornerOf_46 (by decide) ?_
                  have hq : fX7_cornerOf μ sp ce = ((-5)) := by simp only [fX7_cornerOf, if_neg c20_1, if_pos c20_2, if_neg c35_33, if_neg c20_34, if_neg c20_35, if_pos c20_36, if_neg c35_39, if_neg c20_40]
                  rw [hq]
                  exact r_iret X w hr rfl dX7_cornerOf_48
                · refine lv_aload_n hx hb dX7_cornerOf_23 rfl (lv_at hl 1 rfl) ?_
                  refine r_get X w CL7 8 (by decide) wf_X7_28 0 rfl rfl dX7_cornerOf_24 ?_
                  refine lv_iload_n hx hb dX7_cornerOf_27 rfl (lv_at hl 2 rfl) ?_
                  refine r_iald X w 7 rfl hc dX7_cornerOf_28 ?_
                  refine lv_iconst (v := 4) hx hb dX7_cornerOf_29 (by decide) ?_
                  refine lv_iload_n hx hb dX7_cornerOf_30 rfl (lv_at hl 0 rfl) ?_
                  refine r_ci w (r_runS (As := [.int 5]) (rest := [.int 4, .int (μ 6 ce.toNatClampNeg)]) X w (kX7_rBy l E 5 ) ck_X7_59 ⟨Nat.le_of_ble_eq_true rfl, Nat.le_of_ble_eq_true rfl⟩ [] rfl (by decide +kernel) hl.1 (Nat.le_of_ble_eq_true rfl) rfl dX7_cornerOf_31 ⟨Nat.le_of_ble_eq_true rfl, Nat.le_of_ble_eq_true rfl⟩) (wMd E a μ sp) [] rfl (by decide +kernel) rfl rfl (fun H locs w => ?_)
                  refine lv_imul hx hb dX7_cornerOf_34 ?_
                  refine lv_icmp_ne (tgt := 40) hx hb dX7_cornerOf_35 (by decide) (fun c35_41 => ?_) (fun c35_41 => ?_)
                  · refine lv_iinc (v := 6) (lv' := [(2, .int 6), (0, .ref (a 0)), (1, .int ce)]) hx hb dX7_cornerOf_40 hl (k := 0) rfl (by first | rfl | decide) (by decide) rfl (fun ls hl => ?_)
                    refine lv_goto (tgt := 2) hx hb dX7_cornerOf_43 (by decide) ?_
                    refine lv_iload_n hx hb dX7_cornerOf_2 rfl (lv_at hl 0 rfl) ?_
                    refine lv_bipush (v := 6) hx hb dX7_cornerOf_3 (by decide) ?_
                    refine lv_icmp_ge (tgt := 46) hx hb dX7_cornerOf_5 (by decide) (fun _ => ?_) (fun h => absurd h (by decide))
                    refine lv_bipush (v := (-5)) hx hb dX7_cornerOf_46 (by decide) ?_
                    have hq : fX7_cornerOf μ sp ce = ((-5)) := by simp only [fX7_cornerOf, if_neg c20_1, if_pos c20_2, if_neg c35_33, if_neg c20_34, if_neg c20_35, if_pos c20_36, if_neg c35_39, if_pos c20_40, if_neg c35_41]
                    rw [hq]
                    exact r_iret X w hr rfl dX7_cornerOf_48
                  · refine lv_iload_n hx hb dX7_cornerOf_38 rfl (lv_at hl 0 rfl) ?_
                    have hq : fX7_cornerOf μ sp ce = (5) := by simp only [fX7_cornerOf, if_neg c20_1, if_pos c20_2, if_neg c35_33, if_neg c20_34, if_neg c20_35, if_pos c20_36, if_neg c35_39, if_pos c20_40, if_pos c35_41]
                    rw [hq]
                    exact r_iret X w hr rfl dX7_cornerOf_39
              · refine lv_iload_n hx hb dX7_cornerOf_38 rfl (lv_at hl 0 rfl) ?_
                have hq : fX7_cornerOf μ sp ce = (4) := by simp only [fX7_cornerOf, if_neg c20_1, if_pos c20_2, if_neg c35_33, if_neg c20_34, if_neg c20_35, if_pos c20_36, if_pos c35_39]
                rw [hq]
                exact r_iret X w hr rfl dX7_cornerOf_39
          · refine lv_aload_n hx hb dX7_cornerOf_23 rfl (lv_at hl 1 rfl) ?_
            refine r_get X w CL7 8 (by decide) wf_X7_28 0 rfl rfl dX7_cornerOf_24 ?_
            refine lv_iload_n hx hb dX7_cornerOf_27 rfl (lv_at hl 2 rfl) ?_
            refine r_iald X w 7 rfl hc dX7_cornerOf_28 ?_
            refine lv_iconst (v := 4) hx hb dX7_cornerOf_29 (by decide) ?_
            refine lv_iload_n hx hb dX7_cornerOf_30 rfl (lv_at hl 0 rfl) ?_
            refine r_ci w (r_runS (As := [.int 3]) (rest := [.int 4, .int (μ 6 ce.toNatClampNeg)]) X w (kX7_rBy l E 3 ) ck_X7_59 ⟨Nat.le_of_ble_eq_true rfl, Nat.le_of_ble_eq_true rfl⟩ [] rfl (by decide +kernel) hl.1 (Nat.le_of_ble_eq_true rfl) rfl dX7_cornerOf_31 ⟨Nat.le_of_ble_eq_true rfl, Nat.le_of_ble_eq_true rfl⟩) (wMd E a μ sp) [] rfl (by decide +kernel) rfl rfl (fun H locs w => ?_)
            refine lv_imul hx hb dX7_cornerOf_34 ?_
            refine lv_icmp_ne (tgt := 40) hx hb dX7_cornerOf_35 (by decide) (fun c35_42 => ?_) (fun c35_42 => ?_)
            · refine lv_iinc (v := 4) (lv' := [(2, .int 4), (0, .ref (a 0)), (1, .int ce)]) hx hb dX7_cornerOf_40 hl (k := 0) rfl (by first | rfl | decide) (by decide) rfl (fun ls hl => ?_)
              refine lv_goto (tgt := 2) hx hb dX7_cornerOf_43 (by decide) ?_
              refine lv_iload_n hx hb dX7_cornerOf_2 rfl (lv_at hl 0 rfl) ?_
              refine lv_bipush (v := 6) hx hb dX7_cornerOf_3 (by decide) ?_
              refine lv_icmp_ge (tgt := 46) hx hb dX7_cornerOf_5 (by decide) (fun h => absurd h (by decide)) (fun _ => ?_)
              refine lv_aload_n hx hb dX7_cornerOf_8 rfl (lv_at hl 1 rfl) ?_
              refine r_get X w CL7 7 (by decide) wf_X7_25 0 rfl rfl dX7_cornerOf_9 ?_
              refine lv_iload_n hx hb dX7_cornerOf_12 rfl (lv_at hl 2 rfl) ?_
              refine r_iald X w 6 rfl hc dX7_cornerOf_13 ?_
              refine lv_iconst (v := 4) hx hb dX7_cornerOf_14 (by decide) ?_
              refine lv_iload_n hx hb dX7_cornerOf_15 rfl (lv_at hl 0 rfl) ?_
              refine r_ci w (r_runS (As := [.int 4]) (rest := [.int 4, .int (μ 5 ce.toNatClampNeg)]) X w (kX7_qBy l E 4 ) ck_X7_55 ⟨Nat.le_of_ble_eq_true rfl, Nat.le_of_ble_eq_true rfl⟩ [] rfl (by decide +kernel) hl.1 (Nat.le_of_ble_eq_true rfl) rfl dX7_cornerOf_16 ⟨Nat.le_of_ble_eq_true rfl, Nat.le_of_ble_eq_true rfl⟩) (wMd E a μ sp) [] rfl (by decide +kernel) rfl rfl (fun H locs w => ?_)
              refine lv_imul hx hb dX7_cornerOf_19 ?_
              refine lv_icmp_ne (tgt := 40) hx hb dX7_cornerOf_20 (by decide) (fun c20_43 => ?_) (fun c20_43 => ?_)
              · refine lv_iinc (v := 5) (lv' := [(2, .int 5), (0, .ref (a 0)), (1, .int ce)]) hx hb dX7_cornerOf_40 hl (k := 0) rfl (by first | rfl | decide) (by decide) rfl (fun ls hl => ?_)
                refine lv_goto (tgt := 2) hx hb dX7_cornerOf_43 (by decide) ?_
                refine lv_iload_n hx hb dX7_cornerOf_2 rfl (lv_at hl 0 rfl) ?_
                refine lv_bipush (v := 6) hx hb dX7_cornerOf_3 (by decide) ?_
                refine lv_icmp_ge (tgt := 46) hx hb dX7_cornerOf_5 (by decide) (fun h => absurd h (by decide)) (fun _ => ?_)
                refine lv_aload_n hx hb dX7_cornerOf_8 rfl (lv_at hl 1 rfl) ?_
                refine r_get X w CL7 7 (by decide) wf_X7_25 0 rfl rfl dX7_cornerOf_9 ?_
                refine lv_iload_n hx hb dX7_cornerOf_12 rfl (lv_at hl 2 rfl) ?_
                refine r_iald X w 6 rfl hc dX7_cornerOf_13 ?_
                refine lv_iconst (v := 4) hx hb dX7_cornerOf_14 (by decide) ?_
                refine lv_iload_n hx hb dX7_cornerOf_15 rfl (lv_at hl 0 rfl) ?_
                refine r_ci w (r_runS (As := [.int 5]) (rest := [.int 4, .int (μ 5 ce.toNatClampNeg)]) X w (kX7_qBy l E 5 ) ck_X7_55 ⟨Nat.le_of_ble_eq_true rfl, Nat.le_of_ble_eq_true rfl⟩ [] rfl (by decide +kernel) hl.1 (Nat.le_of_ble_eq_true rfl) rfl dX7_cornerOf_16 ⟨Nat.le_of_ble_eq_true rfl, Nat.le_of_ble_eq_true rfl⟩) (wMd E a μ sp) [] rfl (by decide +kernel) rfl rfl (fun H locs w => ?_)
                refine lv_imul hx hb dX7_cornerOf_19 ?_
                refine lv_icmp_ne (tgt := 40) hx hb dX7_cornerOf_20 (by decide) (fun c20_44 => ?_) (fun c20_44 => ?_)
                · refine lv_iinc (v := 6) (lv' := [(2, .int 6), (0, .ref (a 0)), (1, .int ce)]) hx hb dX7_cornerOf_40 hl (k := 0) rfl (by first | rfl | decide) (by decide) rfl (fun ls hl => ?_)
                  refine lv_goto (tgt := 2) hx hb dX7_cornerOf_43 (by decide) ?_
                  refine lv_iload_n hx hb dX7_cornerOf_2 rfl (lv_at hl 0 rfl) ?_
                  refine lv_bipush (v := 6) hx hb dX7_cornerOf_3 (by decide) ?_
                  refine lv_icmp_ge (tgt := 46) hx hb dX7_cornerOf_5 (by decide) (fun _ => ?_) (fun h => absurd h (by decide))
                  refine lv_bipush (v := (-5)) hx hb dX7_cornerOf_46 (by decide) ?_
                  have hq : fX7_cornerOf μ sp ce = ((-5)) := by simp only [fX7_cornerOf, if_neg c20_1, if_pos c20_2, if_neg c35_33, if_neg c20_34, if_pos c20_35, if_neg c35_42, if_neg c20_43, if_neg c20_44]
                  rw [hq]
                  exact r_iret X w hr rfl dX7_cornerOf_48
                · refine lv_aload_n hx hb dX7_cornerOf_23 rfl (lv_at hl 1 rfl) ?_
                  refine r_get X w CL7 8 (by decide) wf_X7_28 0 rfl rfl dX7_cornerOf_24 ?_
                  refine lv_iload_n hx hb dX7_cornerOf_27 rfl (lv_at hl 2 rfl) ?_
                  refine r_iald X w 7 rfl hc dX7_cornerOf_28 ?_
                  refine lv_iconst (v := 4) hx hb dX7_cornerOf_29 (by decide) ?_
                  refine lv_iload_n hx hb dX7_cornerOf_30 rfl (lv_at hl 0 rfl) ?_
                  refine r_ci w (r_runS (As := [.int 5]) (rest := [.int 4, .int (μ 6 ce.toNatClampNeg)]) X w (kX7_rBy l E 5 ) ck_X7_59 ⟨Nat.le_of_ble_eq_true rfl, Nat.le_of_ble_eq_true rfl⟩ [] rfl (by decide +kernel) hl.1 (Nat.le_of_ble_eq_true rfl) rfl dX7_cornerOf_31 ⟨Nat.le_of_ble_eq_true rfl, Nat.le_of_ble_eq_true rfl⟩) (wMd E a μ sp) [] rfl (by decide +kernel) rfl rfl (fun H locs w => ?_)
                  refine lv_imul hx hb dX7_cornerOf_34 ?_
                  refine lv_icmp_ne (tgt := 40) hx hb dX7_cornerOf_35 (by decide) (fun c35_45 => ?_) (fun c35_45 => ?_)
                  · refine lv_iinc (v := 6) (lv' := [(2, .int 6), (0, .ref (a 0)), (1, .int ce)]) hx hb dX7_cornerOf_40 hl (k := 0) rfl (by first | rfl | decide) (by decide) rfl (fun ls hl => ?_)
                    refine lv_goto (tgt := 2) hx hb dX7_cornerOf_43 (by decide) ?_
                    refine lv_iload_n hx hb dX7_cornerOf_2 rfl (lv_at hl 0 rfl) ?_
                    refine lv_bipush (v := 6) hx hb dX7_cornerOf_3 (by decide) ?_
                    refine lv_icmp_ge (tgt := 46) hx hb dX7_cornerOf_5 (by decide) (fun _ => ?_) (fun h => absurd h (by decide))
                    refine lv_bipush (v := (-5)) hx hb dX7_cornerOf_46 (by decide) ?_
                    have hq : fX7_cornerOf μ sp ce = ((-5)) := by simp only [fX7_cornerOf, if_neg c20_1, if_pos c20_2, if_neg c35_33, if_neg c20_34, if_pos c20_35, if_neg c35_42, if_neg c20_43, if_pos c20_44, if_neg c35_45]
                    rw [hq]
                    exact r_iret X w hr rfl dX7_cornerOf_48
                  · refine lv_iload_n hx hb dX7_cornerOf_38 rfl (lv_at hl 0 rfl) ?_
                    have hq : fX7_cornerOf μ sp ce = (5) := by simp only [fX7_cornerOf, if_neg c20_1, if_pos c20_2, if_neg c35_33, if_neg c20_34, if_pos c20_35, if_neg c35_42, if_neg c20_43, if_pos c20_44, if_pos c35_45]
                    rw [hq]
                    exact r_iret X w hr rfl dX7_cornerOf_39
              · refine lv_aload_n hx hb dX7_cornerOf_23 rfl (lv_at hl 1 rfl) ?_
                refine r_get X w CL7 8 (by decide) wf_X7_28 0 rfl rfl dX7_cornerOf_24 ?_
                refine lv_iload_n hx hb dX7_cornerOf_27 rfl (lv_at hl 2 rfl) ?_
                refine r_iald X w 7 rfl hc dX7_cornerOf_28 ?_
                refine lv_iconst (v := 4) hx hb dX7_cornerOf_29 (by decide) ?_
                refine lv_iload_n hx hb dX7_cornerOf_30 rfl (lv_at hl 0 rfl) ?_
                refine r_ci w (r_runS (As := [.int 4]) (rest := [.int 4, .int (μ 6 ce.toNatClampNeg)]) X w (kX7_rBy l E 4 ) ck_X7_59 ⟨Nat.le_of_ble_eq_true rfl, Nat.le_of_ble_eq_true rfl⟩ [] rfl (by decide +kernel) hl.1 (Nat.le_of_ble_eq_true rfl) rfl dX7_cornerOf_31 ⟨Nat.le_of_ble_eq_true rfl, Nat.le_of_ble_eq_true rfl⟩) (wMd E a μ sp) [] rfl (by decide +kernel) rfl rfl (fun H locs w => ?_)
                refine lv_imul hx hb dX7_cornerOf_34 ?_
                refine lv_icmp_ne (tgt := 40) hx hb dX7_cornerOf_35 (by decide) (fun c35_46 => ?_) (fun c35_46 => ?_)
                · refine lv_iinc (v := 5) (lv' := [(2, .int 5), (0, .ref (a 0)), (1, .int ce)]) hx hb dX7_cornerOf_40 hl (k := 0) rfl (by first | rfl | decide) (by decide) rfl (fun ls hl => ?_)
                  refine lv_goto (tgt := 2) hx hb dX7_cornerOf_43 (by decide) ?_
                  refine lv_iload_n hx hb dX7_cornerOf_2 rfl (lv_at hl 0 rfl) ?_
                  refine lv_bipush (v := 6) hx hb dX7_cornerOf_3 (by decide) ?_
                  refine lv_icmp_ge (tgt := 46) hx hb dX7_cornerOf_5 (by decide) (fun h => absurd h (by decide)) (fun _ => ?_)
                  refine lv_aload_n hx hb dX7_cornerOf_8 rfl (lv_at hl 1 rfl) ?_
                  refine r_get X w CL7 7 (by decide) wf_X7_25 0 rfl rfl dX7_cornerOf_9 ?_
                  refine lv_iload_n hx hb dX7_cornerOf_12 rfl (lv_at hl 2 rfl) ?_
                  refine r_iald X w 6 rfl hc dX7_cornerOf_13 ?_
                  refine lv_iconst (v := 4) hx hb dX7_cornerOf_14 (by decide) ?_
                  refine lv_iload_n hx hb dX7_cornerOf_15 rfl (lv_at hl 0 rfl) ?_
                  refine r_ci w (r_runS (As := [.int 5]) (rest := [.int 4, .int (μ 5 ce.toNatClampNeg)]) X w (kX7_qBy l E 5 ) ck_X7_55 ⟨Nat.le_of_ble_eq_true rfl, Nat.le_of_ble_eq_true rfl⟩ [] rfl (by decide +kernel) hl.1 (Nat.le_of_ble_eq_true rfl) rfl dX7_cornerOf_16 ⟨Nat.le_of_ble_eq_true rfl, Nat.le_of_ble_eq_true rfl⟩) (wMd E a μ sp) [] rfl (by decide +kernel) rfl rfl (fun H locs w => ?_)
                  refine lv_imul hx hb dX7_cornerOf_19 ?_
                  refine lv_icmp_ne (tgt := 40) hx hb dX7_cornerOf_20 (by decide) (fun c20_47 => ?_) (fun c20_47 => ?_)
                  · refine lv_iinc (v := 6) (lv' := [(2, .int 6), (0, .ref (a 0)), (1, .int ce)]) hx hb dX7_cornerOf_40 hl (k := 0) rfl (by first | rfl | decide) (by decide) rfl (fun ls hl => ?_)
                    refine lv_goto (tgt := 2) hx hb dX7_cornerOf_43 (by decide) ?_
                    refine lv_iload_n hx hb dX7_cornerOf_2 rfl (lv_at hl 0 rfl) ?_
                    refine lv_bipush (v := 6) hx hb dX7_cornerOf_3 (by decide) ?_
                    refine lv_icmp_ge (tgt := 46) hx hb dX7_cornerOf_5 (by decide) (fun _ => ?_) (fun h => absurd h (by decide))
                    refine lv_bipush (v := (-5)) hx hb dX7_cornerOf_46 (by decide) ?_
                    have hq : fX7_cornerOf μ sp ce = ((-5)) := by simp only [fX7_cornerOf, if_neg c20_1, if_pos c20_2, if_neg c35_33, if_neg c20_34, if_pos c20_35, if_neg c35_42, if_pos c20_43, if_neg c35_46, if_neg c20_47]
                    rw [hq]
                    exact r_iret X w hr rfl dX7_cornerOf_48
                  · refine lv_aload_n hx hb dX7_cornerOf_23 rfl (lv_at hl 1 rfl) ?_
                    refine r_get X w CL7 8 (by decide) wf_X7_28 0 rfl rfl dX7_cornerOf_24 ?_
                    refine lv_iload_n hx hb dX7_cornerOf_27 rfl (lv_at hl 2 rfl) ?_
                    refine r_iald X w 7 rfl hc dX7_cornerOf_28 ?_
                    refine lv_iconst (v := 4) hx hb dX7_cornerOf_29 (by decide) ?_
                    refine lv_iload_n hx hb dX7_cornerOf_30 rfl (lv_at hl 0 rfl) ?_
                    refine r_ci w (r_runS (As := [.int 5]) (rest := [.int 4, .int (μ 6 ce.toNatClampNeg)]) X w (kX7_rBy l E 5 ) ck_X7_59 ⟨Nat.le_of_ble_eq_true rfl, Nat.le_of_ble_eq_true rfl⟩ [] rfl (by decide +kernel) hl.1 (Nat.le_of_ble_eq_true rfl) rfl dX7_cornerOf_31 ⟨Nat.le_of_ble_eq_true rfl, Nat.le_of_ble_eq_true rfl⟩) (wMd E a μ sp) [] rfl (by decide +kernel) rfl rfl (fun H locs w => ?_)
                    refine lv_imul hx hb dX7_cornerOf_34 ?_
                    refine lv_icmp_ne (tgt := 40) hx hb dX7_cornerOf_35 (by decide) (fun c35_48 => ?_) (fun c35_48 => ?_)
                    · refine lv_iinc (v := 6) (lv' := [(2, .int 6), (0, .ref (a 0)), (1, .int ce)]) hx hb dX7_cornerOf_40 hl (k := 0) rfl (by first | rfl | decide) (by decide) rfl (fun ls hl => ?_)
                      refine lv_goto (tgt := 2) hx hb dX7_cornerOf_43 (by decide) ?_
                      refine lv_iload_n hx hb dX7_cornerOf_2 rfl (lv_at hl 0 rfl) ?_
                      refine lv_bipush (v := 6) hx hb dX7_cornerOf_3 (by decide) ?_
                      refine lv_icmp_ge (tgt := 46) hx hb dX7_cornerOf_5 (by decide) (fun _ => ?_) (fun h => absurd h (by decide))
                      refine lv_bipush (v := (-5)) hx hb dX7_cornerOf_46 (by decide) ?_
                      have hq : fX7_cornerOf μ sp ce = ((-5)) := by simp only [fX7_cornerOf, if_neg c20_1, if_pos c20_2, if_neg c35_33, if_neg c20_34, if_pos c20_35, if_neg c35_42, if_pos c20_43, if_neg c35_46, if_pos c20_47, if_neg c35_48]
                      rw [hq]
                      exact r_iret X w hr rfl dX7_cornerOf_48
                    · refine lv_iload_n hx hb dX7_cornerOf_38 rfl (lv_at hl 0 rfl) ?_
                      have hq : fX7_cornerOf μ sp ce = (5) := by simp only [fX7_cornerOf, if_neg c20_1, if_pos c20_2, if_neg c35_33, if_neg c20_34, if_pos c20_35, if_neg c35_42, if_pos c20_43, if_neg c35_46, if_pos c20_47, if_pos c35_48]
                      rw [hq]
                      exact r_iret X w hr rfl dX7_cornerOf_39
                · refine lv_iload_n hx hb dX7_cornerOf_38 rfl (lv_at hl 0 rfl) ?_
                  have hq : fX7_cornerOf μ sp ce = (4) := by simp only [fX7_cornerOf, if_neg c20_1, if_pos c20_2, if_neg c35_33, if_neg c20_34, if_pos c20_35, if_neg c35_42, if_pos c20_43, if_pos c35_46]
                  rw [hq]
                  exact r_iret X w hr rfl dX7_cornerOf_39
            · refine lv_iload_n hx hb dX7_cornerOf_38 rfl (lv_at hl 0 rfl) ?_
              have hq : fX7_cornerOf μ sp ce = (3) := by simp only [fX7_cornerOf, if_neg c20_1, if_pos c20_2, if_neg c35_33, if_neg c20_34, if_pos c20_35, if_pos c35_42]
              rw [hq]
              exact r_iret X w hr rfl dX7_cornerOf_39
        · refine lv_aload_n hx hb dX7_cornerOf_23 rfl (lv_at hl 1 rfl) ?_
          refine r_get X w CL7 8 (by decide) wf_X7_28 0 rfl rfl dX7_cornerOf_24 ?_
          refine lv_iload_n hx hb dX7_cornerOf_27 rfl (lv_at hl 2 rfl) ?_
          refine r_iald X w 7 rfl hc dX7_cornerOf_28 ?_
          refine lv_iconst (v := 4) hx hb dX7_cornerOf_29 (by decide) ?_
          refine lv_iload_n hx hb dX7_cornerOf_30 rfl (lv_at hl 0 rfl) ?_
          refine r_ci w (r_runS (As := [.int 2]) (rest := [.int 4, .int (μ 6 ce.toNatClampNeg)]) X w (kX7_rBy l E 2 ) ck_X7_59 ⟨Nat.le_of_ble_eq_true rfl, Nat.le_of_ble_eq_true rfl⟩ [] rfl (by decide +kernel) hl.1 (Nat.le_of_ble_eq_true rfl) rfl dX7_cornerOf_31 ⟨Nat.le_of_ble_eq_true rfl, Nat.le_of_ble_eq_true rfl⟩) (wMd E a μ sp) [] rfl (by decide +kernel) rfl rfl (fun H locs w => ?_)
          refine lv_imul hx hb dX7_cornerOf_34 ?_
          refine lv_icmp_ne (tgt := 40) hx hb dX7_cornerOf_35 (by decide) (fun c35_49 => ?_) (fun c35_49 => ?_)
          · refine lv_iinc (v := 3) (lv' := [(2, .int 3), (0, .ref (a 0)), (1, .int ce)]) hx hb dX7_cornerOf_40 hl (k := 0) rfl (by first | rfl | decide) (by decide) rfl (fun ls hl => ?_)
            refine lv_goto (tgt := 2) hx hb dX7_cornerOf_43 (by decide) ?_
            refine lv_iload_n hx hb dX7_cornerOf_2 rfl (lv_at hl 0 rfl) ?_
            refine lv_bipush (v := 6) hx hb dX7_cornerOf_3 (by decide) ?_
            refine lv_icmp_ge (tgt := 46) hx hb dX7_cornerOf_5 (by decide) (fun h => absurd h (by decide)) (fun _ => ?_)
            refine lv_aload_n hx hb dX7_cornerOf_8 rfl (lv_at hl 1 rfl) ?_
            refine r_get X w CL7 7 (by decide) wf_X7_25 0 rfl rfl dX7_cornerOf_9 ?_
            refine lv_iload_n hx hb dX7_cornerOf_12 rfl (lv_at hl 2 rfl) ?_
            refine r_iald X w 6 rfl hc dX7_cornerOf_13 ?_
            refine lv_iconst (v := 4) hx hb dX7_cornerOf_14 (by decide) ?_
            refine lv_iload_n hx hb dX7_cornerOf_15 rfl (lv_at hl 0 rfl) ?_
            refine r_ci w (r_runS (As := [.int 3]) (rest := [.int 4, .int (μ 5 ce.toNatClampNeg)]) X w (kX7_qBy l E 3 ) ck_X7_55 ⟨Nat.le_of_ble_eq_true rfl, Nat.le_of_ble_eq_true rfl⟩ [] rfl (by decide +kernel) hl.1 (Nat.le_of_ble_eq_true rfl) rfl dX7_cornerOf_16 ⟨Nat.le_of_ble_eq_true rfl, Nat.le_of_ble_eq_true rfl⟩) (wMd E a μ sp) [] rfl (by decide +kernel) rfl rfl (fun H locs w => ?_)
            refine lv_imul hx hb dX7_cornerOf_19 ?_
            refine lv_icmp_ne (tgt := 40) hx hb dX7_cornerOf_20 (by decide) (fun c20_50 => ?_) (fun c20_50 => ?_)
            · refine lv_iinc (v := 4) (lv' := [(2, .int 4), (0, .ref (a 0)), (1, .int ce)]) hx hb dX7_cornerOf_40 hl (k := 0) rfl (by first | rfl | decide) (by decide) rfl (fun ls hl => ?_)
              refine lv_goto (tgt := 2) hx hb dX7_cornerOf_43 (by decide) ?_
              refine lv_iload_n hx hb dX7_cornerOf_2 rfl (lv_at hl 0 rfl) ?_
              refine lv_bipush (v := 6) hx hb dX7_cornerOf_3 (by decide) ?_
              refine lv_icmp_ge (tgt := 46) hx hb dX7_cornerOf_5 (by decide) (fun h => absurd h (by decide)) (fun _ => ?_)
              refine lv_aload_n hx hb dX7_cornerOf_8 rfl (lv_at hl 1 rfl) ?_
              refine r_get X w CL7 7 (by decide) wf_X7_25 0 rfl rfl dX7_cornerOf_9 ?_
              refine lv_iload_n hx hb dX7_cornerOf_12 rfl (lv_at hl 2 rfl) ?_
              refine r_iald X w 6 rfl hc dX7_cornerOf_13 ?_
              refine lv_iconst (v := 4) hx hb dX7_cornerOf_14 (by decide) ?_
              refine lv_iload_n hx hb dX7_cornerOf_15 rfl (lv_at hl 0 rfl) ?_
              refine r_ci w (r_runS (As := [.int 4]) (rest := [.int 4, .int (μ 5 ce.toNatClampNeg)]) X w (kX7_qBy l E 4 ) ck_X7_55 ⟨Nat.le_of_ble_eq_true rfl, Nat.le_of_ble_eq_true rfl⟩ [] rfl (by decide +kernel) hl.1 (Nat.le_of_ble_eq_true rfl) rfl dX7_cornerOf_16 ⟨Nat.le_of_ble_eq_true rfl, Nat.le_of_ble_eq_true rfl⟩) (wMd E a μ sp) [] rfl (by decide +kernel) rfl rfl (fun H locs w => ?_)
              refine lv_imul hx hb dX7_cornerOf_19 ?_
              refine lv_icmp_ne (tgt := 40) hx hb dX7_cornerOf_20 (by decide) (fun c20_51 => ?_) (fun c20_51 => ?_)
              · refine lv_iinc (v := 5) (lv' := [(2, .int 5), (0, .ref (a 0)), (1, .int ce)]) hx hb dX7_cornerOf_40 hl (k := 0) rfl (by first | rfl | decide) (by decide) rfl (fun ls hl => ?_)
                refine lv_goto (tgt := 2) hx hb dX7_cornerOf_43 (by decide) ?_
                refine lv_iload_n hx hb dX7_cornerOf_2 rfl (lv_at hl 0 rfl) ?_
                refine lv_bipush (v := 6) hx hb dX7_cornerOf_3 (by decide) ?_
                refine lv_icmp_ge (tgt := 46) hx hb dX7_cornerOf_5 (by decide) (fun h => absurd h (by decide)) (fun _ => ?_)
                refine lv_aload_n hx hb dX7_cornerOf_8 rfl (lv_at hl 1 rfl) ?_
                refine r_get X w CL7 7 (by decide) wf_X7_25 0 rfl rfl dX7_cornerOf_9 ?_
                refine lv_iload_n hx hb dX7_cornerOf_12 rfl (lv_at hl 2 rfl) ?_
                refine r_iald X w 6 rfl hc dX7_cornerOf_13 ?_
                refine lv_iconst (v := 4) hx hb dX7_cornerOf_14 (by decide) ?_
                refine lv_iload_n hx hb dX7_cornerOf_15 rfl (lv_at hl 0 rfl) ?_
                refine r_ci w (r_runS (As := [.int 5]) (rest := [.int 4, .int (μ 5 ce.toNatClampNeg)]) X w (kX7_qBy l E 5 ) ck_X7_55 ⟨Nat.le_of_ble_eq_true rfl, Nat.le_of_ble_eq_true rfl⟩ [] rfl (by decide +kernel) hl.1 (Nat.le_of_ble_eq_true rfl) rfl dX7_cornerOf_16 ⟨Nat.le_of_ble_eq_true rfl, Nat.le_of_ble_eq_true rfl⟩) (wMd E a μ sp) [] rfl (by decide +kernel) rfl rfl (fun H locs w => ?_)
                refine lv_imul hx hb dX7_cornerOf_19 ?_
                refine lv_icmp_ne (tgt := 40) hx hb dX7_cornerOf_20 (by decide) (fun c20_52 => ?_) (fun c20_52 => ?_)
                · refine lv_iinc (v := 6) (lv' := [(2, .int 6), (0, .ref (a 0)), (1, .int ce)]) hx hb dX7_cornerOf_40 hl (k := 0) rfl (by first | rfl | decide) (by decide) rfl (fun ls hl => ?_)
                  refine lv_goto (tgt := 2) hx hb dX7_cornerOf_43 (by decide) ?_
                  refine lv_iload_n hx hb dX7_cornerOf_2 rfl (lv_at hl 0 rfl) ?_
                  refine lv_bipush (v := 6) hx hb dX7_cornerOf_3 (by decide) ?_
                  refine lv_icmp_ge (tgt := 46) hx hb dX7_cornerOf_5 (by decide) (fun _ => ?_) (fun h => absurd h (by decide))
                  refine lv_bipush (v := (-5)) hx hb dX7_cornerOf_46 (by decide) ?_
                  have hq : fX7_cornerOf μ sp ce = ((-5)) := by simp only [fX7_cornerOf, if_neg c20_1, if_pos c20_2, if_neg c35_33, if_pos c20_34, if_neg c35_49, if_neg c20_50, if_neg c20_51, if_neg c20_52]
                  rw [hq]
                  exact r_iret X w hr rfl dX7_cornerOf_48
                · refine lv_aload_n hx hb dX7_cornerOf_23 rfl (lv_at hl 1 rfl) ?_
                  refine r_get X w CL7 8 (by decide) wf_X7_28 0 rfl rfl dX7_cornerOf_24 ?_
                  refine lv_iload_n hx hb dX7_cornerOf_27 rfl (lv_at hl 2 rfl) ?_
                  refine r_iald X w 7 rfl hc dX7_cornerOf_28 ?_
                  refine lv_iconst (v := 4) hx hb dX7_cornerOf_29 (by decide) ?_
                  refine lv_iload_n hx hb dX7_cornerOf_30 rfl (lv_at hl 0 rfl) ?_
                  refine r_ci w (r_runS (As := [.int 5]) (rest := [.int 4, .int (μ 6 ce.toNatClampNeg)]) X w (kX7_rBy l E 5 ) ck_X7_59 ⟨Nat.le_of_ble_eq_true rfl, Nat.le_of_ble_eq_true rfl⟩ [] rfl (by decide +kernel) hl.1 (Nat.le_of_ble_eq_true rfl) rfl dX7_cornerOf_31 ⟨Nat.le_of_ble_eq_true rfl, Nat.le_of_ble_eq_true rfl⟩) (wMd E a μ sp) [] rfl (by decide +kernel) rfl rfl (fun H locs w => ?_)
                  refine lv_imul hx hb dX7_cornerOf_34 ?_
                  refine lv_icmp_ne (tgt := 40) hx hb dX7_cornerOf_35 (by decide) (fun c35_53 => ?_) (fun c35_53 => ?_)
                  · refine lv_iinc (v := 6) (lv' := [(2, .int 6), (0, .ref (a 0)), (1, .int ce)]) hx hb dX7_cornerOf_40 hl (k := 0) rfl (by first | rfl | decide) (by decide) rfl (fun ls hl => ?_)
                    refine lv_goto (tgt := 2) hx hb dX7_cornerOf_43 (by decide) ?_
                    refine lv_iload_n hx hb dX7_cornerOf_2 rfl (lv_at hl 0 rfl) ?_
                    refine lv_bipush (v := 6) hx hb dX7_cornerOf_3 (by decide) ?_
                    refine lv_icmp_ge (tgt := 46) hx hb dX7_cornerOf_5 (by decide) (fun _ => ?_) (fun h => absurd h (by decide))
                    refine lv_bipush (v := (-5)) hx hb dX7_cornerOf_46 (by decide) ?_
                    have hq : fX7_cornerOf μ sp ce = ((-5)) := by simp only [fX7_cornerOf, if_neg c20_1, if_pos c20_2, if_neg c35_33, if_pos c20_34, if_neg c35_49, if_neg c20_50, if_neg c20_51, if_pos c20_52, if_neg c35_53]
                    rw [hq]
                    exact r_iret X w hr rfl dX7_cornerOf_48
                  · refine lv_iload_n hx hb dX7_cornerOf_38 rfl (lv_at hl 0 rfl) ?_
                    have hq : fX7_cornerOf μ sp ce = (5) := by simp only [fX7_cornerOf, if_neg c20_1, if_pos c20_2, if_neg c35_33, if_pos c20_34, if_neg c35_49, if_neg c20_50, if_neg c20_51, if_pos c20_52, if_pos c35_53]
                    rw [hq]
                    exact r_iret X w hr rfl dX7_cornerOf_39
              · refine lv_aload_n hx hb dX7_cornerOf_23 rfl (lv_at hl 1 rfl) ?_
                refine r_get X w CL7 8 (by decide) wf_X7_28 0 rfl rfl dX7_cornerOf_24 ?_
                refine lv_iload_n hx hb dX7_cornerOf_27 rfl (lv_at hl 2 rfl) ?_
                refine r_iald X w 7 rfl hc dX7_cornerOf_28 ?_
                refine lv_iconst (v := 4) hx hb dX7_cornerOf_29 (by decide) ?_
                refine lv_iload_n hx hb dX7_cornerOf_30 rfl (lv_at hl 0 rfl) ?_
                refine r_ci w (r_runS (As := [.int 4]) (rest := [.int 4, .int (μ 6 ce.toNatClampNeg)]) X w (kX7_rBy l E 4 ) ck_X7_59 ⟨Nat.le_of_ble_eq_true rfl, Nat.le_of_ble_eq_true rfl⟩ [] rfl (by decide +kernel) hl.1 (Nat.le_of_ble_eq_true rfl) rfl dX7_cornerOf_31 ⟨Nat.le_of_ble_eq_true rfl, Nat.le_of_ble_eq_true rfl⟩) (wMd E a μ sp) [] rfl (by decide +kernel) rfl rfl (fun H locs w => ?_)
                refine lv_imul hx hb dX7_cornerOf_34 ?_
                refine lv_icmp_ne (tgt := 40) hx hb dX7_cornerOf_35 (by decide) (fun c35_54 => ?_) (fun c35_54 => ?_)
                · refine lv_iinc (v := 5) (lv' := [(2, .int 5), (0, .ref (a 0)), (1, .int ce)]) hx hb dX7_cornerOf_40 hl (k := 0) rfl (by first | rfl | decide) (by decide) rfl (fun ls hl => ?_)
                  refine lv_goto (tgt := 2) hx hb dX7_cornerOf_43 (by decide) ?_
                  refine lv_iload_n hx hb dX7_cornerOf_2 rfl (lv_at hl 0 rfl) ?_
                  refine lv_bipush (v := 6) hx hb dX7_cornerOf_3 (by decide) ?_
                  refine lv_icmp_ge (tgt := 46) hx hb dX7_cornerOf_5 (by decide) (fun h => absurd h (by decide)) (fun _ => ?_)
                  refine lv_aload_n hx hb dX7_cornerOf_8 rfl (lv_at hl 1 rfl) ?_
                  refine r_get X w CL7 7 (by decide) wf_X7_25 0 rfl rfl dX7_cornerOf_9 ?_
                  refine lv_iload_n hx hb dX7_cornerOf_12 rfl (lv_at hl 2 rfl) ?_
                  refine r_iald X w 6 rfl hc dX7_cornerOf_13 ?_
                  refine lv_iconst (v := 4) hx hb dX7_cornerOf_14 (by decide) ?_
                  refine lv_iload_n hx hb dX7_cornerOf_15 rfl (lv_at hl 0 rfl) ?_
                  refine r_ci w (r_runS (As := [.int 5]) (rest := [.int 4, .int (μ 5 ce.toNatClampNeg)]) X w (kX7_qBy l E 5 ) ck_X7_55 ⟨Nat.le_of_ble_eq_true rfl, Nat.le_of_ble_eq_true rfl⟩ [] rfl (by decide +kernel) hl.1 (Nat.le_of_ble_eq_true rfl) rfl dX7_cornerOf_16 ⟨Nat.le_of_ble_eq_true rfl, Nat.le_of_ble_eq_true rfl⟩) (wMd E a μ sp) [] rfl (by decide +kernel) rfl rfl (fun H locs w => ?_)
                  refine lv_imul hx hb dX7_cornerOf_19 ?_
                  refine lv_icmp_ne (tgt := 40) hx hb dX7_cornerOf_20 (by decide) (fun c20_55 => ?_) (fun c20_55 => ?_)
                  · refine lv_iinc (v := 6) (lv' := [(2, .int 6), (0, .ref (a 0)), (1, .int ce)]) hx hb dX7_cornerOf_40 hl (k := 0) rfl (by first | rfl | decide) (by decide) rfl (fun ls hl => ?_)
                    refine lv_goto (tgt := 2) hx hb dX7_cornerOf_43 (by decide) ?_
                    refine lv_iload_n hx hb dX7_cornerOf_2 rfl (lv_at hl 0 rfl) ?_
                    refine lv_bipush (v := 6) hx hb dX7_cornerOf_3 (by decide) ?_
                    refine lv_icmp_ge (tgt := 46) hx hb dX7_cornerOf_5 (by decide) (fun _ => ?_) (fun h => absurd h (by decide))
                    refine lv_bipush (v := (-5)) hx hb dX7_cornerOf_46 (by decide) ?_
                    have hq : fX7_cornerOf μ sp ce = ((-5)) := by simp only [fX7_cornerOf, if_neg c20_1, if_pos c20_2, if_neg c35_33, if_pos c20_34, if_neg c35_49, if_neg c20_50, if_pos c20_51, if_neg c35_54, if_neg c20_55]
                    rw [hq]
                    exact r_iret X w hr rfl dX7_cornerOf_48
                  · refine lv_aload_n hx hb dX7_cornerOf_23 rfl (lv_at hl 1 rfl) ?_
                    refine r_get X w CL7 8 (by decide) wf_X7_28 0 rfl rfl dX7_cornerOf_24 ?_
                    refine lv_iload_n hx hb dX7_cornerOf_27 rfl (lv_at hl 2 rfl) ?_
                    refine r_iald X w 7 rfl hc dX7_cornerOf_28 ?_
                    refine lv_iconst (v := 4) hx hb dX7_cornerOf_29 (by decide) ?_
                    refine lv_iload_n hx hb dX7_cornerOf_30 rfl (lv_at hl 0 rfl) ?_
                    refine r_ci w (r_runS (As := [.int 5]) (rest := [.int 4, .int (μ 6 ce.toNatClampNeg)]) X w (kX7_rBy l E 5 ) ck_X7_59 ⟨Nat.le_of_ble_eq_true rfl, Nat.le_of_ble_eq_true rfl⟩ [] rfl (by decide +kernel) hl.1 (Nat.le_of_ble_eq_true rfl) rfl dX7_cornerOf_31 ⟨Nat.le_of_ble_eq_true rfl, Nat.le_of_ble_eq_true rfl⟩) (wMd E a μ sp) [] rfl (by decide +kernel) rfl rfl (fun H locs w => ?_)
                    refine lv_imul hx hb dX7_cornerOf_34 ?_
                    refine lv_icmp_ne (tgt := 40) hx hb dX7_cornerOf_35 (by decide) (fun c35_56 => ?_) (fun c35_56 => ?_)
                    · refine lv_iinc (v := 6) (lv' := [(2, .int 6), (0, .ref (a 0)), (1, .int ce)]) hx hb dX7_cornerOf_40 hl (k := 0) rfl (by first | rfl | decide) (by decide) rfl (fun ls hl => ?_)
                      refine lv_goto (tgt := 2) hx hb dX7_cornerOf_43 (by decide) ?_
                      refine lv_iload_n hx hb dX7_cornerOf_2 rfl (lv_at hl 0 rfl) ?_
                      refine lv_bipush (v := 6) hx hb dX7_cornerOf_3 (by decide) ?_
                      refine lv_icmp_ge (tgt := 46) hx hb dX7_cornerOf_5 (by decide) (fun _ => ?_) (fun h => absurd h (by decide))
                      refine lv_bipush (v := (-5)) hx hb dX7_cornerOf_46 (by decide) ?_
                      have hq : fX7_cornerOf μ sp ce = ((-5)) := by simp only [fX7_cornerOf, if_neg c20_1, if_pos c20_2, if_neg c35_33, if_pos c20_34, if_neg c35_49, if_neg c20_50, if_pos c20_51, if_neg c35_54, if_pos c20_55, if_neg c35_56]
                      rw [hq]
                      exact r_iret X w hr rfl dX7_cornerOf_48
                    · refine lv_iload_n hx hb dX7_cornerOf_38 rfl (lv_at hl 0 rfl) ?_
                      have hq : fX7_cornerOf μ sp ce = (5) := by simp only [fX7_cornerOf, if_neg c20_1, if_pos c20_2, if_neg c35_33, if_pos c20_34, if_neg c35_49, if_neg c20_50, if_pos c20_51, if_neg c35_54, if_pos c20_55, if_pos c35_56]
                      rw [hq]
                      exact r_iret X w hr rfl dX7_cornerOf_39
                · refine lv_iload_n hx hb dX7_cornerOf_38 rfl (lv_at hl 0 rfl) ?_
                  have hq : fX7_cornerOf μ sp ce = (4) := by simp only [fX7_cornerOf, if_neg c20_1, if_pos c20_2, if_neg c35_33, if_pos c20_34, if_neg c35_49, if_neg c20_50, if_pos c20_51, if_pos c35_54]
                  rw [hq]
                  exact r_iret X w hr rfl dX7_cornerOf_39
            · refine lv_aload_n hx hb dX7_cornerOf_23 rfl (lv_at hl 1 rfl) ?_
              refine r_get X w CL7 8 (by decide) wf_X7_28 0 rfl rfl dX7_cornerOf_24 ?_
              refine lv_iload_n hx hb dX7_cornerOf_27 rfl (lv_at hl 2 rfl) ?_
              refine r_iald X w 7 rfl hc dX7_cornerOf_28 ?_
              refine lv_iconst (v := 4) hx hb dX7_cornerOf_29 (by decide) ?_
              refine lv_iload_n hx hb dX7_cornerOf_30 rfl (lv_at hl 0 rfl) ?_
              refine r_ci w (r_runS (As := [.int 3]) (rest := [.int 4, .int (μ 6 ce.toNatClampNeg)]) X w (kX7_rBy l E 3 ) ck_X7_59 ⟨Nat.le_of_ble_eq_true rfl, Nat.le_of_ble_eq_true rfl⟩ [] rfl (by decide +kernel) hl.1 (Nat.le_of_ble_eq_true rfl) rfl dX7_cornerOf_31 ⟨Nat.le_of_ble_eq_true rfl, Nat.le_of_ble_eq_true rfl⟩) (wMd E a μ sp) [] rfl (by decide +kernel) rfl rfl (fun H locs w => ?_)
              refine lv_imul hx hb dX7_cornerOf_34 ?_
              refine lv_icmp_ne (tgt := 40) hx hb dX7_cornerOf_35 (by decide) (fun c35_57 => ?_) (fun c35_57 => ?_)
              · refine lv_iinc (v := 4) (lv' := [(2, .int 4), (0, .ref (a 0)), (1, .int ce)]) hx hb dX7_cornerOf_40 hl (k := 0) rfl (by first | rfl | decide) (by decide) rfl (fun ls hl => ?_)
                refine lv_goto (tgt := 2) hx hb dX7_cornerOf_43 (by decide) ?_
                refine lv_iload_n hx hb dX7_cornerOf_2 rfl (lv_at hl 0 rfl) ?_
                refine lv_bipush (v := 6) hx hb dX7_cornerOf_3 (by decide) ?_
                refine lv_icmp_ge (tgt := 46) hx hb dX7_cornerOf_5 (by decide) (fun h => absurd h (by decide)) (fun _ => ?_)
                refine lv_aload_n hx hb dX7_cornerOf_8 rfl (lv_at hl 1 rfl) ?_
                refine r_get X w CL7 7 (by decide) wf_X7_25 0 rfl rfl dX7_cornerOf_9 ?_
                refine lv_iload_n hx hb dX7_cornerOf_12 rfl (lv_at hl 2 rfl) ?_
                refine r_iald X w 6 rfl hc dX7_cornerOf_13 ?_
                refine lv_iconst (v := 4) hx hb dX7_cornerOf_14 (by decide) ?_
                refine lv_iload_n hx hb dX7_cornerOf_15 rfl (lv_at hl 0 rfl) ?_
                refine r_ci w (r_runS (As := [.int 4]) (rest := [.int 4, .int (μ 5 ce.toNatClampNeg)]) X w (kX7_qBy l E 4 ) ck_X7_55 ⟨Nat.le_of_ble_eq_true rfl, Nat.le_of_ble_eq_true rfl⟩ [] rfl (by decide +kernel) hl.1 (Nat.le_of_ble_eq_true rfl) rfl dX7_cornerOf_16 ⟨Nat.le_of_ble_eq_true rfl, Nat.le_of_ble_eq_true rfl⟩) (wMd E a μ sp) [] rfl (by decide +kernel) rfl rfl (fun H locs w => ?_)
                refine lv_imul hx hb dX7_cornerOf_19 ?_
                refine lv_icmp_ne (tgt := 40) hx hb dX7_cornerOf_20 (by decide) (fun c20_58 => ?_) (fun c20_58 => ?_)
                · refine lv_iinc (v := 5) (lv' := [(2, .int 5), (0, .ref (a 0)), (1, .int ce)]) hx hb dX7_cornerOf_40 hl (k := 0) rfl (by first | rfl | decide) (by decide) rfl (fun ls hl => ?_)
                  refine lv_goto (tgt := 2) hx hb dX7_cornerOf_43 (by decide) ?_
                  refine lv_iload_n hx hb dX7_cornerOf_2 rfl (lv_at hl 0 rfl) ?_
                  refine lv_bipush (v := 6) hx hb dX7_cornerOf_3 (by decide) ?_
                  refine lv_icmp_ge (tgt := 46) hx hb dX7_cornerOf_5 (by decide) (fun h => absurd h (by decide)) (fun _ => ?_)
                  refine lv_aload_n hx hb dX7_cornerOf_8 rfl (lv_at hl 1 rfl) ?_
                  refine r_get X w CL7 7 (by decide) wf_X7_25 0 rfl rfl dX7_cornerOf_9 ?_
                  refine lv_iload_n hx hb dX7_cornerOf_12 rfl (lv_at hl 2 rfl) ?_
                  refine r_iald X w 6 rfl hc dX7_cornerOf_13 ?_
                  refine lv_iconst (v := 4) hx hb dX7_cornerOf_14 (by decide) ?_
                  refine lv_iload_n hx hb dX7_cornerOf_15 rfl (lv_at hl 0 rfl) ?_
                  refine r_ci w (r_runS (As := [.int 5]) (rest := [.int 4, .int (μ 5 ce.toNatClampNeg)]) X w (kX7_qBy l E 5 ) ck_X7_55 ⟨Nat.le_of_ble_eq_true rfl, Nat.le_of_ble_eq_true rfl⟩ [] rfl (by decide +kernel) hl.1 (Nat.le_of_ble_eq_true rfl) rfl dX7_cornerOf_16 ⟨Nat.le_of_ble_eq_true rfl, Nat.le_of_ble_eq_true rfl⟩) (wMd E a μ sp) [] rfl (by decide +kernel) rfl rfl (fun H locs w => ?_)
                  refine lv_imul hx hb dX7_cornerOf_19 ?_
                  refine lv_icmp_ne (tgt := 40) hx hb dX7_cornerOf_20 (by decide) (fun c20_59 => ?_) (fun c20_59 => ?_)
                  · refine lv_iinc (v := 6) (lv' := [(2, .int 6), (0, .ref (a 0)), (1, .int ce)]) hx hb dX7_cornerOf_40 hl (k := 0) rfl (by first | rfl | decide) (by decide) rfl (fun ls hl => ?_)
                    refine lv_goto (tgt := 2) hx hb dX7_cornerOf_43 (by decide) ?_
                    refine lv_iload_n hx hb dX7_cornerOf_2 rfl (lv_at hl 0 rfl) ?_
                    refine lv_bipush (v := 6) hx hb dX7_cornerOf_3 (by decide) ?_
                    refine lv_icmp_ge (tgt := 46) hx hb dX7_cornerOf_5 (by decide) (fun _ => ?_) (fun h => absurd h (by decide))
                    refine lv_bipush (v := (-5)) hx hb dX7_cornerOf_46 (by decide) ?_
                    have hq : fX7_cornerOf μ sp ce = ((-5)) := by simp only [fX7_cornerOf, if_neg c20_1, if_pos c20_2, if_neg c35_33, if_pos c20_34, if_neg c35_49, if_pos c20_50, if_neg c35_57, if_neg c20_58, if_neg c20_59]
                    rw [hq]
                    exact r_iret X w hr rfl dX7_cornerOf_48
                  · refine lv_aload_n hx hb dX7_cornerOf_23 rfl (lv_at hl 1 rfl) ?_
                    refine r_get X w CL7 8 (by decide) wf_X7_28 0 rfl rfl dX7_cornerOf_24 ?_
                    refine lv_iload_n hx hb dX7_cornerOf_27 rfl (lv_at hl 2 rfl) ?_
                    refine r_iald X w 7 rfl hc dX7_cornerOf_28 ?_
                    refine lv_iconst (v := 4) hx hb dX7_cornerOf_29 (by decide) ?_
                    refine lv_iload_n hx hb dX7_cornerOf_30 rfl (lv_at hl 0 rfl) ?_
                    refine r_ci w (r_runS (As := [.int 5]) (rest := [.int 4, .int (μ 6 ce.toNatClampNeg)]) X w (kX7_rBy l E 5 ) ck_X7_59 ⟨Nat.le_of_ble_eq_true rfl, Nat.le_of_ble_eq_true rfl⟩ [] rfl (by decide +kernel) hl.1 (Nat.le_of_ble_eq_true rfl) rfl dX7_cornerOf_31 ⟨Nat.le_of_ble_eq_true rfl, Nat.le_of_ble_eq_true rfl⟩) (wMd E a μ sp) [] rfl (by decide +kernel) rfl rfl (fun H locs w => ?_)
                    refine lv_imul hx hb dX7_cornerOf_34 ?_
                    refine lv_icmp_ne (tgt := 40) hx hb dX7_cornerOf_35 (by decide) (fun c35_60 => ?_) (fun c35_60 => ?_)
                    · refine lv_iinc (v := 6) (lv' := [(2, .int 6), (0, .ref (a 0)), (1, .int ce)]) hx hb dX7_cornerOf_40 hl (k := 0) rfl (by first | rfl | decide) (by decide) rfl (fun ls hl => ?_)
                      refine lv_goto (tgt := 2) hx hb dX7_cornerOf_43 (by decide) ?_
                      refine lv_iload_n hx hb dX7_cornerOf_2 rfl (lv_at hl 0 rfl) ?_
                      refine lv_bipush (v := 6) hx hb dX7_cornerOf_3 (by decide) ?_
                      refine lv_icmp_ge (tgt := 46) hx hb dX7_cornerOf_5 (by decide) (fun _ => ?_) (fun h => absurd h (by decide))
                      refine lv_bipush (v := (-5)) hx hb dX7_cornerOf_46 (by decide) ?_
                      have hq : fX7_cornerOf μ sp ce = ((-5)) := by simp only [fX7_cornerOf, if_neg c20_1, if_pos c20_2, if_neg c35_33, if_pos c20_34, if_neg c35_49, if_pos c20_50, if_neg c35_57, if_neg c20_58, if_pos c20_59, if_neg c35_60]
                      rw [hq]
                      exact r_iret X w hr rfl dX7_cornerOf_48
                    · refine lv_iload_n hx hb dX7_cornerOf_38 rfl (lv_at hl 0 rfl) ?_
                      have hq : fX7_cornerOf μ sp ce = (5) := by simp only [fX7_cornerOf, if_neg c20_1, if_pos c20_2, if_neg c35_33, if_pos c20_34, if_neg c35_49, if_pos c20_50, if_neg c35_57, if_neg c20_58, if_pos c20_59, if_pos c35_60]
                      rw [hq]
                      exact r_iret X w hr rfl dX7_cornerOf_39
                · refine lv_aload_n hx hb dX7_cornerOf_23 rfl (lv_at hl 1 rfl) ?_
                  refine r_get X w CL7 8 (by decide) wf_X7_28 0 rfl rfl dX7_cornerOf_24 ?_
                  refine lv_iload_n hx hb dX7_cornerOf_27 rfl (lv_at hl 2 rfl) ?_
                  refine r_iald X w 7 rfl hc dX7_cornerOf_28 ?_
                  refine lv_iconst (v := 4) hx hb dX7_cornerOf_29 (by decide) ?_
                  refine lv_iload_n hx hb dX7_cornerOf_30 rfl (lv_at hl 0 rfl) ?_
                  refine r_ci w (r_runS (As := [.int 4]) (rest := [.int 4, .int (μ 6 ce.toNatClampNeg)]) X w (kX7_rBy l E 4 ) ck_X7_59 ⟨Nat.le_of_ble_eq_true rfl, Nat.le_of_ble_eq_true rfl⟩ [] rfl (by decide +kernel) hl.1 (Nat.le_of_ble_eq_true rfl) rfl dX7_cornerOf_31 ⟨Nat.le_of_ble_eq_true rfl, Nat.le_of_ble_eq_true rfl⟩) (wMd E a μ sp) [] rfl (by decide +kernel) rfl rfl (fun H locs w => ?_)
                  refine lv_imul hx hb dX7_cornerOf_34 ?_
                  refine lv_icmp_ne (tgt := 40) hx hb dX7_cornerOf_35 (by decide) (fun c35_61 => ?_) (fun c35_61 => ?_)
                  · refine lv_iinc (v := 5) (lv' := [(2, .int 5), (0, .ref (a 0)), (1, .int ce)]) hx hb dX7_cornerOf_40 hl (k := 0) rfl (by first | rfl | decide) (by decide) rfl (fun ls hl => ?_)
                    refine lv_goto (tgt := 2) hx hb dX7_cornerOf_43 (by decide) ?_
                    refine lv_iload_n hx hb dX7_cornerOf_2 rfl (lv_at hl 0 rfl) ?_
                    refine lv_bipush (v := 6) hx hb dX7_cornerOf_3 (by decide) ?_
                    refine lv_icmp_ge (tgt := 46) hx hb dX7_cornerOf_5 (by decide) (fun h => absurd h (by decide)) (fun _ => ?_)
                    refine lv_aload_n hx hb dX7_cornerOf_8 rfl (lv_at hl 1 rfl) ?_
                    refine r_get X w CL7 7 (by decide) wf_X7_25 0 rfl rfl dX7_cornerOf_9 ?_
                    refine lv_iload_n hx hb dX7_cornerOf_12 rfl (lv_at hl 2 rfl) ?_
                    refine r_iald X w 6 rfl hc dX7_cornerOf_13 ?_
                    refine lv_iconst (v := 4) hx hb dX7_cornerOf_14 (by decide) ?_
                    refine lv_iload_n hx hb dX7_cornerOf_15 rfl (lv_at hl 0 rfl) ?_
                    refine r_ci w (r_runS (As := [.int 5]) (rest := [.int 4, .int (μ 5 ce.toNatClampNeg)]) X w (kX7_qBy l E 5 ) ck_X7_55 ⟨Nat.le_of_ble_eq_true rfl, Nat.le_of_ble_eq_true rfl⟩ [] rfl (by decide +kernel) hl.1 (Nat.le_of_ble_eq_true rfl) rfl dX7_cornerOf_16 ⟨Nat.le_of_ble_eq_true rfl, Nat.le_of_ble_eq_true rfl⟩) (wMd E a μ sp) [] rfl (by decide +kernel) rfl rfl (fun H locs w => ?_)
                    refine lv_imul hx hb dX7_cornerOf_19 ?_
                    refine lv_icmp_ne (tgt := 40) hx hb dX7_cornerOf_20 (by decide) (fun c20_62 => ?_) (fun c20_62 => ?_)
                    · refine lv_iinc (v := 6) (lv' := [(2, .int 6), (0, .ref (a 0)), (1, .int ce)]) hx hb dX7_cornerOf_40 hl (k := 0) rfl (by first | rfl | decide) (by decide) rfl (fun ls hl => ?_)
                      refine lv_goto (tgt := 2) hx hb dX7_cornerOf_43 (by decide) ?_
                      refine lv_iload_n hx hb dX7_cornerOf_2 rfl (lv_at hl 0 rfl) ?_
                      refine lv_bipush (v := 6) hx hb dX7_cornerOf_3 (by decide) ?_
                      refine lv_icmp_ge (tgt := 46) hx hb dX7_cornerOf_5 (by decide) (fun _ => ?_) (fun h => absurd h (by decide))
                      refine lv_bipush (v := (-5)) hx hb dX7_cornerOf_46 (by decide) ?_
                      have hq : fX7_cornerOf μ sp ce = ((-5)) := by simp only [fX7_cornerOf, if_neg c20_1, if_pos c20_2, if_neg c35_33, if_pos c20_34, if_neg c35_49, if_pos c20_50, if_neg c35_57, if_pos c20_58, if_neg c35_61, if_neg c20_62]
                      rw [hq]
                      exact r_iret X w hr rfl dX7_cornerOf_48
                    · refine lv_aload_n hx hb dX7_cornerOf_23 rfl (lv_at hl 1 rfl) ?_
                      refine r_get X w CL7 8 (by decide) wf_X7_28 0 rfl rfl dX7_cornerOf_24 ?_
                      refine lv_iload_n hx hb dX7_cornerOf_27 rfl (lv_at hl 2 rfl) ?_
                      refine r_iald X w 7 rfl hc dX7_cornerOf_28 ?_
                      refine lv_iconst (v := 4) hx hb dX7_cornerOf_29 (by decide) ?_
                      refine lv_iload_n hx hb dX7_cornerOf_30 rfl (lv_at hl 0 rfl) ?_
                      refine r_ci w (r_runS (As := [.int 5]) (rest := [.int 4, .int (μ 6 ce.toNatClampNeg)]) X w (kX7_rBy l E 5 ) ck_X7_59 ⟨Nat.le_of_ble_eq_true rfl, Nat.le_of_ble_eq_true rfl⟩ [] rfl (by decide +kernel) hl.1 (Nat.le_of_ble_eq_true rfl) rfl dX7_cornerOf_31 ⟨Nat.le_of_ble_eq_true rfl, Nat.le_of_ble_eq_true rfl⟩) (wMd E a μ sp) [] rfl (by decide +kernel) rfl rfl (fun H locs w => ?_)
                      refine lv_imul hx hb dX7_cornerOf_34 ?_
                      refine lv_icmp_ne (tgt := 40) hx hb dX7_cornerOf_35 (by decide) (fun c35_63 => ?_) (fun c35_63 => ?_)
                      · refine lv_iinc (v := 6) (lv' := [(2, .int 6), (0, .ref (a 0)), (1, .int ce)]) hx hb dX7_cornerOf_40 hl (k := 0) rfl (by first | rfl | decide) (by decide) rfl (fun ls hl => ?_)
                        refine lv_goto (tgt := 2) hx hb dX7_cornerOf_43 (by decide) ?_
                        refine lv_iload_n hx hb dX7_cornerOf_2 rfl (lv_at hl 0 rfl) ?_
                        refine lv_bipush (v := 6) hx hb dX7_cornerOf_3 (by decide) ?_
                        refine lv_icmp_ge (tgt := 46) hx hb dX7_cornerOf_5 (by decide) (fun _ => ?_) (fun h => absurd h (by decide))
                        refine lv_bipush (v := (-5)) hx hb dX7_cornerOf_46 (by decide) ?_
                        have hq : fX7_cornerOf μ sp ce = ((-5)) := by simp only [fX7_cornerOf, if_neg c20_1, if_pos c20_2, if_neg c35_33, if_pos c20_34, if_neg c35_49, if_pos c20_50, if_neg c35_57, if_pos c20_58, if_neg c35_61, if_pos c20_62, if_neg c35_63]
                        rw [hq]
                        exact r_iret X w hr rfl dX7_cornerOf_48
                      · refine lv_iload_n hx hb dX7_cornerOf_38 rfl (lv_at hl 0 rfl) ?_
                        have hq : fX7_cornerOf μ sp ce = (5) := by simp only [fX7_cornerOf, if_neg c20_1, if_pos c20_2, if_neg c35_33, if_pos c20_34, if_neg c35_49, if_pos c20_50, if_neg c35_57, if_pos c20_58, if_neg c35_61, if_pos c20_62, if_pos c35_63]
                        rw [hq]
                        exact r_iret X w hr rfl dX7_cornerOf_39
                  · refine lv_iload_n hx hb dX7_cornerOf_38 rfl (lv_at hl 0 rfl) ?_
                    have hq : fX7_cornerOf μ sp ce = (4) := by simp only [fX7_cornerOf, if_neg c20_1, if_pos c20_2, if_neg c35_33, if_pos c20_34, if_neg c35_49, if_pos c20_50, if_neg c35_57, if_pos c20_58, if_pos c35_61]
                    rw [hq]
                    exact r_iret X w hr rfl dX7_cornerOf_39
              · refine lv_iload_n hx hb dX7_cornerOf_38 rfl (lv_at hl 0 rfl) ?_
                have hq : fX7_cornerOf μ sp ce = (3) := by simp only [fX7_cornerOf, if_neg c20_1, if_pos c20_2, if_neg c35_33, if_pos c20_34, if_neg c35_49, if_pos c20_50, if_pos c35_57]
                rw [hq]
                exact r_iret X w hr rfl dX7_cornerOf_39
          · refine lv_iload_n hx hb dX7_cornerOf_38 rfl (lv_at hl 0 rfl) ?_
            have hq : fX7_cornerOf μ sp ce = (2) := by simp only [fX7_cornerOf, if_neg c20_1, if_pos c20_2, if_neg c35_33, if_pos c20_34, if_pos c35_49]
            rw [hq]
            exact r_iret X w hr rfl dX7_cornerOf_39
      · refine lv_iload_n hx hb dX7_cornerOf_38 rfl (lv_at hl 0 rfl) ?_
        have hq : fX7_cornerOf μ sp ce = (1) := by simp only [fX7_cornerOf, if_neg c20_1, if_pos c20_2, if_pos c35_33]
        rw [hq]
        exact r_iret X w hr rfl dX7_cornerOf_39
  · refine lv_aload_n hx hb dX7_cornerOf_23 rfl (lv_at hl 1 rfl) ?_
    refine r_get X w CL7 8 (by decide) wf_X7_28 0 rfl rfl dX7_cornerOf_24 ?_
    refine lv_iload_n hx hb dX7_cornerOf_27 rfl (lv_at hl 2 rfl) ?_
    refine r_iald X w 7 rfl hc dX7_cornerOf_28 ?_
    refine lv_iconst (v := 4) hx hb dX7_cornerOf_29 (by decide) ?_
    refine lv_iload_n hx hb dX7_cornerOf_30 rfl (lv_at hl 0 rfl) ?_
    refine r_ci w (r_runS (As := [.int 0]) (rest := [.int 4, .int (μ 6 ce.toNatClampNeg)]) X w (kX7_rBy l E 0 ) ck_X7_59 ⟨Nat.le_of_ble_eq_true rfl, Nat.le_of_ble_eq_true rfl⟩ [] rfl (by decide +kernel) hl.1 (Nat.le_of_ble_eq_true rfl) rfl dX7_cornerOf_31 ⟨Nat.le_of_ble_eq_true rfl, Nat.le_of_ble_eq_true rfl⟩) (wMd E a μ sp) [] rfl (by decide +kernel) rfl rfl (fun H locs w => ?_)
    refine lv_imul hx hb dX7_cornerOf_34 ?_
    refine lv_icmp_ne (tgt := 40) hx hb dX7_cornerOf_35 (by decide) (fun c35_64 => ?_) (fun c35_64 => ?_)
    · refine lv_iinc (v := 1) (lv' := [(2, .int 1), (0, .ref (a 0)), (1, .int ce)]) hx hb dX7_cornerOf_40 hl (k := 0) rfl (by first | rfl | decide) (by decide) rfl (fun ls hl => ?_)
      refine lv_goto (tgt := 2) hx hb dX7_cornerOf_43 (by decide) ?_
      refine lv_iload_n hx hb dX7_cornerOf_2 rfl (lv_at hl 0 rfl) ?_
      refine lv_bipush (v := 6) hx hb dX7_cornerOf_3 (by decide) ?_
      refine lv_icmp_ge (tgt := 46) hx hb dX7_cornerOf_5 (by decide) (fun h => absurd h (by decide)) (fun _ => ?_)
      refine lv_aload_n hx hb dX7_cornerOf_8 rfl (lv_at hl 1 rfl) ?_
      refine r_get X w CL7 7 (by decide) wf_X7_25 0 rfl rfl dX7_cornerOf_9 ?_
      refine lv_iload_n hx hb dX7_cornerOf_12 rfl (lv_at hl 2 rfl) ?_
      refine r_iald X w 6 rfl hc dX7_cornerOf_13 ?_
      refine lv_iconst (v := 4) hx hb dX7_cornerOf_14 (by decide) ?_
      refine lv_iload_n hx hb dX7_cornerOf_15 rfl (lv_at hl 0 rfl) ?_
      refine r_ci w (r_runS (As := [.int 1]) (rest := [.int 4, .int (μ 5 ce.toNatClampNeg)]) X w (kX7_qBy l E 1 ) ck_X7_55 ⟨Nat.le_of_ble_eq_true rfl, Nat.le_of_ble_eq_true rfl⟩ [] rfl (by decide +kernel) hl.1 (Nat.le_of_ble_eq_true rfl) rfl dX7_cornerOf_16 ⟨Nat.le_of_ble_eq_true rfl, Nat.le_of_ble_eq_true rfl⟩) (wMd E a μ sp) [] rfl (by decide +kernel) rfl rfl (fun H locs w => ?_)
      refine lv_imul hx hb dX7_cornerOf_19 ?_
      refine lv_icmp_ne (tgt := 40) hx hb dX7_cornerOf_20 (by decide) (fun c20_65 => ?_) (fun c20_65 => ?_)
      · refine lv_iinc (v := 2) (lv' := [(2, .int 2), (0, .ref (a 0)), (1, .int ce)]) hx hb dX7_cornerOf_40 hl (k := 0) rfl (by first | rfl | decide) (by decide) rfl (fun ls hl => ?_)
        refine lv_goto (tgt := 2) hx hb dX7_cornerOf_43 (by decide) ?_
        refine lv_iload_n hx hb dX7_cornerOf_2 rfl (lv_at hl 0 rfl) ?_
        refine lv_bipush (v := 6) hx hb dX7_cornerOf_3 (by decide) ?_
        refine lv_icmp_ge (tgt := 46) hx hb dX7_cornerOf_5 (by decide) (fun h => absurd h (by decide)) (fun _ => ?_)
        refine lv_aload_n hx hb dX7_cornerOf_8 rfl (lv_at hl 1 rfl) ?_
        refine r_get X w CL7 7 (by decide) wf_X7_25 0 rfl rfl dX7_cornerOf_9 ?_
        refine lv_iload_n hx hb dX7_cornerOf_12 rfl (lv_at hl 2 rfl) ?_
        refine r_iald X w 6 rfl hc dX7_cornerOf_13 ?_
        refine lv_iconst (v := 4) hx hb dX7_cornerOf_14 (by decide) ?_
        refine lv_iload_n hx hb dX7_cornerOf_15 rfl (lv_at hl 0 rfl) ?_
        refine r_ci w (r_runS (As := [.int 2]) (rest := [.int 4, .int (μ 5 ce.toNatClampNeg)]) X w (kX7_qBy l E 2 ) ck_X7_55 ⟨Nat.le_of_ble_eq_true rfl, Nat.le_of_ble_eq_true rfl⟩ [] rfl (by decide +kernel) hl.1 (Nat.le_of_ble_eq_true rfl) rfl dX7_cornerOf_16 ⟨Nat.le_of_ble_eq_true rfl, Nat.le_of_ble_eq_true rfl⟩) (wMd E a μ sp) [] rfl (by decide +kernel) rfl rfl (fun H locs w => ?_)
        refine lv_imul hx hb dX7_cornerOf_19 ?_
        refine lv_icmp_ne (tgt := 40) hx hb dX7_cornerOf_20 (by decide) (fun c20_66 => ?_) (fun c20_66 => ?_)
        · refine lv_iinc (v := 3) (lv' := [(2, .int 3), (0, .ref (a 0)), (1, .int ce)]) hx hb dX7_cornerOf_40 hl (k := 0) rfl (by first | rfl | decide) (by decide) rfl (fun ls hl => ?_)
          refine lv_goto (tgt := 2) hx hb dX7_cornerOf_43 (by decide) ?_
          refine lv_iload_n hx hb dX7_cornerOf_2 rfl (lv_at hl 0 rfl) ?_
          refine lv_bipush (v := 6) hx hb dX7_cornerOf_3 (by decide) ?_
          refine lv_icmp_ge (tgt := 46) hx hb dX7_cornerOf_5 (by decide) (fun h => absurd h (by decide)) (fun _ => ?_)
          refine lv_aload_n hx hb dX7_cornerOf_8 rfl (lv_at hl 1 rfl) ?_
          refine r_get X w CL7 7 (by decide) wf_X7_25 0 rfl rfl dX7_cornerOf_9 ?_
          refine lv_iload_n hx hb dX7_cornerOf_12 rfl (lv_at hl 2 rfl) ?_
          refine r_iald X w 6 rfl hc dX7_cornerOf_13 ?_
          refine lv_iconst (v := 4) hx hb dX7_cornerOf_14 (by decide) ?_
          refine lv_iload_n hx hb dX7_cornerOf_15 rfl (lv_at hl 0 rfl) ?_
          refine r_ci w (r_runS (As := [.int 3]) (rest := [.int 4, .int (μ 5 ce.toNatClampNeg)]) X w (kX7_qBy l E 3 ) ck_X7_55 ⟨Nat.le_of_ble_eq_true rfl, Nat.le_of_ble_eq_true rfl⟩ [] rfl (by decide +kernel) hl.1 (Nat.le_of_ble_eq_true rfl) rfl dX7_cornerOf_16 ⟨Nat.le_of_ble_eq_true rfl, Nat.le_of_ble_eq_true rfl⟩) (wMd E a μ sp) [] rfl (by decide +kernel) rfl rfl (fun H locs w => ?_)
          refine lv_imul hx hb dX7_cornerOf_19 ?_
          refine lv_icmp_ne (tgt := 40) hx hb dX7_cornerOf_20 (by decide) (fun c20_67 => ?_) (fun c20_67 => ?_)
          · refine lv_iinc (v := 4) (lv' := [(2, .int 4), (0, .ref (a 0)), (1, .int ce)]) hx hb dX7_cornerOf_40 hl (k := 0) rfl (by first | rfl | decide) (by decide) rfl (fun ls hl => ?_)
            refine lv_goto (tgt := 2) hx hb dX7_cornerOf_43 (by decide) ?_
            refine lv_iload_n hx hb dX7_cornerOf_2 rfl (lv_at hl 0 rfl) ?_
            refine lv_bipush (v := 6) hx hb dX7_cornerOf_3 (by decide) ?_
            refine lv_icmp_ge (tgt := 46) hx hb dX7_cornerOf_5 (by decide) (fun h => absurd h (by decide)) (fun _ => ?_)
            refine lv_aload_n hx hb dX7_cornerOf_8 rfl (lv_at hl 1 rfl) ?_
            refine r_get X w CL7 7 (by decide) wf_X7_25 0 rfl rfl dX7_cornerOf_9 ?_
            refine lv_iload_n hx hb dX7_cornerOf_12 rfl (lv_at hl 2 rfl) ?_
            refine r_iald X w 6 rfl hc dX7_cornerOf_13 ?_
            refine lv_iconst (v := 4) hx hb dX7_cornerOf_14 (by decide) ?_
            refine lv_iload_n hx hb dX7_cornerOf_15 rfl (lv_at hl 0 rfl) ?_
            refine r_ci w (r_runS (As := [.int 4]) (rest := [.int 4, .int (μ 5 ce.toNatClampNeg)]) X w (kX7_qBy l E 4 ) ck_X7_55 ⟨Nat.le_of_ble_eq_true rfl, Nat.le_of_ble_eq_true rfl⟩ [] rfl (by decide +kernel) hl.1 (Nat.le_of_ble_eq_true rfl) rfl dX7_cornerOf_16 ⟨Nat.le_of_ble_eq_true rfl, Nat.le_of_ble_eq_true rfl⟩) (wMd E a μ sp) [] rfl (by decide +kernel) rfl rfl (fun H locs w => ?_)
            refine lv_imul hx hb dX7_cornerOf_19 ?_
            refine lv_icmp_ne (tgt := 40) hx hb dX7_cornerOf_20 (by decide) (fun c20_68 => ?_) (fun c20_68 => ?_)
            · refine lv_iinc (v := 5) (lv' := [(2, .int 5), (0, .ref (a 0)), (1, .int ce)]) hx hb dX7_cornerOf_40 hl (k := 0) rfl (by first | rfl | decide) (by decide) rfl (fun ls hl => ?_)
              refine lv_goto (tgt := 2) hx hb dX7_cornerOf_43 (by decide) ?_
              refine lv_iload_n hx hb dX7_cornerOf_2 rfl (lv_at hl 0 rfl) ?_
              refine lv_bipush (v := 6) hx hb dX7_cornerOf_3 (by decide) ?_
              refine lv_icmp_ge (tgt := 46) hx hb dX7_cornerOf_5 (by decide) (fun h => absurd h (by decide)) (fun _ => ?_)
              refine lv_aload_n hx hb dX7_cornerOf_8 rfl (lv_at hl 1 rfl) ?_
              refine r_get X w CL7 7 (by decide) wf_X7_25 0 rfl rfl dX7_cornerOf_9 ?_
              refine lv_iload_n hx hb dX7_cornerOf_12 rfl (lv_at hl 2 rfl) ?_
              refine r_iald X w 6 rfl hc dX7_cornerOf_13 ?_
              refine lv_iconst (v := 4) hx hb dX7_cornerOf_14 (by decide) ?_
              refine lv_iload_n hx hb dX7_cornerOf_15 rfl (lv_at hl 0 rfl) ?_
              refine r_ci w (r_runS (As := [.int 5]) (rest := [.int 4, .int (μ 5 ce.toNatClampNeg)]) X w (kX7_qBy l E 5 ) ck_X7_55 ⟨Nat.le_of_ble_eq_true rfl, Nat.le_of_ble_eq_true rfl⟩ [] rfl (by decide +kernel) hl.1 (Nat.le_of_ble_eq_true rfl) rfl dX7_cornerOf_16 ⟨Nat.le_of_ble_eq_true rfl, Nat.le_of_ble_eq_true rfl⟩) (wMd E a μ sp) [] rfl (by decide +kernel) rfl rfl (fun H locs w => ?_)
              refine lv_imul hx hb dX7_cornerOf_19 ?_
              refine lv_icmp_ne (tgt := 40) hx hb dX7_cornerOf_20 (by decide) (fun c20_69 => ?_) (fun c20_69 => ?_)
              · refine lv_iinc (v := 6) (lv' := [(2, .int 6), (0, .ref (a 0)), (1, .int ce)]) hx hb dX7_cornerOf_40 hl (k := 0) rfl (by first | rfl | decide) (by decide) rfl (fun ls hl => ?_)
                refine lv_goto (tgt := 2) hx hb dX7_cornerOf_43 (by decide) ?_
                refine lv_iload_n hx hb dX7_cornerOf_2 rfl (lv_at hl 0 rfl) ?_
                refine lv_bipush (v := 6) hx hb dX7_cornerOf_3 (by decide) ?_
                refine lv_icmp_ge (tgt := 46) hx hb dX7_cornerOf_5 (by decide) (fun _ => ?_) (fun h => absurd h (by decide))
                refine lv_bipush (v := (-5)) hx hb dX7_cornerOf_46 (by decide) ?_
                have hq : fX7_cornerOf μ sp ce = ((-5)) := by simp only [fX7_cornerOf, if_pos c20_1, if_neg c35_64, if_neg c20_65, if_neg c20_66, if_neg c20_67, if_neg c20_68, if_neg c20_69]
                rw [hq]
                exact r_iret X w hr rfl dX7_cornerOf_48
              · refine lv_aload_n hx hb dX7_cornerOf_23 rfl (lv_at hl 1 rfl) ?_
                refine r_get X w CL7 8 (by decide) wf_X7_28 0 rfl rfl dX7_cornerOf_24 ?_
                refine lv_iload_n hx hb dX7_cornerOf_27 rfl (lv_at hl 2 rfl) ?_
                refine r_iald X w 7 rfl hc dX7_cornerOf_28 ?_
                refine lv_iconst (v := 4) hx hb dX7_cornerOf_29 (by decide) ?_
                refine lv_iload_n hx hb dX7_cornerOf_30 rfl (lv_at hl 0 rfl) ?_
                refine r_ci w (r_runS (As := [.int 5]) (rest := [.int 4, .int (μ 6 ce.toNatClampNeg)]) X w (kX7_rBy l E 5 ) ck_X7_59 ⟨Nat.le_of_ble_eq_true rfl, Nat.le_of_ble_eq_true rfl⟩ [] rfl (by decide +kernel) hl.1 (Nat.le_of_ble_eq_true rfl) rfl dX7_cornerOf_31 ⟨Nat.le_of_ble_eq_true rfl, Nat.le_of_ble_eq_true rfl⟩) (wMd E a μ sp) [] rfl (by decide +kernel) rfl rfl (fun H locs w => ?_)
                refine lv_imul hx hb dX7_cornerOf_34 ?_
                refine lv_icmp_ne (tgt := 40) hx hb dX7_cornerOf_35 (by decide) (fun c35_70 => ?_) (fun c35_70 => ?_)
                · refine lv_iinc (v := 6) (lv' := [(2, .int 6), (0, .ref (a 0)), (1, .int ce)]) hx hb dX7_cornerOf_40 hl (k := 0) rfl (by first | rfl | decide) (by decide) rfl (fun ls hl => ?_)
                  refine lv_goto (tgt := 2) hx hb dX7_cornerOf_43 (by decide) ?_
                  refine lv_iload_n hx hb dX7_cornerOf_2 rfl (lv_at hl 0 rfl) ?_
                  refine lv_bipush (v := 6) hx hb dX7_cornerOf_3 (by decide) ?_
                  refine lv_icmp_ge (tgt := 46) hx hb dX7_cornerOf_5 (by decide) (fun _ => ?_) (fun h => absurd h (by decide))
                  refine lv_bipush (v := (-5)) hx hb dX7_cornerOf_46 (by decide) ?_
                  have hq : fX7_cornerOf μ sp ce = ((-5)) := by simp only [fX7_cornerOf, if_pos c20_1, if_neg c35_64, if_neg c20_65, if_neg c20_66, if_neg c20_67, if_neg c20_68, if_pos c20_69, if_neg c35_70]
                  rw [hq]
                  exact r_iret X w hr rfl dX7_cornerOf_48
                · refine lv_iload_n hx hb dX7_cornerOf_38 rfl (lv_at hl 0 rfl) ?_
                  have hq : fX7_cornerOf μ sp ce = (5) := by simp only [fX7_cornerOf, if_pos c20_1, if_neg c35_64, if_neg c20_65, if_neg c20_66, if_neg c20_67, if_neg c20_68, if_pos c20_69, if_pos c35_70]
                  rw [hq]
                  exact r_iret X w hr rfl dX7_cornerOf_39
            · refine lv_aload_n hx hb dX7_cornerOf_23 rfl (lv_at hl 1 rfl) ?_
              refine r_get X w CL7 8 (by decide) wf_X7_28 0 rfl rfl dX7_cornerOf_24 ?_
              refine lv_iload_n hx hb dX7_cornerOf_27 rfl (lv_at hl 2 rfl) ?_
              refine r_iald X w 7 rfl hc dX7_cornerOf_28 ?_
              refine lv_iconst (v := 4) hx hb dX7_cornerOf_29 (by decide) ?_
              refine lv_iload_n hx hb dX7_cornerOf_30 rfl (lv_at hl 0 rfl) ?_
              refine r_ci w (r_runS (As := [.int 4]) (rest := [.int 4, .int (μ 6 ce.toNatClampNeg)]) X w (kX7_rBy l E 4 ) ck_X7_59 ⟨Nat.le_of_ble_eq_true rfl, Nat.le_of_ble_eq_true rfl⟩ [] rfl (by decide +kernel) hl.1 (Nat.le_of_ble_eq_true rfl) rfl dX7_cornerOf_31 ⟨Nat.le_of_ble_eq_true rfl, Nat.le_of_ble_eq_true rfl⟩) (wMd E a μ sp) [] rfl (by decide +kernel) rfl rfl (fun H locs w => ?_)
              refine lv_imul hx hb dX7_cornerOf_34 ?_
              refine lv_icmp_ne (tgt := 40) hx hb dX7_cornerOf_35 (by decide) (fun c35_71 => ?_) (fun c35_71 => ?_)
              · refine lv_iinc (v := 5) (lv' := [(2, .int 5), (0, .ref (a 0)), (1, .int ce)]) hx hb dX7_cornerOf_40 hl (k := 0) rfl (by first | rfl | decide) (by decide) rfl (fun ls hl => ?_)
                refine lv_goto (tgt := 2) hx hb dX7_cornerOf_43 (by decide) ?_
                refine lv_iload_n hx hb dX7_cornerOf_2 rfl (lv_at hl 0 rfl) ?_
                refine lv_bipush (v := 6) hx hb dX7_cornerOf_3 (by decide) ?_
                refine lv_icmp_ge (tgt := 46) hx hb dX7_cornerOf_5 (by decide) (fun h => absurd h (by decide)) (fun _ => ?_)
                refine lv_aload_n hx hb dX7_cornerOf_8 rfl (lv_at hl 1 rfl) ?_
                refine r_get X w CL7 7 (by decide) wf_X7_25 0 rfl rfl dX7_cornerOf_9 ?_
                refine lv_iload_n hx hb dX7_cornerOf_12 rfl (lv_at hl 2 rfl) ?_
                refine r_iald X w 6 rfl hc dX7_cornerOf_13 ?_
                refine lv_iconst (v := 4) hx hb dX7_cornerOf_14 (by decide) ?_
                refine lv_iload_n hx hb dX7_cornerOf_15 rfl (lv_at hl 0 rfl) ?_
                refine r_ci w (r_runS (As := [.int 5]) (rest := [.int 4, .int (μ 5 ce.toNatClampNeg)]) X w (kX7_qBy l E 5 ) ck_X7_55 ⟨Nat.le_of_ble_eq_true rfl, Nat.le_of_ble_eq_true rfl⟩ [] rfl (by decide +kernel) hl.1 (Nat.le_of_ble_eq_true rfl) rfl dX7_cornerOf_16 ⟨Nat.le_of_ble_eq_true rfl, Nat.le_of_ble_eq_true rfl⟩) (wMd E a μ sp) [] rfl (by decide +kernel) rfl rfl (fun H locs w => ?_)
                refine lv_imul hx hb dX7_cornerOf_19 ?_
                refine lv_icmp_ne (tgt := 40) hx hb dX7_cornerOf_20 (by decide) (fun c20_72 => ?_) (fun c20_72 => ?_)
                · refine lv_iinc (v := 6) (lv' := [(2, .int 6), (0, .ref (a 0)), (1, .int ce)]) hx hb dX7_cornerOf_40 hl (k := 0) rfl (by first | rfl | decide) (by decide) rfl (fun ls hl => ?_)
                  refine lv_goto (tgt := 2) hx hb dX7_cornerOf_43 (by decide) ?_
                  refine lv_iload_n hx hb dX7_cornerOf_2 rfl (lv_at hl 0 rfl) ?_
                  refine lv_bipush (v := 6) hx hb dX7_cornerOf_3 (by decide) ?_
                  refine lv_icmp_ge (tgt := 46) hx hb dX7_cornerOf_5 (by decide) (fun _ => ?_) (fun h => absurd h (by decide))
                  refine lv_bipush (v := (-5)) hx hb dX7_cornerOf_46 (by decide) ?_
                  have hq : fX7_cornerOf μ sp ce = ((-5)) := by simp only [fX7_cornerOf, if_pos c20_1, if_neg c35_64, if_neg c20_65, if_neg c20_66, if_neg c20_67, if_pos c20_68, if_neg c35_71, if_neg c20_72]
                  rw [hq]
                  exact r_iret X w hr rfl dX7_cornerOf_48
                · refine lv_aload_n hx hb dX7_cornerOf_23 rfl (lv_at hl 1 rfl) ?_
                  refine r_get X w CL7 8 (by decide) wf_X7_28 0 rfl rfl dX7_cornerOf_24 ?_
                  refine lv_iload_n hx hb dX7_cornerOf_27 rfl (lv_at hl 2 rfl) ?_
                  refine r_iald X w 7 rfl hc dX7_cornerOf_28 ?_
                  refine lv_iconst (v := 4) hx hb dX7_cornerOf_29 (by decide) ?_
                  refine lv_iload_n hx hb dX7_cornerOf_30 rfl (lv_at hl 0 rfl) ?_
                  refine r_ci w (r_runS (As := [.int 5]) (rest := [.int 4, .int (μ 6 ce.toNatClampNeg)]) X w (kX7_rBy l E 5 ) ck_X7_59 ⟨Nat.le_of_ble_eq_true rfl, Nat.le_of_ble_eq_true rfl⟩ [] rfl (by decide +kernel) hl.1 (Nat.le_of_ble_eq_true rfl) rfl dX7_cornerOf_31 ⟨Nat.le_of_ble_eq_true rfl, Nat.le_of_ble_eq_true rfl⟩) (wMd E a μ sp) [] rfl (by decide +kernel) rfl rfl (fun H locs w => ?_)
                  refine lv_imul hx hb dX7_cornerOf_34 ?_
                  refine lv_icmp_ne (tgt := 40) hx hb dX7_cornerOf_35 (by decide) (fun c35_73 => ?_) (fun c35_73 => ?_)
                  · refine lv_iinc (v := 6) (lv' := [(2, .int 6), (0, .ref (a 0)), (1, .int ce)]) hx hb dX7_cornerOf_40 hl (k := 0) rfl (by first | rfl | decide) (by decide) rfl (fun ls hl => ?_)
                    refine lv_goto (tgt := 2) hx hb dX7_cornerOf_43 (by decide) ?_
                    refine lv_iload_n hx hb dX7_cornerOf_2 rfl (lv_at hl 0 rfl) ?_
                    refine lv_bipush (v := 6) hx hb dX7_cornerOf_3 (by decide) ?_
                    refine lv_icmp_ge (tgt := 46) hx hb dX7_cornerOf_5 (by decide) (fun _ => ?_) (fun h => absurd h (by decide))
                    refine lv_bipush (v := (-5)) hx hb dX7_cornerOf_46 (by decide) ?_
                    have hq : fX7_cornerOf μ sp ce = ((-5)) := by simp only [fX7_cornerOf, if_pos c20_1, if_neg c35_64, if_neg c20_65, if_neg c20_66, if_neg c20_67, if_pos c20_68, if_neg c35_71, if_pos c20_72, if_neg c35_73]
                    rw [hq]
                    exact r_iret X w hr rfl dX7_cornerOf_48
                  · refine lv_iload_n hx hb dX7_cornerOf_38 rfl (lv_at hl 0 rfl) ?_
                    have hq : fX7_cornerOf μ sp ce = (5) := by simp only [fX7_cornerOf, if_pos c20_1, if_neg c35_64, if_neg c20_65, if_neg c20_66, if_neg c20_67, if_pos c20_68, if_neg c35_71, if_pos c20_72, if_pos c35_73]
                    rw [hq]
                    exact r_iret X w hr rfl dX7_cornerOf_39
              · refine lv_iload_n hx hb dX7_cornerOf_38 rfl (lv_at hl 0 rfl) ?_
                have hq : fX7_cornerOf μ sp ce = (4) := by simp only [fX7_cornerOf, if_pos c20_1, if_neg c35_64, if_neg c20_65, if_neg c20_66, if_neg c20_67, if_pos c20_68, if_pos c35_71]
                rw [hq]
                exact r_iret X w hr rfl dX7_cornerOf_39
          · refine lv_aload_n hx hb dX7_cornerOf_23 rfl (lv_at hl 1 rfl) ?_
            refine r_get X w CL7 8 (by decide) wf_X7_28 0 rfl rfl dX7_cornerOf_24 ?_
            refine lv_iload_n hx hb dX7_cornerOf_27 rfl (lv_at hl 2 rfl) ?_
            refine r_iald X w 7 rfl hc dX7_cornerOf_28 ?_
            refine lv_iconst (v := 4) hx hb dX7_cornerOf_29 (by decide) ?_
            refine lv_iload_n hx hb dX7_cornerOf_30 rfl (lv_at hl 0 rfl) ?_
            refine r_ci w (r_runS (As := [.int 3]) (rest := [.int 4, .int (μ 6 ce.toNatClampNeg)]) X w (kX7_rBy l E 3 ) ck_X7_59 ⟨Nat.le_of_ble_eq_true rfl, Nat.le_of_ble_eq_true rfl⟩ [] rfl (by decide +kernel) hl.1 (Nat.le_of_ble_eq_true rfl) rfl dX7_cornerOf_31 ⟨Nat.le_of_ble_eq_true rfl, Nat.le_of_ble_eq_true rfl⟩) (wMd E a μ sp) [] rfl (by decide +kernel) rfl rfl (fun H locs w => ?_)
            refine lv_imul hx hb dX7_cornerOf_34 ?_
            refine lv_icmp_ne (tgt := 40) hx hb dX7_cornerOf_35 (by decide) (fun c35_74 => ?_) (fun c35_74 => ?_)
            · refine lv_iinc (v := 4) (lv' := [(2, .int 4), (0, .ref (a 0)), (1, .int ce)]) hx hb dX7_cornerOf_40 hl (k := 0) rfl (by first | rfl | decide) (by decide) rfl (fun ls hl => ?_)
              refine lv_goto (tgt := 2) hx hb dX7_cornerOf_43 (by decide) ?_
              refine lv_iload_n hx hb dX7_cornerOf_2 rfl (lv_at hl 0 rfl) ?_
              refine lv_bipush (v := 6) hx hb dX7_cornerOf_3 (by decide) ?_
              refine lv_icmp_ge (tgt := 46) hx hb dX7_cornerOf_5 (by decide) (fun h => absurd h (by decide)) (fun _ => ?_)
              refine lv_aload_n hx hb dX7_cornerOf_8 rfl (lv_at hl 1 rfl) ?_
              refine r_get X w CL7 7 (by decide) wf_X7_25 0 rfl rfl dX7_cornerOf_9 ?_
              refine lv_iload_n hx hb dX7_cornerOf_12 rfl (lv_at hl 2 rfl) ?_
              refine r_iald X w 6 rfl hc dX7_cornerOf_13 ?_
              refine lv_iconst (v := 4) hx hb dX7_cornerOf_14 (by decide) ?_
              refine lv_iload_n hx hb dX7_cornerOf_15 rfl (lv_at hl 0 rfl) ?_
              refine r_ci w (r_runS (As := [.int 4]) (rest := [.int 4, .int (μ 5 ce.toNatClampNeg)]) X w (kX7_qBy l E 4 ) ck_X7_55 ⟨Nat.le_of_ble_eq_true rfl, Nat.le_of_ble_eq_true rfl⟩ [] rfl (by decide +kernel) hl.1 (Nat.le_of_ble_eq_true rfl) rfl dX7_cornerOf_16 ⟨Nat.le_of_ble_eq_true rfl, Nat.le_of_ble_eq_true rfl⟩) (wMd E a μ sp) [] rfl (by decide +kernel) rfl rfl (fun H locs w => ?_)
              refine lv_imul hx hb dX7_cornerOf_19 ?_
              refine lv_icmp_ne (tgt := 40) hx hb dX7_cornerOf_20 (by decide) (fun c20_75 => ?_) (fun c20_75 => ?_)
              · refine lv_iinc (v := 5) (lv' := [(2, .int 5), (0, .ref (a 0)), (1, .int ce)]) hx hb dX7_cornerOf_40 hl (k := 0) rfl (by first | rfl | decide) (by decide) rfl (fun ls hl => ?_)
                refine lv_goto (tgt := 2) hx hb dX7_cornerOf_43 (by decide) ?_
                refine lv_iload_n hx hb dX7_cornerOf_2 rfl (lv_at hl 0 rfl) ?_
                refine lv_bipush (v := 6) hx hb dX7_cornerOf_3 (by decide) ?_
                refine lv_icmp_ge (tgt := 46) hx hb dX7_cornerOf_5 (by decide) (fun h => absurd h (by decide)) (fun _ => ?_)
                refine lv_aload_n hx hb dX7_cornerOf_8 rfl (lv_at hl 1 rfl) ?_
                refine r_get X w CL7 7 (by decide) wf_X7_25 0 rfl rfl dX7_cornerOf_9 ?_
                refine lv_iload_n hx hb dX7_cornerOf_12 rfl (lv_at hl 2 rfl) ?_
                refine r_iald X w 6 rfl hc dX7_cornerOf_13 ?_
                refine lv_iconst (v := 4) hx hb dX7_cornerOf_14 (by decide) ?_
                refine lv_iload_n hx hb dX7_cornerOf_15 rfl (lv_at hl 0 rfl) ?_
                refine r_ci w (r_runS (As := [.int 5]) (rest := [.int 4, .int (μ 5 ce.toNatClampNeg)]) X w (kX7_qBy l E 5 ) ck_X7_55 ⟨Nat.le_of_ble_eq_true rfl, Nat.le_of_ble_eq_true rfl⟩ [] rfl (by decide +kernel) hl.1 (Nat.le_of_ble_eq_true rfl) rfl dX7_cornerOf_16 ⟨Nat.le_of_ble_eq_true rfl, Nat.le_of_ble_eq_true rfl⟩) (wMd E a μ sp) [] rfl (by decide +kernel) rfl rfl (fun H locs w => ?_)
                refine lv_imul hx hb dX7_cornerOf_19 ?_
                refine lv_icmp_ne (tgt := 40) hx hb dX7_cornerOf_20 (by decide) (fun c20_76 => ?_) (fun c20_76 => ?_)
                · refine lv_iinc (v := 6) (lv' := [(2, .int 6), (0, .ref (a 0)), (1, .int ce)]) hx hb dX7_cornerOf_40 hl (k := 0) rfl (by first | rfl | decide) (by decide) rfl (fun ls hl => ?_)
                  refine lv_goto (tgt := 2) hx hb dX7_cornerOf_43 (by decide) ?_
                  refine lv_iload_n hx hb dX7_cornerOf_2 rfl (lv_at hl 0 rfl) ?_
                  refine lv_bipush (v := 6) hx hb dX7_cornerOf_3 (by decide) ?_
                  refine lv_icmp_ge (tgt := 46) hx hb dX7_cornerOf_5 (by decide) (fun _ => ?_) (fun h => absurd h (by decide))
                  refine lv_bipush (v := (-5)) hx hb dX7_cornerOf_46 (by decide) ?_
                  have hq : fX7_cornerOf μ sp ce = ((-5)) := by simp only [fX7_cornerOf, if_pos c20_1, if_neg c35_64, if_neg c20_65, if_neg c20_66, if_pos c20_67, if_neg c35_74, if_neg c20_75, if_neg c20_76]
                  rw [hq]
                  exact r_iret X w hr rfl dX7_cornerOf_48
                · refine lv_aload_n hx hb dX7_cornerOf_23 rfl (lv_at hl 1 rfl) ?_
                  refine r_get X w CL7 8 (by decide) wf_X7_28 0 rfl rfl dX7_cornerOf_24 ?_
                  refine lv_iload_n hx hb dX7_cornerOf_27 rfl (lv_at hl 2 rfl) ?_
                  refine r_iald X w 7 rfl hc dX7_cornerOf_28 ?_
                  refine lv_iconst (v := 4) hx hb dX7_cornerOf_29 (by decide) ?_
                  refine lv_iload_n hx hb dX7_cornerOf_30 rfl (lv_at hl 0 rfl) ?_
                  refine r_ci w (r_runS (As := [.int 5]) (rest := [.int 4, .int (μ 6 ce.toNatClampNeg)]) X w (kX7_rBy l E 5 ) ck_X7_59 ⟨Nat.le_of_ble_eq_true rfl, Nat.le_of_ble_eq_true rfl⟩ [] rfl (by decide +kernel) hl.1 (Nat.le_of_ble_eq_true rfl) rfl dX7_cornerOf_31 ⟨Nat.le_of_ble_eq_true rfl, Nat.le_of_ble_eq_true rfl⟩) (wMd E a μ sp) [] rfl (by decide +kernel) rfl rfl (fun H locs w => ?_)
                  refine lv_imul hx hb dX7_cornerOf_34 ?_
                  refine lv_icmp_ne (tgt := 40) hx hb dX7_cornerOf_35 (by decide) (fun c35_77 => ?_) (fun c35_77 => ?_)
                  · refine lv_iinc (v := 6) (lv' := [(2, .int 6), (0, .ref (a 0)), (1, .int ce)]) hx hb dX7_cornerOf_40 hl (k := 0) rfl (by first | rfl | decide) (by decide) rfl (fun ls hl => ?_)
                    refine lv_goto (tgt := 2) hx hb dX7_cornerOf_43 (by decide) ?_
                    refine lv_iload_n hx hb dX7_cornerOf_2 rfl (lv_at hl 0 rfl) ?_
                    refine lv_bipush (v := 6) hx hb dX7_cornerOf_3 (by decide) ?_
                    refine lv_icmp_ge (tgt := 46) hx hb dX7_cornerOf_5 (by decide) (fun _ => ?_) (fun h => absurd h (by decide))
                    refine lv_bipush (v := (-5)) hx hb dX7_cornerOf_46 (by decide) ?_
                    have hq : fX7_cornerOf μ sp ce = ((-5)) := by simp only [fX7_cornerOf, if_pos c20_1, if_neg c35_64, if_neg c20_65, if_neg c20_66, if_pos c20_67, if_neg c35_74, if_neg c20_75, if_pos c20_76, if_neg c35_77]
                    rw [hq]
                    exact r_iret X w hr rfl dX7_cornerOf_48
                  · refine lv_iload_n hx hb dX7_cornerOf_38 rfl (lv_at hl 0 rfl) ?_
                    have hq : fX7_cornerOf μ sp ce = (5) := by simp only [fX7_cornerOf, if_pos c20_1, if_neg c35_64, if_neg c20_65, if_neg c20_66, if_pos c20_67, if_neg c35_74, if_neg c20_75, if_pos c20_76, if_pos c35_77]
                    rw [hq]
                    exact r_iret X w hr rfl dX7_cornerOf_39
              · refine lv_aload_n hx hb dX7_cornerOf_23 rfl (lv_at hl 1 rfl) ?_
                refine r_get X w CL7 8 (by decide) wf_X7_28 0 rfl rfl dX7_cornerOf_24 ?_
                refine lv_iload_n hx hb dX7_cornerOf_27 rfl (lv_at hl 2 rfl) ?_
                refine r_iald X w 7 rfl hc dX7_cornerOf_28 ?_
                refine lv_iconst (v := 4) hx hb dX7_cornerOf_29 (by decide) ?_
                refine lv_iload_n hx hb dX7_cornerOf_30 rfl (lv_at hl 0 rfl) ?_
                refine r_ci w (r_runS (As := [.int 4]) (rest := [.int 4, .int (μ 6 ce.toNatClampNeg)]) X w (kX7_rBy l E 4 ) ck_X7_59 ⟨Nat.le_of_ble_eq_true rfl, Nat.le_of_ble_eq_true rfl⟩ [] rfl (by decide +kernel) hl.1 (Nat.le_of_ble_eq_true rfl) rfl dX7_cornerOf_31 ⟨Nat.le_of_ble_eq_true rfl, Nat.le_of_ble_eq_true rfl⟩) (wMd E a μ sp) [] rfl (by decide +kernel) rfl rfl (fun H locs w => ?_)
                refine lv_imul hx hb dX7_cornerOf_34 ?_
                refine lv_icmp_ne (tgt := 40) hx hb dX7_cornerOf_35 (by decide) (fun c35_78 => ?_) (fun c35_78 => ?_)
                · refine lv_iinc (v := 5) (lv' := [(2, .int 5), (0, .ref (a 0)), (1, .int ce)]) hx hb dX7_cornerOf_40 hl (k := 0) rfl (by first | rfl | decide) (by decide) rfl (fun ls hl => ?_)
                  refine lv_goto (tgt := 2) hx hb dX7_cornerOf_43 (by decide) ?_
                  refine lv_iload_n hx hb dX7_cornerOf_2 rfl (lv_at hl 0 rfl) ?_
                  refine lv_bipush (v := 6) hx hb dX7_cornerOf_3 (by decide) ?_
                  refine lv_icmp_ge (tgt := 46) hx hb dX7_cornerOf_5 (by decide) (fun h => absurd h (by decide)) (fun _ => ?_)
                  refine lv_aload_n hx hb dX7_cornerOf_8 rfl (lv_at hl 1 rfl) ?_
                  refine r_get X w CL7 7 (by decide) wf_X7_25 0 rfl rfl dX7_cornerOf_9 ?_
                  refine lv_iload_n hx hb dX7_cornerOf_12 rfl (lv_at hl 2 rfl) ?_
                  refine r_iald X w 6 rfl hc dX7_cornerOf_13 ?_
                  refine lv_iconst (v := 4) hx hb dX7_cornerOf_14 (by decide) ?_
                  refine lv_iload_n hx hb dX7_cornerOf_15 rfl (lv_at hl 0 rfl) ?_
                  refine r_ci w (r_runS (As := [.int 5]) (rest := [.int 4, .int (μ 5 ce.toNatClampNeg)]) X w (kX7_qBy l E 5 ) ck_X7_55 ⟨Nat.le_of_ble_eq_true rfl, Nat.le_of_ble_eq_true rfl⟩ [] rfl (by decide +kernel) hl.1 (Nat.le_of_ble_eq_true rfl) rfl dX7_cornerOf_16 ⟨Nat.le_of_ble_eq_true rfl, Nat.le_of_ble_eq_true rfl⟩) (wMd E a μ sp) [] rfl (by decide +kernel) rfl rfl (fun H locs w => ?_)
                  refine lv_imul hx hb dX7_cornerOf_19 ?_
                  refine lv_icmp_ne (tgt := 40) hx hb dX7_cornerOf_20 (by decide) (fun c20_79 => ?_) (fun c20_79 => ?_)
                  · refine lv_iinc (v := 6) (lv' := [(2, .int 6), (0, .ref (a 0)), (1, .int ce)]) hx hb dX7_cornerOf_40 hl (k := 0) rfl (by first | rfl | decide) (by decide) rfl (fun ls hl => ?_)
                    refine lv_goto (tgt := 2) hx hb dX7_cornerOf_43 (by decide) ?_
                    refine lv_iload_n hx hb dX7_cornerOf_2 rfl (lv_at hl 0 rfl) ?_
                    refine lv_bipush (v := 6) hx hb dX7_cornerOf_3 (by decide) ?_
                    refine lv_icmp_ge (tgt := 46) hx hb dX7_cornerOf_5 (by decide) (fun _ => ?_) (fun h => absurd h (by decide))
                    refine lv_bipush (v := (-5)) hx hb dX7_cornerOf_46 (by decide) ?_
                    have hq : fX7_cornerOf μ sp ce = ((-5)) := by simp only [fX7_cornerOf, if_pos c20_1, if_neg c35_64, if_neg c20_65, if_neg c20_66, if_pos c20_67, if_neg c35_74, if_pos c20_75, if_neg c35_78, if_neg c20_79]
                    rw [hq]
                    exact r_iret X w hr rfl dX7_cornerOf_48
                  · refine lv_aload_n hx hb dX7_cornerOf_23 rfl (lv_at hl 1 rfl) ?_
                    refine r_get X w CL7 8 (by decide) wf_X7_28 0 rfl rfl dX7_cornerOf_24 ?_
                    refine lv_iload_n hx hb dX7_cornerOf_27 rfl (lv_at hl 2 rfl) ?_
                    refine r_iald X w 7 rfl hc dX7_cornerOf_28 ?_
                    refine lv_iconst (v := 4) hx hb dX7_cornerOf_29 (by decide) ?_
                    refine lv_iload_n hx hb dX7_cornerOf_30 rfl (lv_at hl 0 rfl) ?_
                    refine r_ci w (r_runS (As := [.int 5]) (rest := [.int 4, .int (μ 6 ce.toNatClampNeg)]) X w (kX7_rBy l E 5 ) ck_X7_59 ⟨Nat.le_of_ble_eq_true rfl, Nat.le_of_ble_eq_true rfl⟩ [] rfl (by decide +kernel) hl.1 (Nat.le_of_ble_eq_true rfl) rfl dX7_cornerOf_31 ⟨Nat.le_of_ble_eq_true rfl, Nat.le_of_ble_eq_true rfl⟩) (wMd E a μ sp) [] rfl (by decide +kernel) rfl rfl (fun H locs w => ?_)
                    refine lv_imul hx hb dX7_cornerOf_34 ?_
                    refine lv_icmp_ne (tgt := 40) hx hb dX7_cornerOf_35 (by decide) (fun c35_80 => ?_) (fun c35_80 => ?_)
                    · refine lv_iinc (v := 6) (lv' := [(2, .int 6), (0, .ref (a 0)), (1, .int ce)]) hx hb dX7_cornerOf_40 hl (k := 0) rfl (by first | rfl | decide) (by decide) rfl (fun ls hl => ?_)
                      refine lv_goto (tgt := 2) hx hb dX7_cornerOf_43 (by decide) ?_
                      refine lv_iload_n hx hb dX7_cornerOf_2 rfl (lv_at hl 0 rfl) ?_
                      refine lv_bipush (v := 6) hx hb dX7_cornerOf_3 (by decide) ?_
                      refine lv_icmp_ge (tgt := 46) hx hb dX7_cornerOf_5 (by decide) (fun _ => ?_) (fun h => absurd h (by decide))
                      refine lv_bipush (v := (-5)) hx hb dX7_cornerOf_46 (by decide) ?_
                      have hq : fX7_cornerOf μ sp ce = ((-5)) := by simp only [fX7_cornerOf, if_pos c20_1, if_neg c35_64, if_neg c20_65, if_neg c20_66, if_pos c20_67, if_neg c35_74, if_pos c20_75, if_neg c35_78, if_pos c20_79, if_neg c35_80]
                      rw [hq]
                      exact r_iret X w hr rfl dX7_cornerOf_48
                    · refine lv_iload_n hx hb dX7_cornerOf_38 rfl (lv_at hl 0 rfl) ?_
                      have hq : fX7_cornerOf μ sp ce = (5) := by simp only [fX7_cornerOf, if_pos c20_1, if_neg c35_64, if_neg c20_65, if_neg c20_66, if_pos c20_67, if_neg c35_74, if_pos c20_75, if_neg c35_78, if_pos c20_79, if_pos c35_80]
                      rw [hq]
                      exact r_iret X w hr rfl dX7_cornerOf_39
                · refine lv_iload_n hx hb dX7_cornerOf_38 rfl (lv_at hl 0 rfl) ?_
                  have hq : fX7_cornerOf μ sp ce = (4) := by simp only [fX7_cornerOf, if_pos c20_1, if_neg c35_64, if_neg c20_65, if_neg c20_66, if_pos c20_67, if_neg c35_74, if_pos c20_75, if_pos c35_78]
                  rw [hq]
                  exact r_iret X w hr rfl dX7_cornerOf_39
            · refine lv_iload_n hx hb dX7_cornerOf_38 rfl (lv_at hl 0 rfl) ?_
              have hq : fX7_cornerOf μ sp ce = (3) := by simp only [fX7_cornerOf, if_pos c20_1, if_neg c35_64, if_neg c20_65, if_neg c20_66, if_pos c20_67, if_pos c35_74]
              rw [hq]
              exact r_iret X w hr rfl dX7_cornerOf_39
        · refine lv_aload_n hx hb dX7_cornerOf_23 rfl (lv_at hl 1 rfl) ?_
          refine r_get X w CL7 8 (by decide) wf_X7_28 0 rfl rfl dX7_cornerOf_24 ?_
          refine lv_iload_n hx hb dX7_cornerOf_27 rfl (lv_at hl 2 rfl) ?_
          refine r_iald X w 7 rfl hc dX7_cornerOf_28 ?_
          refine lv_iconst (v := 4) hx hb dX7_cornerOf_29 (by decide) ?_
          refine lv_iload_n hx hb dX7_cornerOf_30 rfl (lv_at hl 0 rfl) ?_
          refine r_ci w (r_runS (As := [.int 2]) (rest := [.int 4, .int (μ 6 ce.toNatClampNeg)]) X w (kX7_rBy l E 2 ) ck_X7_59 ⟨Nat.le_of_ble_eq_true rfl, Nat.le_of_ble_eq_true rfl⟩ [] rfl (by decide +kernel) hl.1 (Nat.le_of_ble_eq_true rfl) rfl dX7_cornerOf_31 ⟨Nat.le_of_ble_eq_true rfl, Nat.le_of_ble_eq_true rfl⟩) (wMd E a μ sp) [] rfl (by decide +kernel) rfl rfl (fun H locs w => ?_)
          refine lv_imul hx hb dX7_cornerOf_34 ?_
          refine lv_icmp_ne (tgt := 40) hx hb dX7_cornerOf_35 (by decide) (fun c35_81 => ?_) (fun c35_81 => ?_)
          · refine lv_iinc (v := 3) (lv' := [(2, .int 3), (0, .ref (a 0)), (1, .int ce)]) hx hb dX7_cornerOf_40 hl (k := 0) rfl (by first | rfl | decide) (by decide) rfl (fun ls hl => ?_)
            refine lv_goto (tgt := 2) hx hb dX7_cornerOf_43 (by decide) ?_
            refine lv_iload_n hx hb dX7_cornerOf_2 rfl (lv_at hl 0 rfl) ?_
            refine lv_bipush (v := 6) hx hb dX7_cornerOf_3 (by decide) ?_
            refine lv_icmp_ge (tgt := 46) hx hb dX7_cornerOf_5 (by decide) (fun h => absurd h (by decide)) (fun _ => ?_)
            refine lv_aload_n hx hb dX7_cornerOf_8 rfl (lv_at hl 1 rfl) ?_
            refine r_get X w CL7 7 (by decide) wf_X7_25 0 rfl rfl dX7_cornerOf_9 ?_
            refine lv_iload_n hx hb dX7_cornerOf_12 rfl (lv_at hl 2 rfl) ?_
            refine r_iald X w 6 rfl hc dX7_cornerOf_13 ?_
            refine lv_iconst (v := 4) hx hb dX7_cornerOf_14 (by decide) ?_
            refine lv_iload_n hx hb dX7_cornerOf_15 rfl (lv_at hl 0 rfl) ?_
            refine r_ci w (r_runS (As := [.int 3]) (rest := [.int 4, .int (μ 5 ce.toNatClampNeg)]) X w (kX7_qBy l E 3 ) ck_X7_55 ⟨Nat.le_of_ble_eq_true rfl, Nat.le_of_ble_eq_true rfl⟩ [] rfl (by decide +kernel) hl.1 (Nat.le_of_ble_eq_true rfl) rfl dX7_cornerOf_16 ⟨Nat.le_of_ble_eq_true rfl, Nat.le_of_ble_eq_true rfl⟩) (wMd E a μ sp) [] rfl (by decide +kernel) rfl rfl (fun H locs w => ?_)
            refine lv_imul hx hb dX7_cornerOf_19 ?_
            refine lv_icmp_ne (tgt := 40) hx hb dX7_cornerOf_20 (by decide) (fun c20_82 => ?_) (fun c20_82 => ?_)
            · refine lv_iinc (v := 4) (lv' := [(2, .int 4), (0, .ref (a 0)), (1, .int ce)]) hx hb dX7_cornerOf_40 hl (k := 0) rfl (by first | rfl | decide) (by decide) rfl (fun ls hl => ?_)
              refine lv_goto (tgt := 2) hx hb dX7_cornerOf_43 (by decide) ?_
              refine lv_iload_n hx hb dX7_cornerOf_2 rfl (lv_at hl 0 rfl) ?_
              refine lv_bipush (v := 6) hx hb dX7_cornerOf_3 (by decide) ?_
              refine lv_icmp_ge (tgt := 46) hx hb dX7_cornerOf_5 (by decide) (fun h => absurd h (by decide)) (fun _ => ?_)
              refine lv_aload_n hx hb dX7_cornerOf_8 rfl (lv_at hl 1 rfl) ?_
              refine r_get X w CL7 7 (by decide) wf_X7_25 0 rfl rfl dX7_cornerOf_9 ?_
              refine lv_iload_n hx hb dX7_cornerOf_12 rfl (lv_at hl 2 rfl) ?_
              refine r_iald X w 6 rfl hc dX7_cornerOf_13 ?_
              refine lv_iconst (v := 4) hx hb dX7_cornerOf_14 (by decide) ?_
              refine lv_iload_n hx hb dX7_cornerOf_15 rfl (lv_at hl 0 rfl) ?_
              refine r_ci w (r_runS (As := [.int 4]) (rest := [.int 4, .int (μ 5 ce.toNatClampNeg)]) X w (kX7_qBy l E 4 ) ck_X7_55 ⟨Nat.le_of_ble_eq_true rfl, Nat.le_of_ble_eq_true rfl⟩ [] rfl (by decide +kernel) hl.1 (Nat.le_of_ble_eq_true rfl) rfl dX7_cornerOf_16 ⟨Nat.le_of_ble_eq_true rfl, Nat.le_of_ble_eq_true rfl⟩) (wMd E a μ sp) [] rfl (by decide +kernel) rfl rfl (fun H locs w => ?_)
              refine lv_imul hx hb dX7_cornerOf_19 ?_
              refine lv_icmp_ne (tgt := 40) hx hb dX7_cornerOf_20 (by decide) (fun c20_83 => ?_) (fun c20_83 => ?_)
              · refine lv_iinc (v := 5) (lv' := [(2, .int 5), (0, .ref (a 0)), (1, .int ce)]) hx hb dX7_cornerOf_40 hl (k := 0) rfl (by first | rfl | decide) (by decide) rfl (fun ls hl => ?_)
                refine lv_goto (tgt := 2) hx hb dX7_cornerOf_43 (by decide) ?_
                refine lv_iload_n hx hb dX7_cornerOf_2 rfl (lv_at hl 0 rfl) ?_
                refine lv_bipush (v := 6) hx hb dX7_cornerOf_3 (by decide) ?_
                refine lv_icmp_ge (tgt := 46) hx hb dX7_cornerOf_5 (by decide) (fun h => absurd h (by decide)) (fun _ => ?_)
                refine lv_aload_n hx hb dX7_cornerOf_8 rfl (lv_at hl 1 rfl) ?_
                refine r_get X w CL7 7 (by decide) wf_X7_25 0 rfl rfl dX7_cornerOf_9 ?_
                refine lv_iload_n hx hb dX7_cornerOf_12 rfl (lv_at hl 2 rfl) ?_
                refine r_iald X w 6 rfl hc dX7_cornerOf_13 ?_
                refine lv_iconst (v := 4) hx hb dX7_cornerOf_14 (by decide) ?_
                refine lv_iload_n hx hb dX7_cornerOf_15 rfl (lv_at hl 0 rfl) ?_
                refine r_ci w (r_runS (As := [.int 5]) (rest := [.int 4, .int (μ 5 ce.toNatClampNeg)]) X w (kX7_qBy l E 5 ) ck_X7_55 ⟨Nat.le_of_ble_eq_true rfl, Nat.le_of_ble_eq_true rfl⟩ [] rfl (by decide +kernel) hl.1 (Nat.le_of_ble_eq_true rfl) rfl dX7_cornerOf_16 ⟨Nat.le_of_ble_eq_true rfl, Nat.le_of_ble_eq_true rfl⟩) (wMd E a μ sp) [] rfl (by decide +kernel) rfl rfl (fun H locs w => ?_)
                refine lv_imul hx hb dX7_cornerOf_19 ?_
                refine lv_icmp_ne (tgt := 40) hx hb dX7_cornerOf_20 (by decide) (fun c20_84 => ?_) (fun c20_84 => ?_)
                · refine lv_iinc (v := 6) (lv' := [(2, .int 6), (0, .ref (a 0)), (1, .int ce)]) hx hb dX7_cornerOf_40 hl (k := 0) rfl (by first | rfl | decide) (by decide) rfl (fun ls hl => ?_)
                  refine lv_goto (tgt := 2) hx hb dX7_cornerOf_43 (by decide) ?_
                  refine lv_iload_n hx hb dX7_cornerOf_2 rfl (lv_at hl 0 rfl) ?_
                  refine lv_bipush (v := 6) hx hb dX7_cornerOf_3 (by decide) ?_
                  refine lv_icmp_ge (tgt := 46) hx hb dX7_cornerOf_5 (by decide) (fun _ => ?_) (fun h => absurd h (by decide))
                  refine lv_bipush (v := (-5)) hx hb dX7_cornerOf_46 (by decide) ?_
                  have hq : fX7_cornerOf μ sp ce = ((-5)) := by simp only [fX7_cornerOf, if_pos c20_1, if_neg c35_64, if_neg c20_65, if_pos c20_66, if_neg c35_81, if_neg c20_82, if_neg c20_83, if_neg c20_84]
                  rw [hq]
                  exact r_iret X w hr rfl dX7_cornerOf_48
                · refine lv_aload_n hx hb dX7_cornerOf_23 rfl (lv_at hl 1 rfl) ?_
                  refine r_get X w CL7 8 (by decide) wf_X7_28 0 rfl rfl dX7_cornerOf_24 ?_
                  refine lv_iload_n hx hb dX7_cornerOf_27 rfl (lv_at hl 2 rfl) ?_
                  refine r_iald X w 7 rfl hc dX7_cornerOf_28 ?_
                  refine lv_iconst (v := 4) hx hb dX7_cornerOf_29 (by decide) ?_
                  refine lv_iload_n hx hb dX7_cornerOf_30 rfl (lv_at hl 0 rfl) ?_
                  refine r_ci w (r_runS (As := [.int 5]) (rest := [.int 4, .int (μ 6 ce.toNatClampNeg)]) X w (kX7_rBy l E 5 ) ck_X7_59 ⟨Nat.le_of_ble_eq_true rfl, Nat.le_of_ble_eq_true rfl⟩ [] rfl (by decide +kernel) hl.1 (Nat.le_of_ble_eq_true rfl) rfl dX7_cornerOf_31 ⟨Nat.le_of_ble_eq_true rfl, Nat.le_of_ble_eq_true rfl⟩) (wMd E a μ sp) [] rfl (by decide +kernel) rfl rfl (fun H locs w => ?_)
                  refine lv_imul hx hb dX7_cornerOf_34 ?_
                  refine lv_icmp_ne (tgt := 40) hx hb dX7_cornerOf_35 (by decide) (fun c35_85 => ?_) (fun c35_85 => ?_)
                  · refine lv_iinc (v := 6) (lv' := [(2, .int 6), (0, .ref (a 0)), (1, .int ce)]) hx hb dX7_cornerOf_40 hl (k := 0) rfl (by first | rfl | decide) (by decide) rfl (fun ls hl => ?_)
                    refine lv_goto (tgt := 2) hx hb dX7_cornerOf_43 (by decide) ?_
                    refine lv_iload_n hx hb dX7_cornerOf_2 rfl (lv_at hl 0 rfl) ?_
                    refine lv_bipush (v := 6) hx hb dX7_cornerOf_3 (by decide) ?_
                    refine lv_icmp_ge (tgt := 46) hx hb dX7_cornerOf_5 (by decide) (fun _ => ?_) (fun h => absurd h (by decide))
                    refine lv_bipush (v := (-5)) hx hb dX7_cornerOf_46 (by decide) ?_
                    have hq : fX7_cornerOf μ sp ce = ((-5)) := by simp only [fX7_cornerOf, if_pos c20_1, if_neg c35_64, if_neg c20_65, if_pos c20_66, if_neg c35_81, if_neg c20_82, if_neg c20_83, if_pos c20_84, if_neg c35_85]
                    rw [hq]
                    exact r_iret X w hr rfl dX7_cornerOf_48
                  · refine lv_iload_n hx hb dX7_cornerOf_38 rfl (lv_at hl 0 rfl) ?_
                    have hq : fX7_cornerOf μ sp ce = (5) := by simp only [fX7_cornerOf, if_pos c20_1, if_neg c35_64, if_neg c20_65, if_pos c20_66, if_neg c35_81, if_neg c20_82, if_neg c20_83, if_pos c20_84, if_pos c35_85]
                    rw [hq]
                    exact r_iret X w hr rfl dX7_cornerOf_39
              · refine lv_aload_n hx hb dX7_cornerOf_23 rfl (lv_at hl 1 rfl) ?_
                refine r_get X w CL7 8 (by decide) wf_X7_28 0 rfl rfl dX7_cornerOf_24 ?_
                refine lv_iload_n hx hb dX7_cornerOf_27 rfl (lv_at hl 2 rfl) ?_
                refine r_iald X w 7 rfl hc dX7_cornerOf_28 ?_
                refine lv_iconst (v := 4) hx hb dX7_cornerOf_29 (by decide) ?_
                refine lv_iload_n hx hb dX7_cornerOf_30 rfl (lv_at hl 0 rfl) ?_
                refine r_ci w (r_runS (As := [.int 4]) (rest := [.int 4, .int (μ 6 ce.toNatClampNeg)]) X w (kX7_rBy l E 4 ) ck_X7_59 ⟨Nat.le_of_ble_eq_true rfl, Nat.le_of_ble_eq_true rfl⟩ [] rfl (by decide +kernel) hl.1 (Nat.le_of_ble_eq_true rfl) rfl dX7_cornerOf_31 ⟨Nat.le_of_ble_eq_true rfl, Nat.le_of_ble_eq_true rfl⟩) (wMd E a μ sp) [] rfl (by decide +kernel) rfl rfl (fun H locs w => ?_)
                refine lv_imul hx hb dX7_cornerOf_34 ?_
                refine lv_icmp_ne (tgt := 40) hx hb dX7_cornerOf_35 (by decide) (fun c35_86 => ?_) (fun c35_86 => ?_)
                · refine lv_iinc (v := 5) (lv' := [(2, .int 5), (0, .ref (a 0)), (1, .int ce)]) hx hb dX7_cornerOf_40 hl (k := 0) rfl (by first | rfl | decide) (by decide) rfl (fun ls hl => ?_)
                  refine lv_goto (tgt := 2) hx hb dX7_cornerOf_43 (by decide) ?_
                  refine lv_iload_n hx hb dX7_cornerOf_2 rfl (lv_at hl 0 rfl) ?_
                  refine lv_bipush (v := 6) hx hb dX7_cornerOf_3 (by decide) ?_
                  refine lv_icmp_ge (tgt := 46) hx hb dX7_cornerOf_5 (by decide) (fun h => absurd h (by decide)) (fun _ => ?_)
                  refine lv_aload_n hx hb dX7_cornerOf_8 rfl (lv_at hl 1 rfl) ?_
                  refine r_get X w CL7 7 (by decide) wf_X7_25 0 rfl rfl dX7_cornerOf_9 ?_
                  refine lv_iload_n hx hb dX7_cornerOf_12 rfl (lv_at hl 2 rfl) ?_
                  refine r_iald X w 6 rfl hc dX7_cornerOf_13 ?_
                  refine lv_iconst (v := 4) hx hb dX7_cornerOf_14 (by decide) ?_
                  refine lv_iload_n hx hb dX7_cornerOf_15 rfl (lv_at hl 0 rfl) ?_
                  refine r_ci w (r_runS (As := [.int 5]) (rest := [.int 4, .int (μ 5 ce.toNatClampNeg)]) X w (kX7_qBy l E 5 ) ck_X7_55 ⟨Nat.le_of_ble_eq_true rfl, Nat.le_of_ble_eq_true rfl⟩ [] rfl (by decide +kernel) hl.1 (Nat.le_of_ble_eq_true rfl) rfl dX7_cornerOf_16 ⟨Nat.le_of_ble_eq_true rfl, Nat.le_of_ble_eq_true rfl⟩) (wMd E a μ sp) [] rfl (by decide +kernel) rfl rfl (fun H locs w => ?_)
                  refine lv_imul hx hb dX7_cornerOf_19 ?_
                  refine lv_icmp_ne (tgt := 40) hx hb dX7_cornerOf_20 (by decide) (fun c20_87 => ?_) (fun c20_87 => ?_)
                  · refine lv_iinc (v := 6) (lv' := [(2, .int 6), (0, .ref (a 0)), (1, .int ce)]) hx hb dX7_cornerOf_40 hl (k := 0) rfl (by first | rfl | decide) (by decide) rfl (fun ls hl => ?_)
                    refine lv_goto (tgt := 2) hx hb dX7_cornerOf_43 (by decide) ?_
                    refine lv_iload_n hx hb dX7_cornerOf_2 rfl (lv_at hl 0 rfl) ?_
                    refine lv_bipush (v := 6) hx hb dX7_cornerOf_3 (by decide) ?_
                    refine lv_icmp_ge (tgt := 46) hx hb dX7_cornerOf_5 (by decide) (fun _ => ?_) (fun h => absurd h (by decide))
                    refine lv_bipush (v := (-5)) hx hb dX7_cornerOf_46 (by decide) ?_
                    have hq : fX7_cornerOf μ sp ce = ((-5)) := by simp only [fX7_cornerOf, if_pos c20_1, if_neg c35_64, if_neg c20_65, if_pos c20_66, if_neg c35_81, if_neg c20_82, if_pos c20_83, if_neg c35_86, if_neg c20_87]
                    rw [hq]
                    exact r_iret X w hr rfl dX7_cornerOf_48
                  · refine lv_aload_n hx hb dX7_cornerOf_23 rfl (lv_at hl 1 rfl) ?_
                    refine r_get X w CL7 8 (by decide) wf_X7_28 0 rfl rfl dX7_cornerOf_24 ?_
                    refine lv_iload_n hx hb dX7_cornerOf_27 rfl (lv_at hl 2 rfl) ?_
                    refine r_iald X w 7 rfl hc dX7_cornerOf_28 ?_
                    refine lv_iconst (v := 4) hx hb dX7_cornerOf_29 (by decide) ?_
                    refine lv_iload_n hx hb dX7_cornerOf_30 rfl (lv_at hl 0 rfl) ?_
                    refine r_ci w (r_runS (As := [.int 5]) (rest := [.int 4, .int (μ 6 ce.toNatClampNeg)]) X w (kX7_rBy l E 5 ) ck_X7_59 ⟨Nat.le_of_ble_eq_true rfl, Nat.le_of_ble_eq_true rfl⟩ [] rfl (by decide +kernel) hl.1 (Nat.le_of_ble_eq_true rfl) rfl dX7_cornerOf_31 ⟨Nat.le_of_ble_eq_true rfl, Nat.le_of_ble_eq_true rfl⟩) (wMd E a μ sp) [] rfl (by decide +kernel) rfl rfl (fun H locs w => ?_)
                    refine lv_imul hx hb dX7_cornerOf_34 ?_
                    refine lv_icmp_ne (tgt := 40) hx hb dX7_cornerOf_35 (by decide) (fun c35_88 => ?_) (fun c35_88 => ?_)
                    · refine lv_iinc (v := 6) (lv' := [(2, .int 6), (0, .ref (a 0)), (1, .int ce)]) hx hb dX7_cornerOf_40 hl (k := 0) rfl (by first | rfl | decide) (by decide) rfl (fun ls hl => ?_)
                      refine lv_goto (tgt := 2) hx hb dX7_cornerOf_43 (by decide) ?_
                      refine lv_iload_n hx hb dX7_cornerOf_2 rfl (lv_at hl 0 rfl) ?_
                      refine lv_bipush (v := 6) hx hb dX7_cornerOf_3 (by decide) ?_
                      refine lv_icmp_ge (tgt := 46) hx hb dX7_cornerOf_5 (by decide) (fun _ => ?_) (fun h => absurd h (by decide))
                      refine lv_bipush (v := (-5)) hx hb dX7_cornerOf_46 (by decide) ?_
                      have hq : fX7_cornerOf μ sp ce = ((-5)) := by simp only [fX7_cornerOf, if_pos c20_1, if_neg c35_64, if_neg c20_65, if_pos c20_66, if_neg c35_81, if_neg c20_82, if_pos c20_83, if_neg c35_86, if_pos c20_87, if_neg c35_88]
                      rw [hq]
                      exact r_iret X w hr rfl dX7_cornerOf_48
                    · refine lv_iload_n hx hb dX7_cornerOf_38 rfl (lv_at hl 0 rfl) ?_
                      have hq : fX7_cornerOf μ sp ce = (5) := by simp only [fX7_cornerOf, if_pos c20_1, if_neg c35_64, if_neg c20_65, if_pos c20_66, if_neg c35_81, if_neg c20_82, if_pos c20_83, if_neg c35_86, if_pos c20_87, if_pos c35_88]
                      rw [hq]
                      exact r_iret X w hr rfl dX7_cornerOf_39
                · refine lv_iload_n hx hb dX7_cornerOf_38 rfl (lv_at hl 0 rfl) ?_
                  have hq : fX7_cornerOf μ sp ce = (4) := by simp only [fX7_cornerOf, if_pos c20_1, if_neg c35_64, if_neg c20_65, if_pos c20_66, if_neg c35_81, if_neg c20_82, if_pos c20_83, if_pos c35_86]
                  rw [hq]
                  exact r_iret X w hr rfl dX7_cornerOf_39
            · refine lv_aload_n hx hb dX7_cornerOf_23 rfl (lv_at hl 1 rfl) ?_
              refine r_get X w CL7 8 (by decide) wf_X7_28 0 rfl rfl dX7_cornerOf_24 ?_
              refine lv_iload_n hx hb dX7_cornerOf_27 rfl (lv_at hl 2 rfl) ?_
              refine r_iald X w 7 rfl hc dX7_cornerOf_28 ?_
              refine lv_iconst (v := 4) hx hb dX7_cornerOf_29 (by decide) ?_
              refine lv_iload_n hx hb dX7_cornerOf_30 rfl (lv_at hl 0 rfl) ?_
              refine r_ci w (r_runS (As := [.int 3]) (rest := [.int 4, .int (μ 6 ce.toNatClampNeg)]) X w (kX7_rBy l E 3 ) ck_X7_59 ⟨Nat.le_of_ble_eq_true rfl, Nat.le_of_ble_eq_true rfl⟩ [] rfl (by decide +kernel) hl.1 (Nat.le_of_ble_eq_true rfl) rfl dX7_cornerOf_31 ⟨Nat.le_of_ble_eq_true rfl, Nat.le_of_ble_eq_true rfl⟩) (wMd E a μ sp) [] rfl (by decide +kernel) rfl rfl (fun H locs w => ?_)
              refine lv_imul hx hb dX7_cornerOf_34 ?_
              refine lv_icmp_ne (tgt := 40) hx hb dX7_cornerOf_35 (by decide) (fun c35_89 => ?_) (fun c35_89 => ?_)
              · refine lv_iinc (v := 4) (lv' := [(2, .int 4), (0, .ref (a 0)), (1, .int ce)]) hx hb dX7_cornerOf_40 hl (k := 0) rfl (by first | rfl | decide) (by decide) rfl (fun ls hl => ?_)
                refine lv_goto (tgt := 2) hx hb dX7_cornerOf_43 (by decide) ?_
                refine lv_iload_n hx hb dX7_cornerOf_2 rfl (lv_at hl 0 rfl) ?_
                refine lv_bipush (v := 6) hx hb dX7_cornerOf_3 (by decide) ?_
                refine lv_icmp_ge (tgt := 46) hx hb dX7_cornerOf_5 (by decide) (fun h => absurd h (by decide)) (fun _ => ?_)
                refine lv_aload_n hx hb dX7_cornerOf_8 rfl (lv_at hl 1 rfl) ?_
                refine r_get X w CL7 7 (by decide) wf_X7_25 0 rfl rfl dX7_cornerOf_9 ?_
                refine lv_iload_n hx hb dX7_cornerOf_12 rfl (lv_at hl 2 rfl) ?_
                refine r_iald X w 6 rfl hc dX7_cornerOf_13 ?_
                refine lv_iconst (v := 4) hx hb dX7_cornerOf_14 (by decide) ?_
                refine lv_iload_n hx hb dX7_cornerOf_15 rfl (lv_at hl 0 rfl) ?_
                refine r_ci w (r_runS (As := [.int 4]) (rest := [.int 4, .int (μ 5 ce.toNatClampNeg)]) X w (kX7_qBy l E 4 ) ck_X7_55 ⟨Nat.le_of_ble_eq_true rfl, Nat.le_of_ble_eq_true rfl⟩ [] rfl (by decide +kernel) hl.1 (Nat.le_of_ble_eq_true rfl) rfl dX7_cornerOf_16 ⟨Nat.le_of_ble_eq_true rfl, Nat.le_of_ble_eq_true rfl⟩) (wMd E a μ sp) [] rfl (by decide +kernel) rfl rfl (fun H locs w => ?_)
                refine lv_imul hx hb dX7_cornerOf_19 ?_
                refine lv_icmp_ne (tgt := 40) hx hb dX7_cornerOf_20 (by decide) (fun c20_90 => ?_) (fun c20_90 => ?_)
                · refine lv_iinc (v := 5) (lv' := [(2, .int 5), (0, .ref (a 0)), (1, .int ce)]) hx hb dX7_cornerOf_40 hl (k := 0) rfl (by first | rfl | decide) (by decide) rfl (fun ls hl => ?_)
                  refine lv_goto (tgt := 2) hx hb dX7_cornerOf_43 (by decide) ?_
                  refine lv_iload_n hx hb dX7_cornerOf_2 rfl (lv_at hl 0 rfl) ?_
                  refine lv_bipush (v := 6) hx hb dX7_cornerOf_3 (by decide) ?_
                  refine lv_icmp_ge (tgt := 46) hx hb dX7_cornerOf_5 (by decide) (fun h => absurd h (by decide)) (fun _ => ?_)
                  refine lv_aload_n hx hb dX7_cornerOf_8 rfl (lv_at hl 1 rfl) ?_
                  refine r_get X w CL7 7 (by decide) wf_X7_25 0 rfl rfl dX7_cornerOf_9 ?_
                  refine lv_iload_n hx hb dX7_cornerOf_12 rfl (lv_at hl 2 rfl) ?_
                  refine r_iald X w 6 rfl hc dX7_cornerOf_13 ?_
                  refine lv_iconst (v := 4) hx hb dX7_cornerOf_14 (by decide) ?_
                  refine lv_iload_n hx hb dX7_cornerOf_15 rfl (lv_at hl 0 rfl) ?_
                  refine r_ci w (r_runS (As := [.int 5]) (rest := [.int 4, .int (μ 5 ce.toNatClampNeg)]) X w (kX7_qBy l E 5 ) ck_X7_55 ⟨Nat.le_of_ble_eq_true rfl, Nat.le_of_ble_eq_true rfl⟩ [] rfl (by decide +kernel) hl.1 (Nat.le_of_ble_eq_true rfl) rfl dX7_cornerOf_16 ⟨Nat.le_of_ble_eq_true rfl, Nat.le_of_ble_eq_true rfl⟩) (wMd E a μ sp) [] rfl (by decide +kernel) rfl rfl (fun H locs w => ?_)
                  refine lv_imul hx hb dX7_cornerOf_19 ?_
                  refine lv_icmp_ne (tgt := 40) hx hb dX7_cornerOf_20 (by decide) (fun c20_91 => ?_) (fun c20_91 => ?_)
                  · refine lv_iinc (v := 6) (lv' := [(2, .int 6), (0, .ref (a 0)), (1, .int ce)]) hx hb dX7_cornerOf_40 hl (k := 0) rfl (by first | rfl | decide) (by decide) rfl (fun ls hl => ?_)
                    refine lv_goto (tgt := 2) hx hb dX7_cornerOf_43 (by decide) ?_
                    refine lv_iload_n hx hb dX7_cornerOf_2 rfl (lv_at hl 0 rfl) ?_
                    refine lv_bipush (v := 6) hx hb dX7_cornerOf_3 (by decide) ?_
                    refine lv_icmp_ge (tgt := 46) hx hb dX7_cornerOf_5 (by decide) (fun _ => ?_) (fun h => absurd h (by decide))
                    refine lv_bipush (v := (-5)) hx hb dX7_cornerOf_46 (by decide) ?_
                    have hq : fX7_cornerOf μ sp ce = ((-5)) := by simp only [fX7_cornerOf, if_pos c20_1, if_neg c35_64, if_neg c20_65, if_pos c20_66, if_neg c35_81, if_pos c20_82, if_neg c35_89, if_neg c20_90, if_neg c20_91]
                    rw [hq]
                    exact r_iret X w hr rfl dX7_cornerOf_48
                  · refine lv_aload_n hx hb dX7_cornerOf_23 rfl (lv_at hl 1 rfl) ?_
                    refine r_get X w CL7 8 (by decide) wf_X7_28 0 rfl rfl dX7_cornerOf_24 ?_
                    refine lv_iload_n hx hb dX7_cornerOf_27 rfl (lv_at hl 2 rfl) ?_
                    refine r_iald X w 7 rfl hc dX7_cornerOf_28 ?_
                    refine lv_iconst (v := 4) hx hb dX7_cornerOf_29 (by decide) ?_
                    refine lv_iload_n hx hb dX7_cornerOf_30 rfl (lv_at hl 0 rfl) ?_
                    refine r_ci w (r_runS (As := [.int 5]) (rest := [.int 4, .int (μ 6 ce.toNatClampNeg)]) X w (kX7_rBy l E 5 ) ck_X7_59 ⟨Nat.le_of_ble_eq_true rfl, Nat.le_of_ble_eq_true rfl⟩ [] rfl (by decide +kernel) hl.1 (Nat.le_of_ble_eq_true rfl) rfl dX7_cornerOf_31 ⟨Nat.le_of_ble_eq_true rfl, Nat.le_of_ble_eq_true rfl⟩) (wMd E a μ sp) [] rfl (by decide +kernel) rfl rfl (fun H locs w => ?_)
                    refine lv_imul hx hb dX7_cornerOf_34 ?_
                    refine lv_icmp_ne (tgt := 40) hx hb dX7_cornerOf_35 (by decide) (fun c35_92 => ?_) (fun c35_92 => ?_)
                    · refine lv_iinc (v := 6) (lv' := [(2, .int 6), (0, .ref (a 0)), (1, .int ce)]) hx hb dX7_cornerOf_40 hl (k := 0) rfl (by first | rfl | decide) (by decide) rfl (fun ls hl => ?_)
                      refine lv_goto (tgt := 2) hx hb dX7_cornerOf_43 (by decide) ?_
                      refine lv_iload_n hx hb dX7_cornerOf_2 rfl (lv_at hl 0 rfl) ?_
                      refine lv_bipush (v := 6) hx hb dX7_cornerOf_3 (by decide) ?_
                      refine lv_icmp_ge (tgt := 46) hx hb dX7_cornerOf_5 (by decide) (fun _ => ?_) (fun h => absurd h (by decide))
                      refine lv_bipush (v := (-5)) hx hb dX7_cornerOf_46 (by decide) ?_
                      have hq : fX7_cornerOf μ sp ce = ((-5)) := by simp only [fX7_cornerOf, if_pos c20_1, if_neg c35_64, if_neg c20_65, if_pos c20_66, if_neg c35_81, if_pos c20_82, if_neg c35_89, if_neg c20_90, if_pos c20_91, if_neg c35_92]
                      rw [hq]
                      exact r_iret X w hr rfl dX7_cornerOf_48
                    · refine lv_iload_n hx hb dX7_cornerOf_38 rfl (lv_at hl 0 rfl) ?_
                      have hq : fX7_cornerOf μ sp ce = (5) := by simp only [fX7_cornerOf, if_pos c20_1, if_neg c35_64, if_neg c20_65, if_pos c20_66, if_neg c35_81, if_pos c20_82, if_neg c35_89, if_neg c20_90, if_pos c20_91, if_pos c35_92]
                      rw [hq]
                      exact r_iret X w hr rfl dX7_cornerOf_39
                · refine lv_aload_n hx hb dX7_cornerOf_23 rfl (lv_at hl 1 rfl) ?_
                  refine r_get X w CL7 8 (by decide) wf_X7_28 0 rfl rfl dX7_cornerOf_24 ?_
                  refine lv_iload_n hx hb dX7_cornerOf_27 rfl (lv_at hl 2 rfl) ?_
                  refine r_iald X w 7 rfl hc dX7_cornerOf_28 ?_
                  refine lv_iconst (v := 4) hx hb dX7_cornerOf_29 (by decide) ?_
                  refine lv_iload_n hx hb dX7_cornerOf_30 rfl (lv_at hl 0 rfl) ?_
                  refine r_ci w (r_runS (As := [.int 4]) (rest := [.int 4, .int (μ 6 ce.toNatClampNeg)]) X w (kX7_rBy l E 4 ) ck_X7_59 ⟨Nat.le_of_ble_eq_true rfl, Nat.le_of_ble_eq_true rfl⟩ [] rfl (by decide +kernel) hl.1 (Nat.le_of_ble_eq_true rfl) rfl dX7_cornerOf_31 ⟨Nat.le_of_ble_eq_true rfl, Nat.le_of_ble_eq_true rfl⟩) (wMd E a μ sp) [] rfl (by decide +kernel) rfl rfl (fun H locs w => ?_)
                  refine lv_imul hx hb dX7_cornerOf_34 ?_
                  refine lv_icmp_ne (tgt := 40) hx hb dX7_cornerOf_35 (by decide) (fun c35_93 => ?_) (fun c35_93 => ?_)
                  · refine lv_iinc (v := 5) (lv' := [(2, .int 5), (0, .ref (a 0)), (1, .int ce)]) hx hb dX7_cornerOf_40 hl (k := 0) rfl (by first | rfl | decide) (by decide) rfl (fun ls hl => ?_)
                    refine lv_goto (tgt := 2) hx hb dX7_cornerOf_43 (by decide) ?_
                    refine lv_iload_n hx hb dX7_cornerOf_2 rfl (lv_at hl 0 rfl) ?_
                    refine lv_bipush (v := 6) hx hb dX7_cornerOf_3 (by decide) ?_
                    refine lv_icmp_ge (tgt := 46) hx hb dX7_cornerOf_5 (by decide) (fun h => absurd h (by decide)) (fun _ => ?_)
                    refine lv_aload_n hx hb dX7_cornerOf_8 rfl (lv_at hl 1 rfl) ?_
                    refine r_get X w CL7 7 (by decide) wf_X7_25 0 rfl rfl dX7_cornerOf_9 ?_
                    refine lv_iload_n hx hb dX7_cornerOf_12 rfl (lv_at hl 2 rfl) ?_
                    refine r_iald X w 6 rfl hc dX7_cornerOf_13 ?_
                    refine lv_iconst (v := 4) hx hb dX7_cornerOf_14 (by decide) ?_
                    refine lv_iload_n hx hb dX7_cornerOf_15 rfl (lv_at hl 0 rfl) ?_
                    refine r_ci w (r_runS (As := [.int 5]) (rest := [.int 4, .int (μ 5 ce.toNatClampNeg)]) X w (kX7_qBy l E 5 ) ck_X7_55 ⟨Nat.le_of_ble_eq_true rfl, Nat.le_of_ble_eq_true rfl⟩ [] rfl (by decide +kernel) hl.1 (Nat.le_of_ble_eq_true rfl) rfl dX7_cornerOf_16 ⟨Nat.le_of_ble_eq_true rfl, Nat.le_of_ble_eq_true rfl⟩) (wMd E a μ sp) [] rfl (by decide +kernel) rfl rfl (fun H locs w => ?_)
                    refine lv_imul hx hb dX7_cornerOf_19 ?_
                    refine lv_icmp_ne (tgt := 40) hx hb dX7_cornerOf_20 (by decide) (fun c20_94 => ?_) (fun c20_94 => ?_)
                    · refine lv_iinc (v := 6) (lv' := [(2, .int 6), (0, .ref (a 0)), (1, .int ce)]) hx hb dX7_cornerOf_40 hl (k := 0) rfl (by first | rfl | decide) (by decide) rfl (fun ls hl => ?_)
                      refine lv_goto (tgt := 2) hx hb dX7_cornerOf_43 (by decide) ?_
                      refine lv_iload_n hx hb dX7_cornerOf_2 rfl (lv_at hl 0 rfl) ?_
                      refine lv_bipush (v := 6) hx hb dX7_cornerOf_3 (by decide) ?_
                      refine lv_icmp_ge (tgt := 46) hx hb dX7_cornerOf_5 (by decide) (fun _ => ?_) (fun h => absurd h (by decide))
                      refine lv_bipush (v := (-5)) hx hb dX7_cornerOf_46 (by decide) ?_
                      have hq : fX7_cornerOf μ sp ce = ((-5)) := by simp only [fX7_cornerOf, if_pos c20_1, if_neg c35_64, if_neg c20_65, if_pos c20_66, if_neg c35_81, if_pos c20_82, if_neg c35_89, if_pos c20_90, if_neg c35_93, if_neg c20_94]
                      rw [hq]
                      exact r_iret X w hr rfl dX7_cornerOf_48
                    · refine lv_aload_n hx hb dX7_cornerOf_23 rfl (lv_at hl 1 rfl) ?_
                      refine r_get X w CL7 8 (by decide) wf_X7_28 0 rfl rfl dX7_cornerOf_24 ?_
                      refine lv_iload_n hx hb dX7_cornerOf_27 rfl (lv_at hl 2 rfl) ?_
                      refine r_iald X w 7 rfl hc dX7_cornerOf_28 ?_
                      refine lv_iconst (v := 4) hx hb dX7_cornerOf_29 (by decide) ?_
                      refine lv_iload_n hx hb dX7_cornerOf_30 rfl (lv_at hl 0 rfl) ?_
                      refine r_ci w (r_runS (As := [.int 5]) (rest := [.int 4, .int (μ 6 ce.toNatClampNeg)]) X w (kX7_rBy l E 5 ) ck_X7_59 ⟨Nat.le_of_ble_eq_true rfl, Nat.le_of_ble_eq_true rfl⟩ [] rfl (by decide +kernel) hl.1 (Nat.le_of_ble_eq_true rfl) rfl dX7_cornerOf_31 ⟨Nat.le_of_ble_eq_true rfl, Nat.le_of_ble_eq_true rfl⟩) (wMd E a μ sp) [] rfl (by decide +kernel) rfl rfl (fun H locs w => ?_)
                      refine lv_imul hx hb dX7_cornerOf_34 ?_
                      refine lv_icmp_ne (tgt := 40) hx hb dX7_cornerOf_35 (by decide) (fun c35_95 => ?_) (fun c35_95 => ?_)
                      · refine lv_iinc (v := 6) (lv' := [(2, .int 6), (0, .ref (a 0)), (1, .int ce)]) hx hb dX7_cornerOf_40 hl (k := 0) rfl (by first | rfl | decide) (by decide) rfl (fun ls hl => ?_)
                        refine lv_goto (tgt := 2) hx hb dX7_cornerOf_43 (by decide) ?_
                        refine lv_iload_n hx hb dX7_cornerOf_2 rfl (lv_at hl 0 rfl) ?_
                        refine lv_bipush (v := 6) hx hb dX7_cornerOf_3 (by decide) ?_
                        refine lv_icmp_ge (tgt := 46) hx hb dX7_cornerOf_5 (by decide) (fun _ => ?_) (fun h => absurd h (by decide))
                        refine lv_bipush (v := (-5)) hx hb dX7_cornerOf_46 (by decide) ?_
                        have hq : fX7_cornerOf μ sp ce = ((-5)) := by simp only [fX7_cornerOf, if_pos c20_1, if_neg c35_64, if_neg c20_65, if_pos c20_66, if_neg c35_81, if_pos c20_82, if_neg c35_89, if_pos c20_90, if_neg c35_93, if_pos c20_94, if_neg c35_95]
                        rw [hq]
                        exact r_iret X w hr rfl dX7_cornerOf_48
                      · refine lv_iload_n hx hb dX7_cornerOf_38 rfl (lv_at hl 0 rfl) ?_
                        have hq : fX7_cornerOf μ sp ce = (5) := by simp only [fX7_cornerOf, if_pos c20_1, if_neg c35_64, if_neg c20_65, if_pos c20_66, if_neg c35_81, if_pos c20_82, if_neg c35_89, if_pos c20_90, if_neg c35_93, if_pos c20_94, if_pos c35_95]
                        rw [hq]
                        exact r_iret X w hr rfl dX7_cornerOf_39
                  · refine lv_iload_n hx hb dX7_cornerOf_38 rfl (lv_at hl 0 rfl) ?_
                    have hq : fX7_cornerOf μ sp ce = (4) := by simp only [fX7_cornerOf, if_pos c20_1, if_neg c35_64, if_neg c20_65, if_pos c20_66, if_neg c35_81, if_pos c20_82, if_neg c35_89, if_pos c20_90, if_pos c35_93]
                    rw [hq]
                    exact r_iret X w hr rfl dX7_cornerOf_39
              · refine lv_iload_n hx hb dX7_cornerOf_38 rfl (lv_at hl 0 rfl) ?_
                have hq : fX7_cornerOf μ sp ce = (3) := by simp only [fX7_cornerOf, if_pos c20_1, if_neg c35_64, if_neg c20_65, if_pos c20_66, if_neg c35_81, if_pos c20_82, if_pos c35_89]
                rw [hq]
                exact r_iret X w hr rfl dX7_cornerOf_39
          · refine lv_iload_n hx hb dX7_cornerOf_38 rfl (lv_at hl 0 rfl) ?_
            have hq : fX7_cornerOf μ sp ce = (2) := by simp only [fX7_cornerOf, if_pos c20_1, if_neg c35_64, if_neg c20_65, if_pos c20_66, if_pos c35_81]
            rw [hq]
            exact r_iret X w hr rfl dX7_cornerOf_39
      · refine lv_aload_n hx hb dX7_cornerOf_23 rfl (lv_at hl 1 rfl) ?_
        refine r_get X w CL7 8 (by decide) wf_X7_28 0 rfl rfl dX7_cornerOf_24 ?_
        refine lv_iload_n hx hb dX7_cornerOf_27 rfl (lv_at hl 2 rfl) ?_
        refine r_iald X w 7 rfl hc dX7_cornerOf_28 ?_
        refine lv_iconst (v := 4) hx hb dX7_cornerOf_29 (by decide) ?_
        refine lv_iload_n hx hb dX7_cornerOf_30 rfl (lv_at hl 0 rfl) ?_
        refine r_ci w (r_runS (As := [.int 1]) (rest := [.int 4, .int (μ 6 ce.toNatClampNeg)]) X w (kX7_rBy l E 1 ) ck_X7_59 ⟨Nat.le_of_ble_eq_true rfl, Nat.le_of_ble_eq_true rfl⟩ [] rfl (by decide +kernel) hl.1 (Nat.le_of_ble_eq_true rfl) rfl dX7_cornerOf_31 ⟨Nat.le_of_ble_eq_true rfl, Nat.le_of_ble_eq_true rfl⟩) (wMd E a μ sp) [] rfl (by decide +kernel) rfl rfl (fun H locs w => ?_)
        refine lv_imul hx hb dX7_cornerOf_34 ?_
        refine lv_icmp_ne (tgt := 40) hx hb dX7_cornerOf_35 (by decide) (fun c35_96 => ?_) (fun c35_96 => ?_)
        · refine lv_iinc (v := 2) (lv' := [(2, .int 2), (0, .ref (a 0)), (1, .int ce)]) hx hb dX7_cornerOf_40 hl (k := 0) rfl (by first | rfl | decide) (by decide) rfl (fun ls hl => ?_)
          refine lv_goto (tgt := 2) hx hb dX7_cornerOf_43 (by decide) ?_
          refine lv_iload_n hx hb dX7_cornerOf_2 rfl (lv_at hl 0 rfl) ?_
          refine lv_bipush (v := 6) hx hb dX7_cornerOf_3 (by decide) ?_
          refine lv_icmp_ge (tgt := 46) hx hb dX7_cornerOf_5 (by decide) (fun h => absurd h (by decide)) (fun _ => ?_)
          refine lv_aload_n hx hb dX7_cornerOf_8 rfl (lv_at hl 1 rfl) ?_
          refine r_get X w CL7 7 (by decide) wf_X7_25 0 rfl rfl dX7_cornerOf_9 ?_
          refine lv_iload_n hx hb dX7_cornerOf_12 rfl (lv_at hl 2 rfl) ?_
          refine r_iald X w 6 rfl hc dX7_cornerOf_13 ?_
          refine lv_iconst (v := 4) hx hb dX7_cornerOf_14 (by decide) ?_
          refine lv_iload_n hx hb dX7_cornerOf_15 rfl (lv_at hl 0 rfl) ?_
          refine r_ci w (r_runS (As := [.int 2]) (rest := [.int 4, .int (μ 5 ce.toNatClampNeg)]) X w (kX7_qBy l E 2 ) ck_X7_55 ⟨Nat.le_of_ble_eq_true rfl, Nat.le_of_ble_eq_true rfl⟩ [] rfl (by decide +kernel) hl.1 (Nat.le_of_ble_eq_true rfl) rfl dX7_cornerOf_16 ⟨Nat.le_of_ble_eq_true rfl, Nat.le_of_ble_eq_true rfl⟩) (wMd E a μ sp) [] rfl (by decide +kernel) rfl rfl (fun H locs w => ?_)
          refine lv_imul hx hb dX7_cornerOf_19 ?_
          refine lv_icmp_ne (tgt := 40) hx hb dX7_cornerOf_20 (by decide) (fun c20_97 => ?_) (fun c20_97 => ?_)
          · refine lv_iinc (v := 3) (lv' := [(2, .int 3), (0, .ref (a 0)), (1, .int ce)]) hx hb dX7_cornerOf_40 hl (k := 0) rfl (by first | rfl | decide) (by decide) rfl (fun ls hl => ?_)
            refine lv_goto (tgt := 2) hx hb dX7_cornerOf_43 (by decide) ?_
            refine lv_iload_n hx hb dX7_cornerOf_2 rfl (lv_at hl 0 rfl) ?_
            refine lv_bipush (v := 6) hx hb dX7_cornerOf_3 (by decide) ?_
            refine lv_icmp_ge (tgt := 46) hx hb dX7_cornerOf_5 (by decide) (fun h => absurd h (by decide)) (fun _ => ?_)
            refine lv_aload_n hx hb dX7_cornerOf_8 rfl (lv_at hl 1 rfl) ?_
            refine r_get X w CL7 7 (by decide) wf_X7_25 0 rfl rfl dX7_cornerOf_9 ?_
            refine lv_iload_n hx hb dX7_cornerOf_12 rfl (lv_at hl 2 rfl) ?_
            refine r_iald X w 6 rfl hc dX7_cornerOf_13 ?_
            refine lv_iconst (v := 4) hx hb dX7_cornerOf_14 (by decide) ?_
            refine lv_iload_n hx hb dX7_cornerOf_15 rfl (lv_at hl 0 rfl) ?_
            refine r_ci w (r_runS (As := [.int 3]) (rest := [.int 4, .int (μ 5 ce.toNatClampNeg)]) X w (kX7_qBy l E 3 ) ck_X7_55 ⟨Nat.le_of_ble_eq_true rfl, Nat.le_of_ble_eq_true rfl⟩ [] rfl (by decide +kernel) hl.1 (Nat.le_of_ble_eq_true rfl) rfl dX7_cornerOf_16 ⟨Nat.le_of_ble_eq_true rfl, Nat.le_of_ble_eq_true rfl⟩) (wMd E a μ sp) [] rfl (by decide +kernel) rfl rfl (fun H locs w => ?_)
            refine lv_imul hx hb dX7_cornerOf_19 ?_
            refine lv_icmp_ne (tgt := 40) hx hb dX7_cornerOf_20 (by decide) (fun c20_98 => ?_) (fun c20_98 => ?_)
            · refine lv_iinc (v := 4) (lv' := [(2, .int 4), (0, .ref (a 0)), (1, .int ce)]) hx hb dX7_cornerOf_40 hl (k := 0) rfl (by first | rfl | decide) (by decide) rfl (fun ls hl => ?_)
              refine lv_goto (tgt := 2) hx hb dX7_cornerOf_43 (by decide) ?_
              refine lv_iload_n hx hb dX7_cornerOf_2 rfl (lv_at hl 0 rfl) ?_
              refine lv_bipush (v := 6) hx hb dX7_cornerOf_3 (by decide) ?_
              refine lv_icmp_ge (tgt := 46) hx hb dX7_cornerOf_5 (by decide) (fun h => absurd h (by decide)) (fun _ => ?_)
              refine lv_aload_n hx hb dX7_cornerOf_8 rfl (lv_at hl 1 rfl) ?_
              refine r_get X w CL7 7 (by decide) wf_X7_25 0 rfl rfl dX7_cornerOf_9 ?_
              refine lv_iload_n hx hb dX7_cornerOf_12 rfl (lv_at hl 2 rfl) ?_
              refine r_iald X w 6 rfl hc dX7_cornerOf_13 ?_
              refine lv_iconst (v := 4) hx hb dX7_cornerOf_14 (by decide) ?_
              refine lv_iload_n hx hb dX7_cornerOf_15 rfl (lv_at hl 0 rfl) ?_
              refine r_ci w (r_runS (As := [.int 4]) (rest := [.int 4, .int (μ 5 ce.toNatClampNeg)]) X w (kX7_qBy l E 4 ) ck_X7_55 ⟨Nat.le_of_ble_eq_true rfl, Nat.le_of_ble_eq_true rfl⟩ [] rfl (by decide +kernel) hl.1 (Nat.le_of_ble_eq_true rfl) rfl dX7_cornerOf_16 ⟨Nat.le_of_ble_eq_true rfl, Nat.le_of_ble_eq_true rfl⟩) (wMd E a μ sp) [] rfl (by decide +kernel) rfl rfl (fun H locs w => ?_)
              refine lv_imul hx hb dX7_cornerOf_19 ?_
              refine lv_icmp_ne (tgt := 40) hx hb dX7_cornerOf_20 (by decide) (fun c20_99 => ?_) (fun c20_99 => ?_)
              · refine lv_iinc (v := 5) (lv' := [(2, .int 5), (0, .ref (a 0)), (1, .int ce)]) hx hb dX7_cornerOf_40 hl (k := 0) rfl (by first | rfl | decide) (by decide) rfl (fun ls hl => ?_)
                refine lv_goto (tgt := 2) hx hb dX7_cornerOf_43 (by decide) ?_
                refine lv_iload_n hx hb dX7_cornerOf_2 rfl (lv_at hl 0 rfl) ?_
                refine lv_bipush (v := 6) hx hb dX7_cornerOf_3 (by decide) ?_
                refine lv_icmp_ge (tgt := 46) hx hb dX7_cornerOf_5 (by decide) (fun h => absurd h (by decide)) (fun _ => ?_)
                refine lv_aload_n hx hb dX7_cornerOf_8 rfl (lv_at hl 1 rfl) ?_
                refine r_get X w CL7 7 (by decide) wf_X7_25 0 rfl rfl dX7_cornerOf_9 ?_
                refine lv_iload_n hx hb dX7_cornerOf_12 rfl (lv_at hl 2 rfl) ?_
                refine r_iald X w 6 rfl hc dX7_cornerOf_13 ?_
                refine lv_iconst (v := 4) hx hb dX7_cornerOf_14 (by decide) ?_
                refine lv_iload_n hx hb dX7_cornerOf_15 rfl (lv_at hl 0 rfl) ?_
                refine r_ci w (r_runS (As := [.int 5]) (rest := [.int 4, .int (μ 5 ce.toNatClampNeg)]) X w (kX7_qBy l E 5 ) ck_X7_55 ⟨Nat.le_of_ble_eq_true rfl, Nat.le_of_ble_eq_true rfl⟩ [] rfl (by decide +kernel) hl.1 (Nat.le_of_ble_eq_true rfl) rfl dX7_cornerOf_16 ⟨Nat.le_of_ble_eq_true rfl, Nat.le_of_ble_eq_true rfl⟩) (wMd E a μ sp) [] rfl (by decide +kernel) rfl rfl (fun H locs w => ?_)
                refine lv_imul hx hb dX7_cornerOf_19 ?_
                refine lv_icmp_ne (tgt := 40) hx hb dX7_cornerOf_20 (by decide) (fun c20_100 => ?_) (fun c20_100 => ?_)
                · refine lv_iinc (v := 6) (lv' := [(2, .int 6), (0, .ref (a 0)), (1, .int ce)]) hx hb dX7_cornerOf_40 hl (k := 0) rfl (by first | rfl | decide) (by decide) rfl (fun ls hl => ?_)
                  refine lv_goto (tgt := 2) hx hb dX7_cornerOf_43 (by decide) ?_
                  refine lv_iload_n hx hb dX7_cornerOf_2 rfl (lv_at hl 0 rfl) ?_
                  refine lv_bipush (v := 6) hx hb dX7_cornerOf_3 (by decide) ?_
                  refine lv_icmp_ge (tgt := 46) hx hb dX7_cornerOf_5 (by decide) (fun _ => ?_) (fun h => absurd h (by decide))
                  refine lv_bipush (v := (-5)) hx hb dX7_cornerOf_46 (by decide) ?_
                  have hq : fX7_cornerOf μ sp ce = ((-5)) := by simp only [fX7_cornerOf, if_pos c20_1, if_neg c35_64, if_pos c20_65, if_neg c35_96, if_neg c20_97, if_neg c20_98, if_neg c20_99, if_neg c20_100]
                  rw [hq]
                  exact r_iret X w hr rfl dX7_cornerOf_48
                · refine lv_aload_n hx hb dX7_cornerOf_23 rfl (lv_at hl 1 rfl) ?_
                  refine r_get X w CL7 8 (by decide) wf_X7_28 0 rfl rfl dX7_cornerOf_24 ?_
                  refine lv_iload_n hx hb dX7_cornerOf_27 rfl (lv_at hl 2 rfl) ?_
                  refine r_iald X w 7 rfl hc dX7_cornerOf_28 ?_
                  refine lv_iconst (v := 4) hx hb dX7_cornerOf_29 (by decide) ?_
                  refine lv_iload_n hx hb dX7_cornerOf_30 rfl (lv_at hl 0 rfl) ?_
                  refine r_ci w (r_runS (As := [.int 5]) (rest := [.int 4, .int (μ 6 ce.toNatClampNeg)]) X w (kX7_rBy l E 5 ) ck_X7_59 ⟨Nat.le_of_ble_eq_true rfl, Nat.le_of_ble_eq_true rfl⟩ [] rfl (by decide +kernel) hl.1 (Nat.le_of_ble_eq_true rfl) rfl dX7_cornerOf_31 ⟨Nat.le_of_ble_eq_true rfl, Nat.le_of_ble_eq_true rfl⟩) (wMd E a μ sp) [] rfl (by decide +kernel) rfl rfl (fun H locs w => ?_)
                  refine lv_imul hx hb dX7_cornerOf_34 ?_
                  refine lv_icmp_ne (tgt := 40) hx hb dX7_cornerOf_35 (by decide) (fun c35_101 => ?_) (fun c35_101 => ?_)
                  · refine lv_iinc (v := 6) (lv' := [(2, .int 6), (0, .ref (a 0)), (1, .int ce)]) hx hb dX7_cornerOf_40 hl (k := 0) rfl (by first | rfl | decide) (by decide) rfl (fun ls hl => ?_)
                    refine lv_goto (tgt := 2) hx hb dX7_cornerOf_43 (by decide) ?_
                    refine lv_iload_n hx hb dX7_cornerOf_2 rfl (lv_at hl 0 rfl) ?_
                    refine lv_bipush (v := 6) hx hb dX7_cornerOf_3 (by decide) ?_
                    refine lv_icmp_ge (tgt := 46) hx hb dX7_cornerOf_5 (by decide) (fun _ => ?_) (fun h => absurd h (by decide))
                    refine lv_bipush (v := (-5)) hx hb dX7_cornerOf_46 (by decide) ?_
                    have hq : fX7_cornerOf μ sp ce = ((-5)) := by simp only [fX7_cornerOf, if_pos c20_1, if_neg c35_64, if_pos c20_65, if_neg c35_96, if_neg c20_97, if_neg c20_98, if_neg c20_99, if_pos c20_100, if_neg c35_101]
                    rw [hq]
                    exact r_iret X w hr rfl dX7_cornerOf_48
                  · refine lv_iload_n hx hb dX7_cornerOf_38 rfl (lv_at hl 0 rfl) ?_
                    have hq : fX7_cornerOf μ sp ce = (5) := by simp only [fX7_cornerOf, if_pos c20_1, if_neg c35_64, if_pos c20_65, if_neg c35_96, if_neg c20_97, if_neg c20_98, if_neg c20_99, if_pos c20_100, if_pos c35_101]
                    rw [hq]
                    exact r_iret X w hr rfl dX7_cornerOf_39
              · refine lv_aload_n hx hb dX7_cornerOf_23 rfl (lv_at hl 1 rfl) ?_
                refine r_get X w CL7 8 (by decide) wf_X7_28 0 rfl rfl dX7_cornerOf_24 ?_
                refine lv_iload_n hx hb dX7_cornerOf_27 rfl (lv_at hl 2 rfl) ?_
                refine r_iald X w 7 rfl hc dX7_cornerOf_28 ?_
                refine lv_iconst (v := 4) hx hb dX7_cornerOf_29 (by decide) ?_
                refine lv_iload_n hx hb dX7_cornerOf_30 rfl (lv_at hl 0 rfl) ?_
                refine r_ci w (r_runS (As := [.int 4]) (rest := [.int 4, .int (μ 6 ce.toNatClampNeg)]) X w (kX7_rBy l E 4 ) ck_X7_59 ⟨Nat.le_of_ble_eq_true rfl, Nat.le_of_ble_eq_true rfl⟩ [] rfl (by decide +kernel) hl.1 (Nat.le_of_ble_eq_true rfl) rfl dX7_cornerOf_31 ⟨Nat.le_of_ble_eq_true rfl, Nat.le_of_ble_eq_true rfl⟩) (wMd E a μ sp) [] rfl (by decide +kernel) rfl rfl (fun H locs w => ?_)
                refine lv_imul hx hb dX7_cornerOf_34 ?_
                refine lv_icmp_ne (tgt := 40) hx hb dX7_cornerOf_35 (by decide) (fun c35_102 => ?_) (fun c35_102 => ?_)
                · refine lv_iinc (v := 5) (lv' := [(2, .int 5), (0, .ref (a 0)), (1, .int ce)]) hx hb dX7_cornerOf_40 hl (k := 0) rfl (by first | rfl | decide) (by decide) rfl (fun ls hl => ?_)
                  refine lv_goto (tgt := 2) hx hb dX7_cornerOf_43 (by decide) ?_
                  refine lv_iload_n hx hb dX7_cornerOf_2 rfl (lv_at hl 0 rfl) ?_
                  refine lv_bipush (v := 6) hx hb dX7_cornerOf_3 (by decide) ?_
                  refine lv_icmp_ge (tgt := 46) hx hb dX7_cornerOf_5 (by decide) (fun h => absurd h (by decide)) (fun _ => ?_)
                  refine lv_aload_n hx hb dX7_cornerOf_8 rfl (lv_at hl 1 rfl) ?_
                  refine r_get X w CL7 7 (by decide) wf_X7_25 0 rfl rfl dX7_cornerOf_9 ?_
                  refine lv_iload_n hx hb dX7_cornerOf_12 rfl (lv_at hl 2 rfl) ?_
                  refine r_iald X w 6 rfl hc dX7_cornerOf_13 ?_
                  refine lv_iconst (v := 4) hx hb dX7_cornerOf_14 (by decide) ?_
                  refine lv_iload_n hx hb dX7_cornerOf_15 rfl (lv_at hl 0 rfl) ?_
                  refine r_ci w (r_runS (As := [.int 5]) (rest := [.int 4, .int (μ 5 ce.toNatClampNeg)]) X w (kX7_qBy l E 5 ) ck_X7_55 ⟨Nat.le_of_ble_eq_true rfl, Nat.le_of_ble_eq_true rfl⟩ [] rfl (by decide +kernel) hl.1 (Nat.le_of_ble_eq_true rfl) rfl dX7_cornerOf_16 ⟨Nat.le_of_ble_eq_true rfl, Nat.le_of_ble_eq_true rfl⟩) (wMd E a μ sp) [] rfl (by decide +kernel) rfl rfl (fun H locs w => ?_)
                  refine lv_imul hx hb dX7_cornerOf_19 ?_
                  refine lv_icmp_ne (tgt := 40) hx hb dX7_cornerOf_20 (by decide) (fun c20_103 => ?_) (fun c20_103 => ?_)
                  · refine lv_iinc (v := 6) (lv' := [(2, .int 6), (0, .ref (a 0)), (1, .int ce)]) hx hb dX7_cornerOf_40 hl (k := 0) rfl (by first | rfl | decide) (by decide) rfl (fun ls hl => ?_)
                    refine lv_goto (tgt := 2) hx hb dX7_cornerOf_43 (by decide) ?_
                    refine lv_iload_n hx hb dX7_cornerOf_2 rfl (lv_at hl 0 rfl) ?_
                    refine lv_bipush (v := 6) hx hb dX7_cornerOf_3 (by decide) ?_
                    refine lv_icmp_ge (tgt := 46) hx hb dX7_cornerOf_5 (by decide) (fun _ => ?_) (fun h => absurd h (by decide))
                    refine lv_bipush (v := (-5)) hx hb dX7_cornerOf_46 (by decide) ?_
                    have hq : fX7_cornerOf μ sp ce = ((-5)) := by simp only [fX7_cornerOf, if_pos c20_1, if_neg c35_64, if_pos c20_65, if_neg c35_96, if_neg c20_97, if_neg c20_98, if_pos c20_99, if_neg c35_102, if_neg c20_103]
                    rw [hq]
                    exact r_iret X w hr rfl dX7_cornerOf_48
                  · refine lv_aload_n hx hb dX7_cornerOf_23 rfl (lv_at hl 1 rfl) ?_
                    refine r_get X w CL7 8 (by decide) wf_X7_28 0 rfl rfl dX7_cornerOf_24 ?_
                    refine lv_iload_n hx hb dX7_cornerOf_27 rfl (lv_at hl 2 rfl) ?_
                    refine r_iald X w 7 rfl hc dX7_cornerOf_28 ?_
                    refine lv_iconst (v := 4) hx hb dX7_cornerOf_29 (by decide) ?_
                    refine lv_iload_n hx hb dX7_cornerOf_30 rfl (lv_at hl 0 rfl) ?_
                    refine r_ci w (r_runS (As := [.int 5]) (rest := [.int 4, .int (μ 6 ce.toNatClampNeg)]) X w (kX7_rBy l E 5 ) ck_X7_59 ⟨Nat.le_of_ble_eq_true rfl, Nat.le_of_ble_eq_true rfl⟩ [] rfl (by decide +kernel) hl.1 (Nat.le_of_ble_eq_true rfl) rfl dX7_cornerOf_31 ⟨Nat.le_of_ble_eq_true rfl, Nat.le_of_ble_eq_true rfl⟩) (wMd E a μ sp) [] rfl (by decide +kernel) rfl rfl (fun H locs w => ?_)
                    refine lv_imul hx hb dX7_cornerOf_34 ?_
                    refine lv_icmp_ne (tgt := 40) hx hb dX7_cornerOf_35 (by decide) (fun c35_104 => ?_) (fun c35_104 => ?_)
                    · refine lv_iinc (v := 6) (lv' := [(2, .int 6), (0, .ref (a 0)), (1, .int ce)]) hx hb dX7_cornerOf_40 hl (k := 0) rfl (by first | rfl | decide) (by decide) rfl (fun ls hl => ?_)
                      refine lv_goto (tgt := 2) hx hb dX7_cornerOf_43 (by decide) ?_
                      refine lv_iload_n hx hb dX7_cornerOf_2 rfl (lv_at hl 0 rfl) ?_
                      refine lv_bipush (v := 6) hx hb dX7_cornerOf_3 (by decide) ?_
                      refine lv_icmp_ge (tgt := 46) hx hb dX7_cornerOf_5 (by decide) (fun _ => ?_) (fun h => absurd h (by decide))
                      refine lv_bipush (v := (-5)) hx hb dX7_cornerOf_46 (by decide) ?_
                      have hq : fX7_cornerOf μ sp ce = ((-5)) := by simp only [fX7_cornerOf, if_pos c20_1, if_neg c35_64, if_pos c20_65, if_neg c35_96, if_neg c20_97, if_neg c20_98, if_pos c20_99, if_neg c35_102, if_pos c20_103, if_neg c35_104]
                      rw [hq]
                      exact r_iret X w hr rfl dX7_cornerOf_48
                    · refine lv_iload_n hx hb dX7_cornerOf_38 rfl (lv_at hl 0 rfl) ?_
                      have hq : fX7_cornerOf μ sp ce = (5) := by simp only [fX7_cornerOf, if_pos c20_1, if_neg c35_64, if_pos c20_65, if_neg c35_96, if_neg c20_97, if_neg c20_98, if_pos c20_99, if_neg c35_102, if_pos c20_103, if_pos c35_104]
                      rw [hq]
                      exact r_iret X w hr rfl dX7_cornerOf_39
                · refine lv_iload_n hx hb dX7_cornerOf_38 rfl (lv_at hl 0 rfl) ?_
                  have hq : fX7_cornerOf μ sp ce = (4) := by simp only [fX7_cornerOf, if_pos c20_1, if_neg c35_64, if_pos c20_65, if_neg c35_96, if_neg c20_97, if_neg c20_98, if_pos c20_99, if_pos c35_102]
                  rw [hq]
                  exact r_iret X w hr rfl dX7_cornerOf_39
            · refine lv_aload_n hx hb dX7_cornerOf_23 rfl (lv_at hl 1 rfl) ?_
              refine r_get X w CL7 8 (by decide) wf_X7_28 0 rfl rfl dX7_cornerOf_24 ?_
              refine lv_iload_n hx hb dX7_cornerOf_27 rfl (lv_at hl 2 rfl) ?_
              refine r_iald X w 7 rfl hc dX7_cornerOf_28 ?_
              refine lv_iconst (v := 4) hx hb dX7_cornerOf_29 (by decide) ?_
              refine lv_iload_n hx hb dX7_cornerOf_30 rfl (lv_at hl 0 rfl) ?_
              refine r_ci w (r_runS (As := [.int 3]) (rest := [.int 4, .int (μ 6 ce.toNatClampNeg)]) X w (kX7_rBy l E 3 ) ck_X7_59 ⟨Nat.le_of_ble_eq_true rfl, Nat.le_of_ble_eq_true rfl⟩ [] rfl (by decide +kernel) hl.1 (Nat.le_of_ble_eq_true rfl) rfl dX7_cornerOf_31 ⟨Nat.le_of_ble_eq_true rfl, Nat.le_of_ble_eq_true rfl⟩) (wMd E a μ sp) [] rfl (by decide +kernel) rfl rfl (fun H locs w => ?_)
              refine lv_imul hx hb dX7_cornerOf_34 ?_
              refine lv_icmp_ne (tgt := 40) hx hb dX7_cornerOf_35 (by decide) (fun c35_105 => ?_) (fun c35_105 => ?_)
              · refine lv_iinc (v := 4) (lv' := [(2, .int 4), (0, .ref (a 0)), (1, .int ce)]) hx hb dX7_cornerOf_40 hl (k := 0) rfl (by first | rfl | decide) (by decide) rfl (fun ls hl => ?_)
                refine lv_goto (tgt := 2) hx hb dX7_cornerOf_43 (by decide) ?_
                refine lv_iload_n hx hb dX7_cornerOf_2 rfl (lv_at hl 0 rfl) ?_
                refine lv_bipush (v := 6) hx hb dX7_cornerOf_3 (by decide) ?_
                refine lv_icmp_ge (tgt := 46) hx hb dX7_cornerOf_5 (by decide) (fun h => absurd h (by decide)) (fun _ => ?_)
                refine lv_aload_n hx hb dX7_cornerOf_8 rfl (lv_at hl 1 rfl) ?_
                refine r_get X w CL7 7 (by decide) wf_X7_25 0 rfl rfl dX7_cornerOf_9 ?_
                refine lv_iload_n hx hb dX7_cornerOf_12 rfl (lv_at hl 2 rfl) ?_
                refine r_iald X w 6 rfl hc dX7_cornerOf_13 ?_
                refine lv_iconst (v := 4) hx hb dX7_cornerOf_14 (by decide) ?_
                refine lv_iload_n hx hb dX7_cornerOf_15 rfl (lv_at hl 0 rfl) ?_
                refine r_ci w (r_runS (As := [.int 4]) (rest := [.int 4, .int (μ 5 ce.toNatClampNeg)]) X w (kX7_qBy l E 4 ) ck_X7_55 ⟨Nat.le_of_ble_eq_true rfl, Nat.le_of_ble_eq_true rfl⟩ [] rfl (by decide +kernel) hl.1 (Nat.le_of_ble_eq_true rfl) rfl dX7_cornerOf_16 ⟨Nat.le_of_ble_eq_true rfl, Nat.le_of_ble_eq_true rfl⟩) (wMd E a μ sp) [] rfl (by decide +kernel) rfl rfl (fun H locs w => ?_)
                refine lv_imul hx hb dX7_cornerOf_19 ?_
                refine lv_icmp_ne (tgt := 40) hx hb dX7_cornerOf_20 (by decide) (fun c20_106 => ?_) (fun c20_106 => ?_)
                · refine lv_iinc (v := 5) (lv' := [(2, .int 5), (0, .ref (a 0)), (1, .int ce)]) hx hb dX7_cornerOf_40 hl (k := 0) rfl (by first | rfl | decide) (by decide) rfl (fun ls hl => ?_)
                  refine lv_goto (tgt := 2) hx hb dX7_cornerOf_43 (by decide) ?_
                  refine lv_iload_n hx hb dX7_cornerOf_2 rfl (lv_at hl 0 rfl) ?_
                  refine lv_bipush (v := 6) hx hb dX7_cornerOf_3 (by decide) ?_
                  refine lv_icmp_ge (tgt := 46) hx hb dX7_cornerOf_5 (by decide) (fun h => absurd h (by decide)) (fun _ => ?_)
                  refine lv_aload_n hx hb dX7_cornerOf_8 rfl (lv_at hl 1 rfl) ?_
                  refine r_get X w CL7 7 (by decide) wf_X7_25 0 rfl rfl dX7_cornerOf_9 ?_
                  refine lv_iload_n hx hb dX7_cornerOf_12 rfl (lv_at hl 2 rfl) ?_
                  refine r_iald X w 6 rfl hc dX7_cornerOf_13 ?_
                  refine lv_iconst (v := 4) hx hb dX7_cornerOf_14 (by decide) ?_
                  refine lv_iload_n hx hb dX7_cornerOf_15 rfl (lv_at hl 0 rfl) ?_
                  refine r_ci w (r_runS (As := [.int 5]) (rest := [.int 4, .int (μ 5 ce.toNatClampNeg)]) X w (kX7_qBy l E 5 ) ck_X7_55 ⟨Nat.le_of_ble_eq_true rfl, Nat.le_of_ble_eq_true rfl⟩ [] rfl (by decide +kernel) hl.1 (Nat.le_of_ble_eq_true rfl) rfl dX7_cornerOf_16 ⟨Nat.le_of_ble_eq_true rfl, Nat.le_of_ble_eq_true rfl⟩) (wMd E a μ sp) [] rfl (by decide +kernel) rfl rfl (fun H locs w => ?_)
                  refine lv_imul hx hb dX7_cornerOf_19 ?_
                  refine lv_icmp_ne (tgt := 40) hx hb dX7_cornerOf_20 (by decide) (fun c20_107 => ?_) (fun c20_107 => ?_)
                  · refine lv_iinc (v := 6) (lv' := [(2, .int 6), (0, .ref (a 0)), (1, .int ce)]) hx hb dX7_cornerOf_40 hl (k := 0) rfl (by first | rfl | decide) (by decide) rfl (fun ls hl => ?_)
                    refine lv_goto (tgt := 2) hx hb dX7_cornerOf_43 (by decide) ?_
                    refine lv_iload_n hx hb dX7_cornerOf_2 rfl (lv_at hl 0 rfl) ?_
                    refine lv_bipush (v := 6) hx hb dX7_cornerOf_3 (by decide) ?_
                    refine lv_icmp_ge (tgt := 46) hx hb dX7_cornerOf_5 (by decide) (fun _ => ?_) (fun h => absurd h (by decide))
                    refine lv_bipush (v := (-5)) hx hb dX7_cornerOf_46 (by decide) ?_
                    have hq : fX7_cornerOf μ sp ce = ((-5)) := by simp only [fX7_cornerOf, if_pos c20_1, if_neg c35_64, if_pos c20_65, if_neg c35_96, if_neg c20_97, if_pos c20_98, if_neg c35_105, if_neg c20_106, if_neg c20_107]
                    rw [hq]
                    exact r_iret X w hr rfl dX7_cornerOf_48
                  · refine lv_aload_n hx hb dX7_cornerOf_23 rfl (lv_at hl 1 rfl) ?_
                    refine r_get X w CL7 8 (by decide) wf_X7_28 0 rfl rfl dX7_cornerOf_24 ?_
                    refine lv_iload_n hx hb dX7_cornerOf_27 rfl (lv_at hl 2 rfl) ?_
                    refine r_iald X w 7 rfl hc dX7_cornerOf_28 ?_
                    refine lv_iconst (v := 4) hx hb dX7_cornerOf_29 (by decide) ?_
                    refine lv_iload_n hx hb dX7_cornerOf_30 rfl (lv_at hl 0 rfl) ?_
                    refine r_ci w (r_runS (As := [.int 5]) (rest := [.int 4, .int (μ 6 ce.toNatClampNeg)]) X w (kX7_rBy l E 5 ) ck_X7_59 ⟨Nat.le_of_ble_eq_true rfl, Nat.le_of_ble_eq_true rfl⟩ [] rfl (by decide +kernel) hl.1 (Nat.le_of_ble_eq_true rfl) rfl dX7_cornerOf_31 ⟨Nat.le_of_ble_eq_true rfl, Nat.le_of_ble_eq_true rfl⟩) (wMd E a μ sp) [] rfl (by decide +kernel) rfl rfl (fun H locs w => ?_)
                    refine lv_imul hx hb dX7_cornerOf_34 ?_
                    refine lv_icmp_ne (tgt := 40) hx hb dX7_cornerOf_35 (by decide) (fun c35_108 => ?_) (fun c35_108 => ?_)
                    · refine lv_iinc (v := 6) (lv' := [(2, .int 6), (0, .ref (a 0)), (1, .int ce)]) hx hb dX7_cornerOf_40 hl (k := 0) rfl (by first | rfl | decide) (by decide) rfl (fun ls hl => ?_)
                      refine lv_goto (tgt := 2) hx hb dX7_cornerOf_43 (by decide) ?_
                      refine lv_iload_n hx hb dX7_cornerOf_2 rfl (lv_at hl 0 rfl) ?_
                      refine lv_bipush (v := 6) hx hb dX7_cornerOf_3 (by decide) ?_
                      refine lv_icmp_ge (tgt := 46) hx hb dX7_cornerOf_5 (by decide) (fun _ => ?_) (fun h => absurd h (by decide))
                      refine lv_bipush (v := (-5)) hx hb dX7_cornerOf_46 (by decide) ?_
                      have hq : fX7_cornerOf μ sp ce = ((-5)) := by simp only [fX7_cornerOf, if_pos c20_1, if_neg c35_64, if_pos c20_65, if_neg c35_96, if_neg c20_97, if_pos c20_98, if_neg c35_105, if_neg c20_106, if_pos c20_107, if_neg c35_108]
                      rw [hq]
                      exact r_iret X w hr rfl dX7_cornerOf_48
                    · refine lv_iload_n hx hb dX7_cornerOf_38 rfl (lv_at hl 0 rfl) ?_
                      have hq : fX7_cornerOf μ sp ce = (5) := by simp only [fX7_cornerOf, if_pos c20_1, if_neg c35_64, if_pos c20_65, if_neg c35_96, if_neg c20_97, if_pos c20_98, if_neg c35_105, if_neg c20_106, if_pos c20_107, if_pos c35_108]
                      rw [hq]
                      exact r_iret X w hr rfl dX7_cornerOf_39
                · refine lv_aload_n hx hb dX7_cornerOf_23 rfl (lv_at hl 1 rfl) ?_
                  refine r_get X w CL7 8 (by decide) wf_X7_28 0 rfl rfl dX7_cornerOf_24 ?_
                  refine lv_iload_n hx hb dX7_cornerOf_27 rfl (lv_at hl 2 rfl) ?_
                  refine r_iald X w 7 rfl hc dX7_cornerOf_28 ?_
                  refine lv_iconst (v := 4) hx hb dX7_cornerOf_29 (by decide) ?_
                  refine lv_iload_n hx hb dX7_cornerOf_30 rfl (lv_at hl 0 rfl) ?_
                  refine r_ci w (r_runS (As := [.int 4]) (rest := [.int 4, .int (μ 6 ce.toNatClampNeg)]) X w (kX7_rBy l E 4 ) ck_X7_59 ⟨Nat.le_of_ble_eq_true rfl, Nat.le_of_ble_eq_true rfl⟩ [] rfl (by decide +kernel) hl.1 (Nat.le_of_ble_eq_true rfl) rfl dX7_cornerOf_31 ⟨Nat.le_of_ble_eq_true rfl, Nat.le_of_ble_eq_true rfl⟩) (wMd E a μ sp) [] rfl (by decide +kernel) rfl rfl (fun H locs w => ?_)
                  refine lv_imul hx hb dX7_cornerOf_34 ?_
                  refine lv_icmp_ne (tgt := 40) hx hb dX7_cornerOf_35 (by decide) (fun c35_109 => ?_) (fun c35_109 => ?_)
                  · refine lv_iinc (v := 5) (lv' := [(2, .int 5), (0, .ref (a 0)), (1, .int ce)]) hx hb dX7_cornerOf_40 hl (k := 0) rfl (by first | rfl | decide) (by decide) rfl (fun ls hl => ?_)
                    refine lv_goto (tgt := 2) hx hb dX7_cornerOf_43 (by decide) ?_
                    refine lv_iload_n hx hb dX7_cornerOf_2 rfl (lv_at hl 0 rfl) ?_
                    refine lv_bipush (v := 6) hx hb dX7_cornerOf_3 (by decide) ?_
                    refine lv_icmp_ge (tgt := 46) hx hb dX7_cornerOf_5 (by decide) (fun h => absurd h (by decide)) (fun _ => ?_)
                    refine lv_aload_n hx hb dX7_cornerOf_8 rfl (lv_at hl 1 rfl) ?_
                    refine r_get X w CL7 7 (by decide) wf_X7_25 0 rfl rfl dX7_cornerOf_9 ?_
                    refine lv_iload_n hx hb dX7_cornerOf_12 rfl (lv_at hl 2 rfl) ?_
                    refine r_iald X w 6 rfl hc dX7_cornerOf_13 ?_
                    refine lv_iconst (v := 4) hx hb dX7_cornerOf_14 (by decide) ?_
                    refine lv_iload_n hx hb dX7_cornerOf_15 rfl (lv_at hl 0 rfl) ?_
                    refine r_ci w (r_runS (As := [.int 5]) (rest := [.int 4, .int (μ 5 ce.toNatClampNeg)]) X w (kX7_qBy l E 5 ) ck_X7_55 ⟨Nat.le_of_ble_eq_true rfl, Nat.le_of_ble_eq_true rfl⟩ [] rfl (by decide +kernel) hl.1 (Nat.le_of_ble_eq_true rfl) rfl dX7_cornerOf_16 ⟨Nat.le_of_ble_eq_true rfl, Nat.le_of_ble_eq_true rfl⟩) (wMd E a μ sp) [] rfl (by decide +kernel) rfl rfl (fun H locs w => ?_)
                    refine lv_imul hx hb dX7_cornerOf_19 ?_
                    refine lv_icmp_ne (tgt := 40) hx hb dX7_cornerOf_20 (by decide) (fun c20_110 => ?_) (fun c20_110 => ?_)
                    · refine lv_iinc (v := 6) (lv' := [(2, .int 6), (0, .ref (a 0)), (1, .int ce)]) hx hb dX7_cornerOf_40 hl (k := 0) rfl (by first | rfl | decide) (by decide) rfl (fun ls hl => ?_)
                      refine lv_goto (tgt := 2) hx hb dX7_cornerOf_43 (by decide) ?_
                      refine lv_iload_n hx hb dX7_cornerOf_2 rfl (lv_at hl 0 rfl) ?_
                      refine lv_bipush (v := 6) hx hb dX7_cornerOf_3 (by decide) ?_
                      refine lv_icmp_ge (tgt := 46) hx hb dX7_cornerOf_5 (by decide) (fun _ => ?_) (fun h => absurd h (by decide))
                      refine lv_bipush (v := (-5)) hx hb dX7_cornerOf_46 (by decide) ?_
                      have hq : fX7_cornerOf μ sp ce = ((-5)) := by simp only [fX7_cornerOf, if_pos c20_1, if_neg c35_64, if_pos c20_65, if_neg c35_96, if_neg c20_97, if_pos c20_98, if_neg c35_105, if_pos c20_106, if_neg c35_109, if_neg c20_110]
                      rw [hq]
                      exact r_iret X w hr rfl dX7_cornerOf_48
                    · refine lv_aload_n hx hb dX7_cornerOf_23 rfl (lv_at hl 1 rfl) ?_
                      refine r_get X w CL7 8 (by decide) wf_X7_28 0 rfl rfl dX7_cornerOf_24 ?_
                      refine lv_iload_n hx hb dX7_cornerOf_27 rfl (lv_at hl 2 rfl) ?_
                      refine r_iald X w 7 rfl hc dX7_cornerOf_28 ?_
                      refine lv_iconst (v := 4) hx hb dX7_cornerOf_29 (by decide) ?_
                      refine lv_iload_n hx hb dX7_cornerOf_30 rfl (lv_at hl 0 rfl) ?_
                      refine r_ci w (r_runS (As := [.int 5]) (rest := [.int 4, .int (μ 6 ce.toNatClampNeg)]) X w (kX7_rBy l E 5 ) ck_X7_59 ⟨Nat.le_of_ble_eq_true rfl, Nat.le_of_ble_eq_true rfl⟩ [] rfl (by decide +kernel) hl.1 (Nat.le_of_ble_eq_true rfl) rfl dX7_cornerOf_31 ⟨Nat.le_of_ble_eq_true rfl, Nat.le_of_ble_eq_true rfl⟩) (wMd E a μ sp) [] rfl (by decide +kernel) rfl rfl (fun H locs w => ?_)
                      refine lv_imul hx hb dX7_cornerOf_34 ?_
                      refine lv_icmp_ne (tgt := 40) hx hb dX7_cornerOf_35 (by decide) (fun c35_111 => ?_) (fun c35_111 => ?_)
                      · refine lv_iinc (v := 6) (lv' := [(2, .int 6), (0, .ref (a 0)), (1, .int ce)]) hx hb dX7_cornerOf_40 hl (k := 0) rfl (by first | rfl | decide) (by decide) rfl (fun ls hl => ?_)
                        refine lv_goto (tgt := 2) hx hb dX7_cornerOf_43 (by decide) ?_
                        refine lv_iload_n hx hb dX7_cornerOf_2 rfl (lv_at hl 0 rfl) ?_
                        refine lv_bipush (v := 6) hx hb dX7_cornerOf_3 (by decide) ?_
                        refine lv_icmp_ge (tgt := 46) hx hb dX7_cornerOf_5 (by decide) (fun _ => ?_) (fun h => absurd h (by decide))
                        refine lv_bipush (v := (-5)) hx hb dX7_cornerOf_46 (by decide) ?_
                        have hq : fX7_cornerOf μ sp ce = ((-5)) := by simp only [fX7_cornerOf, if_pos c20_1, if_neg c35_64, if_pos c20_65, if_neg c35_96, if_neg c20_97, if_pos c20_98, if_neg c35_105, if_pos c20_106, if_neg c35_109, if_pos c20_110, if_neg c35_111]
                        rw [hq]
                        exact r_iret X w hr rfl dX7_cornerOf_48
                      · refine lv_iload_n hx hb dX7_cornerOf_38 rfl (lv_at hl 0 rfl) ?_
                        have hq : fX7_cornerOf μ sp ce = (5) := by simp only [fX7_cornerOf, if_pos c20_1, if_neg c35_64, if_pos c20_65, if_neg c35_96, if_neg c20_97, if_pos c20_98, if_neg c35_105, if_pos c20_106, if_neg c35_109, if_pos c20_110, if_pos c35_111]
                        rw [hq]
                        exact r_iret X w hr rfl dX7_cornerOf_39
                  · refine lv_iload_n hx hb dX7_cornerOf_38 rfl (lv_at hl 0 rfl) ?_
                    have hq : fX7_cornerOf μ sp ce = (4) := by simp only [fX7_cornerOf, if_pos c20_1, if_neg c35_64, if_pos c20_65, if_neg c35_96, if_neg c20_97, if_pos c20_98, if_neg c35_105, if_pos c20_106, if_pos c35_109]
                    rw [hq]
                    exact r_iret X w hr rfl dX7_cornerOf_39
              · refine lv_iload_n hx hb dX7_cornerOf_38 rfl (lv_at hl 0 rfl) ?_
                have hq : fX7_cornerOf μ sp ce = (3) := by simp only [fX7_cornerOf, if_pos c20_1, if_neg c35_64, if_pos c20_65, if_neg c35_96, if_neg c20_97, if_pos c20_98, if_pos c35_105]
                rw [hq]
                exact r_iret X w hr rfl dX7_cornerOf_39
          · refine lv_aload_n hx hb dX7_cornerOf_23 rfl (lv_at hl 1 rfl) ?_
            refine r_get X w CL7 8 (by decide) wf_X7_28 0 rfl rfl dX7_cornerOf_24 ?_
            refine lv_iload_n hx hb dX7_cornerOf_27 rfl (lv_at hl 2 rfl) ?_
            refine r_iald X w 7 rfl hc dX7_cornerOf_28 ?_
            refine lv_iconst (v := 4) hx hb dX7_cornerOf_29 (by decide) ?_
            refine lv_iload_n hx hb dX7_cornerOf_30 rfl (lv_at hl 0 rfl) ?_
            refine r_ci w (r_runS (As := [.int 2]) (rest := [.int 4, .int (μ 6 ce.toNatClampNeg)]) X w (kX7_rBy l E 2 ) ck_X7_59 ⟨Nat.le_of_ble_eq_true rfl, Nat.le_of_ble_eq_true rfl⟩ [] rfl (by decide +kernel) hl.1 (Nat.le_of_ble_eq_true rfl) rfl dX7_cornerOf_31 ⟨Nat.le_of_ble_eq_true rfl, Nat.le_of_ble_eq_true rfl⟩) (wMd E a μ sp) [] rfl (by decide +kernel) rfl rfl (fun H locs w => ?_)
            refine lv_imul hx hb dX7_cornerOf_34 ?_
            refine lv_icmp_ne (tgt := 40) hx hb dX7_cornerOf_35 (by decide) (fun c35_112 => ?_) (fun c35_112 => ?_)
            · refine lv_iinc (v := 3) (lv' := [(2, .int 3), (0, .ref (a 0)), (1, .int ce)]) hx hb dX7_cornerOf_40 hl (k := 0) rfl (by first | rfl | decide) (by decide) rfl (fun ls hl => ?_)
              refine lv_goto (tgt := 2) hx hb dX7_cornerOf_43 (by decide) ?_
              refine lv_iload_n hx hb dX7_cornerOf_2 rfl (lv_at hl 0 rfl) ?_
              refine lv_bipush (v := 6) hx hb dX7_cornerOf_3 (by decide) ?_
              refine lv_icmp_ge (tgt := 46) hx hb dX7_cornerOf_5 (by decide) (fun h => absurd h (by decide)) (fun _ => ?_)
              refine lv_aload_n hx hb dX7_cornerOf_8 rfl (lv_at hl 1 rfl) ?_
              refine r_get X w CL7 7 (by decide) wf_X7_25 0 rfl rfl dX7_cornerOf_9 ?_
              refine lv_iload_n hx hb dX7_cornerOf_12 rfl (lv_at hl 2 rfl) ?_
              refine r_iald X w 6 rfl hc dX7_cornerOf_13 ?_
              refine lv_iconst (v := 4) hx hb dX7_cornerOf_14 (by decide) ?_
              refine lv_iload_n hx hb dX7_cornerOf_15 rfl (lv_at hl 0 rfl) ?_
              refine r_ci w (r_runS (As := [.int 3]) (rest := [.int 4, .int (μ 5 ce.toNatClampNeg)]) X w (kX7_qBy l E 3 ) ck_X7_55 ⟨Nat.le_of_ble_eq_true rfl, Nat.le_of_ble_eq_true rfl⟩ [] rfl (by decide +kernel) hl.1 (Nat.le_of_ble_eq_true rfl) rfl dX7_cornerOf_16 ⟨Nat.le_of_ble_eq_true rfl, Nat.le_of_ble_eq_true rfl⟩) (wMd E a μ sp) [] rfl (by decide +kernel) rfl rfl (fun H locs w => ?_)
              refine lv_imul hx hb dX7_cornerOf_19 ?_
              refine lv_icmp_ne (tgt := 40) hx hb dX7_cornerOf_20 (by decide) (fun c20_113 => ?_) (fun c20_113 => ?_)
              · refine lv_iinc (v := 4) (lv' := [(2, .int 4), (0, .ref (a 0)), (1, .int ce)]) hx hb dX7_cornerOf_40 hl (k := 0) rfl (by first | rfl | decide) (by decide) rfl (fun ls hl => ?_)
                refine lv_goto (tgt := 2) hx hb dX7_cornerOf_43 (by decide) ?_
                refine lv_iload_n hx hb dX7_cornerOf_2 rfl (lv_at hl 0 rfl) ?_
                refine lv_bipush (v := 6) hx hb dX7_cornerOf_3 (by decide) ?_
                refine lv_icmp_ge (tgt := 46) hx hb dX7_cornerOf_5 (by decide) (fun h => absurd h (by decide)) (fun _ => ?_)
                refine lv_aload_n hx hb dX7_cornerOf_8 rfl (lv_at hl 1 rfl) ?_
                refine r_get X w CL7 7 (by decide) wf_X7_25 0 rfl rfl dX7_cornerOf_9 ?_
                refine lv_iload_n hx hb dX7_cornerOf_12 rfl (lv_at hl 2 rfl) ?_
                refine r_iald X w 6 rfl hc dX7_cornerOf_13 ?_
                refine lv_iconst (v := 4) hx hb dX7_cornerOf_14 (by decide) ?_
                refine lv_iload_n hx hb dX7_cornerOf_15 rfl (lv_at hl 0 rfl) ?_
                refine r_ci w (r_runS (As := [.int 4]) (rest := [.int 4, .int (μ 5 ce.toNatClampNeg)]) X w (kX7_qBy l E 4 ) ck_X7_55 ⟨Nat.le_of_ble_eq_true rfl, Nat.le_of_ble_eq_true rfl⟩ [] rfl (by decide +kernel) hl.1 (Nat.le_of_ble_eq_true rfl) rfl dX7_cornerOf_16 ⟨Nat.le_of_ble_eq_true rfl, Nat.le_of_ble_eq_true rfl⟩) (wMd E a μ sp) [] rfl (by decide +kernel) rfl rfl (fun H locs w => ?_)
                refine lv_imul hx hb dX7_cornerOf_19 ?_
                refine lv_icmp_ne (tgt := 40) hx hb dX7_cornerOf_20 (by decide) (fun c20_114 => ?_) (fun c20_114 => ?_)
                · refine lv_iinc (v := 5) (lv' := [(2, .int 5), (0, .ref (a 0)), (1, .int ce)]) hx hb dX7_cornerOf_40 hl (k := 0) rfl (by first | rfl | decide) (by decide) rfl (fun ls hl => ?_)
                  refine lv_goto (tgt := 2) hx hb dX7_cornerOf_43 (by decide) ?_
                  refine lv_iload_n hx hb dX7_cornerOf_2 rfl (lv_at hl 0 rfl) ?_
                  refine lv_bipush (v := 6) hx hb dX7_cornerOf_3 (by decide) ?_
                  refine lv_icmp_ge (tgt := 46) hx hb dX7_cornerOf_5 (by decide) (fun h => absurd h (by decide)) (fun _ => ?_)
                  refine lv_aload_n hx hb dX7_cornerOf_8 rfl (lv_at hl 1 rfl) ?_
                  refine r_get X w CL7 7 (by decide) wf_X7_25 0 rfl rfl dX7_cornerOf_9 ?_
                  refine lv_iload_n hx hb dX7_cornerOf_12 rfl (lv_at hl 2 rfl) ?_
                  refine r_iald X w 6 rfl hc dX7_cornerOf_13 ?_
                  refine lv_iconst (v := 4) hx hb dX7_cornerOf_14 (by decide) ?_
                  refine lv_iload_n hx hb dX7_cornerOf_15 rfl (lv_at hl 0 rfl) ?_
                  refine r_ci w (r_runS (As := [.int 5]) (rest := [.int 4, .int (μ 5 ce.toNatClampNeg)]) X w (kX7_qBy l E 5 ) ck_X7_55 ⟨Nat.le_of_ble_eq_true rfl, Nat.le_of_ble_eq_true rfl⟩ [] rfl (by decide +kernel) hl.1 (Nat.le_of_ble_eq_true rfl) rfl dX7_cornerOf_16 ⟨Nat.le_of_ble_eq_true rfl, Nat.le_of_ble_eq_true rfl⟩) (wMd E a μ sp) [] rfl (by decide +kernel) rfl rfl (fun H locs w => ?_)
                  refine lv_imul hx hb dX7_cornerOf_19 ?_
                  refine lv_icmp_ne (tgt := 40) hx hb dX7_cornerOf_20 (by decide) (fun c20_115 => ?_) (fun c20_115 => ?_)
                  · refine lv_iinc (v := 6) (lv' := [(2, .int 6), (0, .ref (a 0)), (1, .int ce)]) hx hb dX7_cornerOf_40 hl (k := 0) rfl (by first | rfl | decide) (by decide) rfl (fun ls hl => ?_)
                    refine lv_goto (tgt := 2) hx hb dX7_cornerOf_43 (by decide) ?_
                    refine lv_iload_n hx hb dX7_cornerOf_2 rfl (lv_at hl 0 rfl) ?_
                    refine lv_bipush (v := 6) hx hb dX7_cornerOf_3 (by decide) ?_
                    refine lv_icmp_ge (tgt := 46) hx hb dX7_cornerOf_5 (by decide) (fun _ => ?_) (fun h => absurd h (by decide))
                    refine lv_bipush (v := (-5)) hx hb dX7_cornerOf_46 (by decide) ?_
                    have hq : fX7_cornerOf μ sp ce = ((-5)) := by simp only [fX7_cornerOf, if_pos c20_1, if_neg c35_64, if_pos c20_65, if_neg c35_96, if_pos c20_97, if_neg c35_112, if_neg c20_113, if_neg c20_114, if_neg c20_115]
                    rw [hq]
                    exact r_iret X w hr rfl dX7_cornerOf_48
                  · refine lv_aload_n hx hb dX7_cornerOf_23 rfl (lv_at hl 1 rfl) ?_
                    refine r_get X w CL7 8 (by decide) wf_X7_28 0 rfl rfl dX7_cornerOf_24 ?_
                    refine lv_iload_n hx hb dX7_cornerOf_27 rfl (lv_at hl 2 rfl) ?_
                    refine r_iald X w 7 rfl hc dX7_cornerOf_28 ?_
                    refine lv_iconst (v := 4) hx hb dX7_cornerOf_29 (by decide) ?_
                    refine lv_iload_n hx hb dX7_cornerOf_30 rfl (lv_at hl 0 rfl) ?_
                    refine r_ci w (r_runS (As := [.int 5]) (rest := [.int 4, .int (μ 6 ce.toNatClampNeg)]) X w (kX7_rBy l E 5 ) ck_X7_59 ⟨Nat.le_of_ble_eq_true rfl, Nat.le_of_ble_eq_true rfl⟩ [] rfl (by decide +kernel) hl.1 (Nat.le_of_ble_eq_true rfl) rfl dX7_cornerOf_31 ⟨Nat.le_of_ble_eq_true rfl, Nat.le_of_ble_eq_true rfl⟩) (wMd E a μ sp) [] rfl (by decide +kernel) rfl rfl (fun H locs w => ?_)
                    refine lv_imul hx hb dX7_cornerOf_34 ?_
                    refine lv_icmp_ne (tgt := 40) hx hb dX7_cornerOf_35 (by decide) (fun c35_116 => ?_) (fun c35_116 => ?_)
                    · refine lv_iinc (v := 6) (lv' := [(2, .int 6), (0, .ref (a 0)), (1, .int ce)]) hx hb dX7_cornerOf_40 hl (k := 0) rfl (by first | rfl | decide) (by decide) rfl (fun ls hl => ?_)
                      refine lv_goto (tgt := 2) hx hb dX7_cornerOf_43 (by decide) ?_
                      refine lv_iload_n hx hb dX7_cornerOf_2 rfl (lv_at hl 0 rfl) ?_
                      refine lv_bipush (v := 6) hx hb dX7_cornerOf_3 (by decide) ?_
                      refine lv_icmp_ge (tgt := 46) hx hb dX7_cornerOf_5 (by decide) (fun _ => ?_) (fun h => absurd h (by decide))
                      refine lv_bipush (v := (-5)) hx hb dX7_cornerOf_46 (by decide) ?_
                      have hq : fX7_cornerOf μ sp ce = ((-5)) := by simp only [fX7_cornerOf, if_pos c20_1, if_neg c35_64, if_pos c20_65, if_neg c35_96, if_pos c20_97, if_neg c35_112, if_neg c20_113, if_neg c20_114, if_pos c20_115, if_neg c35_116]
                      rw [hq]
                      exact r_iret X w hr rfl dX7_cornerOf_48
                    · refine lv_iload_n hx hb dX7_cornerOf_38 rfl (lv_at hl 0 rfl) ?_
                      have hq : fX7_cornerOf μ sp ce = (5) := by simp only [fX7_cornerOf, if_pos c20_1, if_neg c35_64, if_pos c20_65, if_neg c35_96, if_pos c20_97, if_neg c35_112, if_neg c20_113, if_neg c20_114, if_pos c20_115, if_pos c35_116]
                      rw [hq]
                      exact r_iret X w hr rfl dX7_cornerOf_39
                · refine lv_aload_n hx hb dX7_cornerOf_23 rfl (lv_at hl 1 rfl) ?_
                  refine r_get X w CL7 8 (by decide) wf_X7_28 0 rfl rfl dX7_cornerOf_24 ?_
                  refine lv_iload_n hx hb dX7_cornerOf_27 rfl (lv_at hl 2 rfl) ?_
                  refine r_iald X w 7 rfl hc dX7_cornerOf_28 ?_
                  refine lv_iconst (v := 4) hx hb dX7_cornerOf_29 (by decide) ?_
                  refine lv_iload_n hx hb dX7_cornerOf_30 rfl (lv_at hl 0 rfl) ?_
                  refine r_ci w (r_runS (As := [.int 4]) (rest := [.int 4, .int (μ 6 ce.toNatClampNeg)]) X w (kX7_rBy l E 4 ) ck_X7_59 ⟨Nat.le_of_ble_eq_true rfl, Nat.le_of_ble_eq_true rfl⟩ [] rfl (by decide +kernel) hl.1 (Nat.le_of_ble_eq_true rfl) rfl dX7_cornerOf_31 ⟨Nat.le_of_ble_eq_true rfl, Nat.le_of_ble_eq_true rfl⟩) (wMd E a μ sp) [] rfl (by decide +kernel) rfl rfl (fun H locs w => ?_)
                  refine lv_imul hx hb dX7_cornerOf_34 ?_
                  refine lv_icmp_ne (tgt := 40) hx hb dX7_cornerOf_35 (by decide) (fun c35_117 => ?_) (fun c35_117 => ?_)
                  · refine lv_iinc (v := 5) (lv' := [(2, .int 5), (0, .ref (a 0)), (1, .int ce)]) hx hb dX7_cornerOf_40 hl (k := 0) rfl (by first | rfl | decide) (by decide) rfl (fun ls hl => ?_)
                    refine lv_goto (tgt := 2) hx hb dX7_cornerOf_43 (by decide) ?_
                    refine lv_iload_n hx hb dX7_cornerOf_2 rfl (lv_at hl 0 rfl) ?_
                    refine lv_bipush (v := 6) hx hb dX7_cornerOf_3 (by decide) ?_
                    refine lv_icmp_ge (tgt := 46) hx hb dX7_cornerOf_5 (by decide) (fun h => absurd h (by decide)) (fun _ => ?_)
                    refine lv_aload_n hx hb dX7_cornerOf_8 rfl (lv_at hl 1 rfl) ?_
                    refine r_get X w CL7 7 (by decide) wf_X7_25 0 rfl rfl dX7_cornerOf_9 ?_
                    refine lv_iload_n hx hb dX7_cornerOf_12 rfl (lv_at hl 2 rfl) ?_
                    refine r_iald X w 6 rfl hc dX7_cornerOf_13 ?_
                    refine lv_iconst (v := 4) hx hb dX7_cornerOf_14 (by decide) ?_
                    refine lv_iload_n hx hb dX7_cornerOf_15 rfl (lv_at hl 0 rfl) ?_
                    refine r_ci w (r_runS (As := [.int 5]) (rest := [.int 4, .int (μ 5 ce.toNatClampNeg)]) X w (kX7_qBy l E 5 ) ck_X7_55 ⟨Nat.le_of_ble_eq_true rfl, Nat.le_of_ble_eq_true rfl⟩ [] rfl (by decide +kernel) hl.1 (Nat.le_of_ble_eq_true rfl) rfl dX7_cornerOf_16 ⟨Nat.le_of_ble_eq_true rfl, Nat.le_of_ble_eq_true rfl⟩) (wMd E a μ sp) [] rfl (by decide +kernel) rfl rfl (fun H locs w => ?_)
                    refine lv_imul hx hb dX7_cornerOf_19 ?_
                    refine lv_icmp_ne (tgt := 40) hx hb dX7_cornerOf_20 (by decide) (fun c20_118 => ?_) (fun c20_118 => ?_)
                    · refine lv_iinc (v := 6) (lv' := [(2, .int 6), (0, .ref (a 0)), (1, .int ce)]) hx hb dX7_cornerOf_40 hl (k := 0) rfl (by first | rfl | decide) (by decide) rfl (fun ls hl => ?_)
                      refine lv_goto (tgt := 2) hx hb dX7_cornerOf_43 (by decide) ?_
                      refine lv_iload_n hx hb dX7_cornerOf_2 rfl (lv_at hl 0 rfl) ?_
                      refine lv_bipush (v := 6) hx hb dX7_cornerOf_3 (by decide) ?_
                      refine lv_icmp_ge (tgt := 46) hx hb dX7_cornerOf_5 (by decide) (fun _ => ?_) (fun h => absurd h (by decide))
                      refine lv_bipush (v := (-5)) hx hb dX7_cornerOf_46 (by decide) ?_
                      have hq : fX7_cornerOf μ sp ce = ((-5)) := by simp only [fX7_cornerOf, if_pos c20_1, if_neg c35_64, if_pos c20_65, if_neg c35_96, if_pos c20_97, if_neg c35_112, if_neg c20_113, if_pos c20_114, if_neg c35_117, if_neg c20_118]
                      rw [hq]
                      exact r_iret X w hr rfl dX7_cornerOf_48
                    · refine lv_aload_n hx hb dX7_cornerOf_23 rfl (lv_at hl 1 rfl) ?_
                      refine r_get X w CL7 8 (by decide) wf_X7_28 0 rfl rfl dX7_cornerOf_24 ?_
                      refine lv_iload_n hx hb dX7_cornerOf_27 rfl (lv_at hl 2 rfl) ?_
                      refine r_iald X w 7 rfl hc dX7_cornerOf_28 ?_
                      refine lv_iconst (v := 4) hx hb dX7_cornerOf_29 (by decide) ?_
                      refine lv_iload_n hx hb dX7_cornerOf_30 rfl (lv_at hl 0 rfl) ?_
                      refine r_ci w (r_runS (As := [.int 5]) (rest := [.int 4, .int (μ 6 ce.toNatClampNeg)]) X w (kX7_rBy l E 5 ) ck_X7_59 ⟨Nat.le_of_ble_eq_true rfl, Nat.le_of_ble_eq_true rfl⟩ [] rfl (by decide +kernel) hl.1 (Nat.le_of_ble_eq_true rfl) rfl dX7_cornerOf_31 ⟨Nat.le_of_ble_eq_true rfl, Nat.le_of_ble_eq_true rfl⟩) (wMd E a μ sp) [] rfl (by decide +kernel) rfl rfl (fun H locs w => ?_)
                      refine lv_imul hx hb dX7_cornerOf_34 ?_
                      refine lv_icmp_ne (tgt := 40) hx hb dX7_cornerOf_35 (by decide) (fun c35_119 => ?_) (fun c35_119 => ?_)
                      · refine lv_iinc (v := 6) (lv' := [(2, .int 6), (0, .ref (a 0)), (1, .int ce)]) hx hb dX7_cornerOf_40 hl (k := 0) rfl (by first | rfl | decide) (by decide) rfl (fun ls hl => ?_)
                        refine lv_goto (tgt := 2) hx hb dX7_cornerOf_43 (by decide) ?_
                        refine lv_iload_n hx hb dX7_cornerOf_2 rfl (lv_at hl 0 rfl) ?_
                        refine lv_bipush (v := 6) hx hb dX7_cornerOf_3 (by decide) ?_
                        refine lv_icmp_ge (tgt := 46) hx hb dX7_cornerOf_5 (by decide) (fun _ => ?_) (fun h => absurd h (by decide))
                        refine lv_bipush (v := (-5)) hx hb dX7_cornerOf_46 (by decide) ?_
                        have hq : fX7_cornerOf μ sp ce = ((-5)) := by simp only [fX7_cornerOf, if_pos c20_1, if_neg c35_64, if_pos c20_65, if_neg c35_96, if_pos c20_97, if_neg c35_112, if_neg c20_113, if_pos c20_114, if_neg c35_117, if_pos c20_118, if_neg c35_119]
                        rw [hq]
                        exact r_iret X w hr rfl dX7_cornerOf_48
                      · refine lv_iload_n hx hb dX7_cornerOf_38 rfl (lv_at hl 0 rfl) ?_
                        have hq : fX7_cornerOf μ sp ce = (5) := by simp only [fX7_cornerOf, if_pos c20_1, if_neg c35_64, if_pos c20_65, if_neg c35_96, if_pos c20_97, if_neg c35_112, if_neg c20_113, if_pos c20_114, if_neg c35_117, if_pos c20_118, if_pos c35_119]
                        rw [hq]
                        exact r_iret X w hr rfl dX7_cornerOf_39
                  · refine lv_iload_n hx hb dX7_cornerOf_38 rfl (lv_at hl 0 rfl) ?_
                    have hq : fX7_cornerOf μ sp ce = (4) := by simp only [fX7_cornerOf, if_pos c20_1, if_neg c35_64, if_pos c20_65, if_neg c35_96, if_pos c20_97, if_neg c35_112, if_neg c20_113, if_pos c20_114, if_pos c35_117]
                    rw [hq]
                    exact r_iret X w hr rfl dX7_cornerOf_39
              · refine lv_aload_n hx hb dX7_cornerOf_23 rfl (lv_at hl 1 rfl) ?_
                refine r_get X w CL7 8 (by decide) wf_X7_28 0 rfl rfl dX7_cornerOf_24 ?_
                refine lv_iload_n hx hb dX7_cornerOf_27 rfl (lv_at hl 2 rfl) ?_
                refine r_iald X w 7 rfl hc dX7_cornerOf_28 ?_
                refine lv_iconst (v := 4) hx hb dX7_cornerOf_29 (by decide) ?_
                refine lv_iload_n hx hb dX7_cornerOf_30 rfl (lv_at hl 0 rfl) ?_
                refine r_ci w (r_runS (As := [.int 3]) (rest := [.int 4, .int (μ 6 ce.toNatClampNeg)]) X w (kX7_rBy l E 3 ) ck_X7_59 ⟨Nat.le_of_ble_eq_true rfl, Nat.le_of_ble_eq_true rfl⟩ [] rfl (by decide +kernel) hl.1 (Nat.le_of_ble_eq_true rfl) rfl dX7_cornerOf_31 ⟨Nat.le_of_ble_eq_true rfl, Nat.le_of_ble_eq_true rfl⟩) (wMd E a μ sp) [] rfl (by decide +kernel) rfl rfl (fun H locs w => ?_)
                refine lv_imul hx hb dX7_cornerOf_34 ?_
                refine lv_icmp_ne (tgt := 40) hx hb dX7_cornerOf_35 (by decide) (fun c35_120 => ?_) (fun c35_120 => ?_)
                · refine lv_iinc (v := 4) (lv' := [(2, .int 4), (0, .ref (a 0)), (1, .int ce)]) hx hb dX7_cornerOf_40 hl (k := 0) rfl (by first | rfl | decide) (by decide) rfl (fun ls hl => ?_)
                  refine lv_goto (tgt := 2) hx hb dX7_cornerOf_43 (by decide) ?_
                  refine lv_iload_n hx hb dX7_cornerOf_2 rfl (lv_at hl 0 rfl) ?_
                  refine lv_bipush (v := 6) hx hb dX7_cornerOf_3 (by decide) ?_
                  refine lv_icmp_ge (tgt := 46) hx hb dX7_cornerOf_5 (by decide) (fun h => absurd h (by decide)) (fun _ => ?_)
                  refine lv_aload_n hx hb dX7_cornerOf_8 rfl (lv_at hl 1 rfl) ?_
                  refine r_get X w CL7 7 (by decide) wf_X7_25 0 rfl rfl dX7_cornerOf_9 ?_
                  refine lv_iload_n hx hb dX7_cornerOf_12 rfl (lv_at hl 2 rfl) ?_
                  refine r_iald X w 6 rfl hc dX7_cornerOf_13 ?_
                  refine lv_iconst (v := 4) hx hb dX7_cornerOf_14 (by decide) ?_
                  refine lv_iload_n hx hb dX7_cornerOf_15 rfl (lv_at hl 0 rfl) ?_
                  refine r_ci w (r_runS (As := [.int 4]) (rest := [.int 4, .int (μ 5 ce.toNatClampNeg)]) X w (kX7_qBy l E 4 ) ck_X7_55 ⟨Nat.le_of_ble_eq_true rfl, Nat.le_of_ble_eq_true rfl⟩ [] rfl (by decide +kernel) hl.1 (Nat.le_of_ble_eq_true rfl) rfl dX7_cornerOf_16 ⟨Nat.le_of_ble_eq_true rfl, Nat.le_of_ble_eq_true rfl⟩) (wMd E a μ sp) [] rfl (by decide +kernel) rfl rfl (fun H locs w => ?_)
                  refine lv_imul hx hb dX7_cornerOf_19 ?_
                  refine lv_icmp_ne (tgt := 40) hx hb dX7_cornerOf_20 (by decide) (fun c20_121 => ?_) (fun c20_121 => ?_)
                  · refine lv_iinc (v := 5) (lv' := [(2, .int 5), (0, .ref (a 0)), (1, .int ce)]) hx hb dX7_cornerOf_40 hl (k := 0) rfl (by first | rfl | decide) (by decide) rfl (fun ls hl => ?_)
                    refine lv_goto (tgt := 2) hx hb dX7_cornerOf_43 (by decide) ?_
                    refine lv_iload_n hx hb dX7_cornerOf_2 rfl (lv_at hl 0 rfl) ?_
                    refine lv_bipush (v := 6) hx hb dX7_cornerOf_3 (by decide) ?_
                    refine lv_icmp_ge (tgt := 46) hx hb dX7_cornerOf_5 (by decide) (fun h => absurd h (by decide)) (fun _ => ?_)
                    refine lv_aload_n hx hb dX7_cornerOf_8 rfl (lv_at hl 1 rfl) ?_
                    refine r_get X w CL7 7 (by decide) wf_X7_25 0 rfl rfl dX7_cornerOf_9 ?_
                    refine lv_iload_n hx hb dX7_cornerOf_12 rfl (lv_at hl 2 rfl) ?_
                    refine r_iald X w 6 rfl hc dX7_cornerOf_13 ?_
                    refine lv_iconst (v := 4) hx hb dX7_cornerOf_14 (by decide) ?_
                    refine lv_iload_n hx hb dX7_cornerOf_15 rfl (lv_at hl 0 rfl) ?_
                    refine r_ci w (r_runS (As := [.int 5]) (rest := [.int 4, .int (μ 5 ce.toNatClampNeg)]) X w (kX7_qBy l E 5 ) ck_X7_55 ⟨Nat.le_of_ble_eq_true rfl, Nat.le_of_ble_eq_true rfl⟩ [] rfl (by decide +kernel) hl.1 (Nat.le_of_ble_eq_true rfl) rfl dX7_cornerOf_16 ⟨Nat.le_of_ble_eq_true rfl, Nat.le_of_ble_eq_true rfl⟩) (wMd E a μ sp) [] rfl (by decide +kernel) rfl rfl (fun H locs w => ?_)
                    refine lv_imul hx hb dX7_cornerOf_19 ?_
                    refine lv_icmp_ne (tgt := 40) hx hb dX7_cornerOf_20 (by decide) (fun c20_122 => ?_) (fun c20_122 => ?_)
                    · refine lv_iinc (v := 6) (lv' := [(2, .int 6), (0, .ref (a 0)), (1, .int ce)]) hx hb dX7_cornerOf_40 hl (k := 0) rfl (by first | rfl | decide) (by decide) rfl (fun ls hl => ?_)
                      refine lv_goto (tgt := 2) hx hb dX7_cornerOf_43 (by decide) ?_
                      refine lv_iload_n hx hb dX7_cornerOf_2 rfl (lv_at hl 0 rfl) ?_
                      refine lv_bipush (v := 6) hx hb dX7_cornerOf_3 (by decide) ?_
                      refine lv_icmp_ge (tgt := 46) hx hb dX7_cornerOf_5 (by decide) (fun _ => ?_) (fun h => absurd h (by decide))
                      refine lv_bipush (v := (-5)) hx hb dX7_cornerOf_46 (by decide) ?_
                      have hq : fX7_cornerOf μ sp ce = ((-5)) := by simp only [fX7_cornerOf, if_pos c20_1, if_neg c35_64, if_pos c20_65, if_neg c35_96, if_pos c20_97, if_neg c35_112, if_pos c20_113, if_neg c35_120, if_neg c20_121, if_neg c20_122]
                      rw [hq]
                      exact r_iret X w hr rfl dX7_cornerOf_48
                    · refine lv_aload_n hx hb dX7_cornerOf_23 rfl (lv_at hl 1 rfl) ?_
                      refine r_get X w CL7 8 (by decide) wf_X7_28 0 rfl rfl dX7_cornerOf_24 ?_
                      refine lv_iload_n hx hb dX7_cornerOf_27 rfl (lv_at hl 2 rfl) ?_
                      refine r_iald X w 7 rfl hc dX7_cornerOf_28 ?_
                      refine lv_iconst (v := 4) hx hb dX7_cornerOf_29 (by decide) ?_
                      refine lv_iload_n hx hb dX7_cornerOf_30 rfl (lv_at hl 0 rfl) ?_
                      refine r_ci w (r_runS (As := [.int 5]) (rest := [.int 4, .int (μ 6 ce.toNatClampNeg)]) X w (kX7_rBy l E 5 ) ck_X7_59 ⟨Nat.le_of_ble_eq_true rfl, Nat.le_of_ble_eq_true rfl⟩ [] rfl (by decide +kernel) hl.1 (Nat.le_of_ble_eq_true rfl) rfl dX7_cornerOf_31 ⟨Nat.le_of_ble_eq_true rfl, Nat.le_of_ble_eq_true rfl⟩) (wMd E a μ sp) [] rfl (by decide +kernel) rfl rfl (fun H locs w => ?_)
                      refine lv_imul hx hb dX7_cornerOf_34 ?_
                      refine lv_icmp_ne (tgt := 40) hx hb dX7_cornerOf_35 (by decide) (fun c35_123 => ?_) (fun c35_123 => ?_)
                      · refine lv_iinc (v := 6) (lv' := [(2, .int 6), (0, .ref (a 0)), (1, .int ce)]) hx hb dX7_cornerOf_40 hl (k := 0) rfl (by first | rfl | decide) (by decide) rfl (fun ls hl => ?_)
                        refine lv_goto (tgt := 2) hx hb dX7_cornerOf_43 (by decide) ?_
                        refine lv_iload_n hx hb dX7_cornerOf_2 rfl (lv_at hl 0 rfl) ?_
                        refine lv_bipush (v := 6) hx hb dX7_cornerOf_3 (by decide) ?_
                        refine lv_icmp_ge (tgt := 46) hx hb dX7_cornerOf_5 (by decide) (fun _ => ?_) (fun h => absurd h (by decide))
                        refine lv_bipush (v := (-5)) hx hb dX7_cornerOf_46 (by decide) ?_
                        have hq : fX7_cornerOf μ sp ce = ((-5)) := by simp only [fX7_cornerOf, if_pos c20_1, if_neg c35_64, if_pos c20_65, if_neg c35_96, if_pos c20_97, if_neg c35_112, if_pos c20_113, if_neg c35_120, if_neg c20_121, if_pos c20_122, if_neg c35_123]
                        rw [hq]
                        exact r_iret X w hr rfl dX7_cornerOf_48
                      · refine lv_iload_n hx hb dX7_cornerOf_38 rfl (lv_at hl 0 rfl) ?_
                        have hq : fX7_cornerOf μ sp ce = (5) := by simp only [fX7_cornerOf, if_pos c20_1, if_neg c35_64, if_pos c20_65, if_neg c35_96, if_pos c20_97, if_neg c35_112, if_pos c20_113, if_neg c35_120, if_neg c20_121, if_pos c20_122, if_pos c35_123]
                        rw [hq]
                        exact r_iret X w hr rfl dX7_cornerOf_39
                  · refine lv_aload_n hx hb dX7_cornerOf_23 rfl (lv_at hl 1 rfl) ?_
                    refine r_get X w CL7 8 (by decide) wf_X7_28 0 rfl rfl dX7_cornerOf_24 ?_
                    refine lv_iload_n hx hb dX7_cornerOf_27 rfl (lv_at hl 2 rfl) ?_
                    refine r_iald X w 7 rfl hc dX7_cornerOf_28 ?_
                    refine lv_iconst (v := 4) hx hb dX7_cornerOf_29 (by decide) ?_
                    refine lv_iload_n hx hb dX7_cornerOf_30 rfl (lv_at hl 0 rfl) ?_
                    refine r_ci w (r_runS (As := [.int 4]) (rest := [.int 4, .int (μ 6 ce.toNatClampNeg)]) X w (kX7_rBy l E 4 ) ck_X7_59 ⟨Nat.le_of_ble_eq_true rfl, Nat.le_of_ble_eq_true rfl⟩ [] rfl (by decide +kernel) hl.1 (Nat.le_of_ble_eq_true rfl) rfl dX7_cornerOf_31 ⟨Nat.le_of_ble_eq_true rfl, Nat.le_of_ble_eq_true rfl⟩) (wMd E a μ sp) [] rfl (by decide +kernel) rfl rfl (fun H locs w => ?_)
                    refine lv_imul hx hb dX7_cornerOf_34 ?_
                    refine lv_icmp_ne (tgt := 40) hx hb dX7_cornerOf_35 (by decide) (fun c35_124 => ?_) (fun c35_124 => ?_)
                    · refine lv_iinc (v := 5) (lv' := [(2, .int 5), (0, .ref (a 0)), (1, .int ce)]) hx hb dX7_cornerOf_40 hl (k := 0) rfl (by first | rfl | decide) (by decide) rfl (fun ls hl => ?_)
                      refine lv_goto (tgt := 2) hx hb dX7_cornerOf_43 (by decide) ?_
                      refine lv_iload_n hx hb dX7_cornerOf_2 rfl (lv_at hl 0 rfl) ?_
                      refine lv_bipush (v := 6) hx hb dX7_cornerOf_3 (by decide) ?_
                      refine lv_icmp_ge (tgt := 46) hx hb dX7_cornerOf_5 (by decide) (fun h => absurd h (by decide)) (fun _ => ?_)
                      refine lv_aload_n hx hb dX7_cornerOf_8 rfl (lv_at hl 1 rfl) ?_
                      refine r_get X w CL7 7 (by decide) wf_X7_25 0 rfl rfl dX7_cornerOf_9 ?_
                      refine lv_iload_n hx hb dX7_cornerOf_12 rfl (lv_at hl 2 rfl) ?_
                      refine r_iald X w 6 rfl hc dX7_cornerOf_13 ?_
                      refine lv_iconst (v := 4) hx hb dX7_cornerOf_14 (by decide) ?_
                      refine lv_iload_n hx hb dX7_cornerOf_15 rfl (lv_at hl 0 rfl) ?_
                      refine r_ci w (r_runS (As := [.int 5]) (rest := [.int 4, .int (μ 5 ce.toNatClampNeg)]) X w (kX7_qBy l E 5 ) ck_X7_55 ⟨Nat.le_of_ble_eq_true rfl, Nat.le_of_ble_eq_true rfl⟩ [] rfl (by decide +kernel) hl.1 (Nat.le_of_ble_eq_true rfl) rfl dX7_cornerOf_16 ⟨Nat.le_of_ble_eq_true rfl, Nat.le_of_ble_eq_true rfl⟩) (wMd E a μ sp) [] rfl (by decide +kernel) rfl rfl (fun H locs w => ?_)
                      refine lv_imul hx hb dX7_cornerOf_19 ?_
                      refine lv_icmp_ne (tgt := 40) hx hb dX7_cornerOf_20 (by decide) (fun c20_125 => ?_) (fun c20_125 => ?_)
                      · refine lv_iinc (v := 6) (lv' := [(2, .int 6), (0, .ref (a 0)), (1, .int ce)]) hx hb dX7_cornerOf_40 hl (k := 0) rfl (by first | rfl | decide) (by decide) rfl (fun ls hl => ?_)
                        refine lv_goto (tgt := 2) hx hb dX7_cornerOf_43 (by decide) ?_
                        refine lv_iload_n hx hb dX7_cornerOf_2 rfl (lv_at hl 0 rfl) ?_
                        refine lv_bipush (v := 6) hx hb dX7_cornerOf_3 (by decide) ?_
                        refine lv_icmp_ge (tgt := 46) hx hb dX7_cornerOf_5 (by decide) (fun _ => ?_) (fun h => absurd h (by decide))
                        refine lv_bipush (v := (-5)) hx hb dX7_cornerOf_46 (by decide) ?_
                        have hq : fX7_cornerOf μ sp ce = ((-5)) := by simp only [fX7_cornerOf, if_pos c20_1, if_neg c35_64, if_pos c20_65, if_neg c35_96, if_pos c20_97, if_neg c35_112, if_pos c20_113, if_neg c35_120, if_pos c20_121, if_neg c35_124, if_neg c20_125]
                        rw [hq]
                        exact r_iret X w hr rfl dX7_cornerOf_48
                      · refine lv_aload_n hx hb dX7_cornerOf_23 rfl (lv_at hl 1 rfl) ?_
                        refine r_get X w CL7 8 (by decide) wf_X7_28 0 rfl rfl dX7_cornerOf_24 ?_
                        refine lv_iload_n hx hb dX7_cornerOf_27 rfl (lv_at hl 2 rfl) ?_
                        refine r_iald X w 7 rfl hc dX7_cornerOf_28 ?_
                        refine lv_iconst (v := 4) hx hb dX7_cornerOf_29 (by decide) ?_
                        refine lv_iload_n hx hb dX7_cornerOf_30 rfl (lv_at hl 0 rfl) ?_
                        refine r_ci w (r_runS (As := [.int 5]) (rest := [.int 4, .int (μ 6 ce.toNatClampNeg)]) X w (kX7_rBy l E 5 ) ck_X7_59 ⟨Nat.le_of_ble_eq_true rfl, Nat.le_of_ble_eq_true rfl⟩ [] rfl (by decide +kernel) hl.1 (Nat.le_of_ble_eq_true rfl) rfl dX7_cornerOf_31 ⟨Nat.le_of_ble_eq_true rfl, Nat.le_of_ble_eq_true rfl⟩) (wMd E a μ sp) [] rfl (by decide +kernel) rfl rfl (fun H locs w => ?_)
                        refine lv_imul hx hb dX7_cornerOf_34 ?_
                        refine lv_icmp_ne (tgt := 40) hx hb dX7_cornerOf_35 (by decide) (fun c35_126 => ?_) (fun c35_126 => ?_)
                        · refine lv_iinc (v := 6) (lv' := [(2, .int 6), (0, .ref (a 0)), (1, .int ce)]) hx hb dX7_cornerOf_40 hl (k := 0) rfl (by first | rfl | decide) (by decide) rfl (fun ls hl => ?_)
                          refine lv_goto (tgt := 2) hx hb dX7_cornerOf_43 (by decide) ?_
                          refine lv_iload_n hx hb dX7_cornerOf_2 rfl (lv_at hl 0 rfl) ?_
                          refine lv_bipush (v := 6) hx hb dX7_cornerOf_3 (by decide) ?_
                          refine lv_icmp_ge (tgt := 46) hx hb dX7_cornerOf_5 (by decide) (fun _ => ?_) (fun h => absurd h (by decide))
                          refine lv_bipush (v := (-5)) hx hb dX7_cornerOf_46 (by decide) ?_
                          have hq : fX7_cornerOf μ sp ce = ((-5)) := by simp only [fX7_cornerOf, if_pos c20_1, if_neg c35_64, if_pos c20_65, if_neg c35_96, if_pos c20_97, if_neg c35_112, if_pos c20_113, if_neg c35_120, if_pos c20_121, if_neg c35_124, if_pos c20_125, if_neg c35_126]
                          rw [hq]
                          exact r_iret X w hr rfl dX7_cornerOf_48
                        · refine lv_iload_n hx hb dX7_cornerOf_38 rfl (lv_at hl 0 rfl) ?_
                          have hq : fX7_cornerOf μ sp ce = (5) := by simp only [fX7_cornerOf, if_pos c20_1, if_neg c35_64, if_pos c20_65, if_neg c35_96, if_pos c20_97, if_neg c35_112, if_pos c20_113, if_neg c35_120, if_pos c20_121, if_neg c35_124, if_pos c20_125, if_pos c35_126]
                          rw [hq]
                          exact r_iret X w hr rfl dX7_cornerOf_39
                    · refine lv_iload_n hx hb dX7_cornerOf_38 rfl (lv_at hl 0 rfl) ?_
                      have hq : fX7_cornerOf μ sp ce = (4) := by simp only [fX7_cornerOf, if_pos c20_1, if_neg c35_64, if_pos c20_65, if_neg c35_96, if_pos c20_97, if_neg c35_112, if_pos c20_113, if_neg c35_120, if_pos c20_121, if_pos c35_124]
                      rw [hq]
                      exact r_iret X w hr rfl dX7_cornerOf_39
                · refine lv_iload_n hx hb dX7_cornerOf_38 rfl (lv_at hl 0 rfl) ?_
                  have hq : fX7_cornerOf μ sp ce = (3) := by simp only [fX7_cornerOf, if_pos c20_1, if_neg c35_64, if_pos c20_65, if_neg c35_96, if_pos c20_97, if_neg c35_112, if_pos c20_113, if_pos c35_120]
                  rw [hq]
                  exact r_iret X w hr rfl dX7_cornerOf_39
            · refine lv_iload_n hx hb dX7_cornerOf_38 rfl (lv_at hl 0 rfl) ?_
              have hq : fX7_cornerOf μ sp ce = (2) := by simp only [fX7_cornerOf, if_pos c20_1, if_neg c35_64, if_pos c20_65, if_neg c35_96, if_pos c20_97, if_pos c35_112]
              rw [hq]
              exact r_iret X w hr rfl dX7_cornerOf_39
        · refine lv_iload_n hx hb dX7_cornerOf_38 rfl (lv_at hl 0 rfl) ?_
          have hq : fX7_cornerOf μ sp ce = (1) := by simp only [fX7_cornerOf, if_pos c20_1, if_neg c35_64, if_pos c20_65, if_pos c35_96]
          rw [hq]
          exact r_iret X w hr rfl dX7_cornerOf_39
    · refine lv_iload_n hx hb dX7_cornerOf_38 rfl (lv_at hl 0 rfl) ?_
      have hq : fX7_cornerOf μ sp ce = (0) := by simp only [fX7_cornerOf, if_pos c20_1, if_pos c35_64]
      rw [hq]
      exact r_iret X w hr rfl dX7_cornerOf_39
def fX7_turned (μ : N2) (sp : UInt32) (ce : Int32) (wy : Int32) : Int32 := if (fX7_in (((μ 5 ce.toNatClampNeg) + (fX7_qBy wy)).toInt64) (-4) 4) = 0 then (if (fX7_in (((μ 6 ce.toNatClampNeg) + (fX7_rBy wy)).toInt64) (-4) 4) = 0 then (if (fX7_in ((((μ 5 ce.toNatClampNeg) + (fX7_qBy wy)) + ((μ 6 ce.toNatClampNeg) + (fX7_rBy wy))).toInt64) (-4) 4) = 0 then (((wy + 3) - (wy + 3) / 6 * 6)) else (((wy + 3) - (wy + 3) / 6 * 6))) else (if (fX7_in ((((μ 5 ce.toNatClampNeg) + (fX7_qBy wy)) + ((μ 6 ce.toNatClampNeg) + (fX7_rBy wy))).toInt64) (-4) 4) = 0 then (((wy + 3) - (wy + 3) / 6 * 6)) else ((((4 - wy) + 6) - ((4 - wy) + 6) / 6 * 6)))) else (if (fX7_in (((μ 6 ce.toNatClampNeg) + (fX7_rBy wy)).toInt64) (-4) 4) = 0 then (if (fX7_in ((((μ 5 ce.toNatClampNeg) + (fX7_qBy wy)) + ((μ 6 ce.toNatClampNeg) + (fX7_rBy wy))).toInt64) (-4) 4) = 0 then (((wy + 3) - (wy + 3) / 6 * 6)) else ((((0 - wy) + 6) - ((0 - wy) + 6) / 6 * 6))) else (if (fX7_in ((((μ 5 ce.toNatClampNeg) + (fX7_qBy wy)) + ((μ 6 ce.toNatClampNeg) + (fX7_rBy wy))).toInt64) (-4) 4) = 0 then ((((2 - wy) + 6) - ((2 - wy) + 6) / 6 * 6)) else ((((2 - wy) + 6) - ((2 - wy) + 6) / 6 * 6))))
theorem dX7_turned_0 : decode cX7_turned 0 = .ok (.aload_n 0, 1) := by decide +kernel
theorem dX7_turned_1 : decode cX7_turned 1 = .ok (.getfield 25, 3) := by decide +kernel
theorem dX7_turned_4 : decode cX7_turned 4 = .ok (.iload_n 1, 1) := by decide +kernel
theorem dX7_turned_5 : decode cX7_turned 5 = .ok (.iaload, 1) := by decide +kernel
theorem dX7_turned_6 : decode cX7_turned 6 = .ok (.iload_n 2, 1) := by decide +kernel
theorem dX7_turned_7 : decode cX7_turned 7 = .ok (.invokestatic 55, 3) := by decide +kernel
theorem dX7_turned_10 : decode cX7_turned 10 = .ok (.iadd, 1) := by decide +kernel
theorem dX7_turned_11 : decode cX7_turned 11 = .ok (.istore_n 3, 1) := by decide +kernel
theorem dX7_turned_12 : decode cX7_turned 12 = .ok (.aload_n 0, 1) := by decide +kernel
theorem dX7_turned_13 : decode cX7_turned 13 = .ok (.getfield 28, 3) := by decide +kernel
theorem dX7_turned_16 : decode cX7_turned 16 = .ok (.iload_n 1, 1) := by decide +kernel
theorem dX7_turned_17 : decode cX7_turned 17 = .ok (.iaload, 1) := by decide +kernel
theorem dX7_turned_18 : decode cX7_turned 18 = .ok (.iload_n 2, 1) := by decide +kernel
theorem dX7_turned_19 : decode cX7_turned 19 = .ok (.invokestatic 59, 3) := by decide +kernel
theorem dX7_turned_22 : decode cX7_turned 22 = .ok (.iadd, 1) := by decide +kernel
theorem dX7_turned_23 : decode cX7_turned 23 = .ok (.istore 4, 2) := by decide +kernel
theorem dX7_turned_25 : decode cX7_turned 25 = .ok (.iload_n 3, 1) := by decide +kernel
theorem dX7_turned_26 : decode cX7_turned 26 = .ok (.i2l, 1) := by decide +kernel
theorem dX7_turned_27 : decode cX7_turned 27 = .ok (.ldc2_w 37, 3) := by decide +kernel
theorem dX7_turned_30 : decode cX7_turned 30 = .ok (.ldc2_w 39, 3) := by decide +kernel
theorem dX7_turned_33 : decode cX7_turned 33 = .ok (.invokestatic 41, 3) := by decide +kernel
theorem dX7_turned_36 : decode cX7_turned 36 = .ok (.ifCond .ne 7, 3) := by decide +kernel
theorem dX7_turned_39 : decode cX7_turned 39 = .ok (.iconst 1, 1) := by decide +kernel
theorem dX7_turned_40 : decode cX7_turned 40 = .ok (.goto 4, 3) := by decide +kernel
theorem dX7_turned_43 : decode cX7_turned 43 = .ok (.iconst 0, 1) := by decide +kernel
theorem dX7_turned_44 : decode cX7_turned 44 = .ok (.istore 5, 2) := by decide +kernel
theorem dX7_turned_46 : decode cX7_turned 46 = .ok (.iload 4, 2) := by decide +kernel
theorem dX7_turned_48 : decode cX7_turned 48 = .ok (.i2l, 1) := by decide +kernel
theorem dX7_turned_49 : decode cX7_turned 49 = .ok (.ldc2_w 37, 3) := by decide +kernel
theorem dX7_turned_52 : decode cX7_turned 52 = .ok (.ldc2_w 39, 3) := by decide +kernel
theorem dX7_turned_55 : decode cX7_turned 55 = .ok (.invokestatic 41, 3) := by decide +kernel
theorem dX7_turned_58 : decode cX7_turned 58 = .ok (.ifCond .ne 7, 3) := by decide +kernel
theorem dX7_turned_61 : decode cX7_turned 61 = .ok (.iconst 1, 1) := by decide +kernel
theorem dX7_turned_62 : decode cX7_turned 62 = .ok (.goto 4, 3) := by decide +kernel
theorem dX7_turned_65 : decode cX7_turned 65 = .ok (.iconst 0, 1) := by decide +kernel
theorem dX7_turned_66 : decode cX7_turned 66 = .ok (.istore 6, 2) := by decide +kernel
theorem dX7_turned_68 : decode cX7_turned 68 = .ok (.iload_n 3, 1) := by decide +kernel
theorem dX7_turned_69 : decode cX7_turned 69 = .ok (.iload 4, 2) := by decide +kernel
theorem dX7_turned_71 : decode cX7_turned 71 = .ok (.iadd, 1) := by decide +kernel
theorem dX7_turned_72 : decode cX7_turned 72 = .ok (.i2l, 1) := by decide +kernel
theorem dX7_turned_73 : decode cX7_turned 73 = .ok (.ldc2_w 37, 3) := by decide +kernel
theorem dX7_turned_76 : decode cX7_turned 76 = .ok (.ldc2_w 39, 3) := by decide +kernel
theorem dX7_turned_79 : decode cX7_turned 79 = .ok (.invokestatic 41, 3) := by decide +kernel
theorem dX7_turned_82 : decode cX7_turned 82 = .ok (.ifCond .ne 7, 3) := by decide +kernel
theorem dX7_turned_85 : decode cX7_turned 85 = .ok (.iconst 1, 1) := by decide +kernel
theorem dX7_turned_86 : decode cX7_turned 86 = .ok (.goto 4, 3) := by decide +kernel
theorem dX7_turned_89 : decode cX7_turned 89 = .ok (.iconst 0, 1) := by decide +kernel
theorem dX7_turned_90 : decode cX7_turned 90 = .ok (.istore 7, 2) := by decide +kernel
theorem dX7_turned_92 : decode cX7_turned 92 = .ok (.iload 5, 2) := by decide +kernel
theorem dX7_turned_94 : decode cX7_turned 94 = .ok (.ifCond .eq 7, 3) := by decide +kernel
theorem dX7_turned_97 : decode cX7_turned 97 = .ok (.iconst 1, 1) := by decide +kernel
theorem dX7_turned_98 : decode cX7_turned 98 = .ok (.goto 4, 3) := by decide +kernel
theorem dX7_turned_101 : decode cX7_turned 101 = .ok (.iconst 0, 1) := by decide +kernel
theorem dX7_turned_102 : decode cX7_turned 102 = .ok (.iload 6, 2) := by decide +kernel
theorem dX7_turned_104 : decode cX7_turned 104 = .ok (.ifCond .eq 7, 3) := by decide +kernel
theorem dX7_turned_107 : decode cX7_turned 107 = .ok (.iconst 1, 1) := by decide +kernel
theorem dX7_turned_108 : decode cX7_turned 108 = .ok (.goto 4, 3) := by decide +kernel
theorem dX7_turned_111 : decode cX7_turned 111 = .ok (.iconst 0, 1) := by decide +kernel
theorem dX7_turned_112 : decode cX7_turned 112 = .ok (.iadd, 1) := by decide +kernel
theorem dX7_turned_113 : decode cX7_turned 113 = .ok (.iload 7, 2) := by decide +kernel
theorem dX7_turned_115 : decode cX7_turned 115 = .ok (.ifCond .eq 7, 3) := by decide +kernel
theorem dX7_turned_118 : decode cX7_turned 118 = .ok (.iconst 1, 1) := by decide +kernel
theorem dX7_turned_119 : decode cX7_turned 119 = .ok (.goto 4, 3) := by decide +kernel
theorem dX7_turned_122 : decode cX7_turned 122 = .ok (.iconst 0, 1) := by decide +kernel
theorem dX7_turned_123 : decode cX7_turned 123 = .ok (.iadd, 1) := by decide +kernel
theorem dX7_turned_124 : decode cX7_turned 124 = .ok (.iconst 1, 1) := by decide +kernel
theorem dX7_turned_125 : decode cX7_turned 125 = .ok (.if_icmp .le 10, 3) := by decide +kernel
theorem dX7_turned_128 : decode cX7_turned 128 = .ok (.iload_n 2, 1) := by decide +kernel
theorem dX7_turned_129 : decode cX7_turned 129 = .ok (.iconst 3, 1) := by decide +kernel
theorem dX7_turned_130 : decode cX7_turned 130 = .ok (.iadd, 1) := by decide +kernel
theorem dX7_turned_131 : decode cX7_turned 131 = .ok (.bipush 6, 2) := by decide +kernel
theorem dX7_turned_133 : decode cX7_turned 133 = .ok (.irem, 1) := by decide +kernel
theorem dX7_turned_134 : decode cX7_turned 134 = .ok (.ireturn, 1) := by decide +kernel
theorem dX7_turned_135 : decode cX7_turned 135 = .ok (.iload 5, 2) := by decide +kernel
theorem dX7_turned_137 : decode cX7_turned 137 = .ok (.ifCond .eq 7, 3) := by decide +kernel
theorem dX7_turned_140 : decode cX7_turned 140 = .ok (.iconst 2, 1) := by decide +kernel
theorem dX7_turned_141 : decode cX7_turned 141 = .ok (.goto 13, 3) := by decide +kernel
theorem dX7_turned_144 : decode cX7_turned 144 = .ok (.iload 6, 2) := by decide +kernel
theorem dX7_turned_146 : decode cX7_turned 146 = .ok (.ifCond .eq 7, 3) := by decide +kernel
theorem dX7_turned_149 : decode cX7_turned 149 = .ok (.iconst 0, 1) := by decide +kernel
theorem dX7_turned_150 : decode cX7_turned 150 = .ok (.goto 4, 3) := by decide +kernel
theorem dX7_turned_153 : decode cX7_turned 153 = .ok (.iconst 1, 1) := by decide +kernel
theorem dX7_turned_154 : decode cX7_turned 154 = .ok (.istore 8, 2) := by decide +kernel
theorem dX7_turned_156 : decode cX7_turned 156 = .ok (.iconst 2, 1) := by decide +kernel
theorem dX7_turned_157 : decode cX7_turned 157 = .ok (.iload 8, 2) := by decide +kernel
theorem dX7_turned_159 : decode cX7_turned 159 = .ok (.imul, 1) := by decide +kernel
theorem dX7_turned_160 : decode cX7_turned 160 = .ok (.iload_n 2, 1) := by decide +kernel
theorem dX7_turned_161 : decode cX7_turned 161 = .ok (.isub, 1) := by decide +kernel
theorem dX7_turned_162 : decode cX7_turned 162 = .ok (.bipush 6, 2) := by decide +kernel
theorem dX7_turned_164 : decode cX7_turned 164 = .ok (.iadd, 1) := by decide +kernel
theorem dX7_turned_165 : decode cX7_turned 165 = .ok (.bipush 6, 2) := by decide +kernel
theorem dX7_turned_167 : decode cX7_turned 167 = .ok (.irem, 1) := by decide +kernel
theorem dX7_turned_168 : decode cX7_turned 168 = .ok (.ireturn, 1) := by decide +kernel
set_option maxHeartbeats 4000000 in
set_option maxRecDepth 100000 in
theorem kX7_turned (l : Launch) (E : Ev) (a : Nat → Nat) (μ : N2) (sp : UInt32) (ce : Int32) (wy : Int32) (hc : vp_in ce 61) : KQ l yX7_turned cX7_turned 9 (some .int) 1 25 E [.ref (a 0), .int ce, .int wy] (wMd E a μ sp) (QI E (wMd E a μ sp) (fX7_turned μ sp ce wy) (wMd E a μ sp)) := by
  refine KQ.mk RX7 rfl (by decide +kernel) (Nat.le_of_ble_eq_true rfl) ?_
  intro p e s m below meth c ls X hr w hl
  have hx := X.1
  have hb := X.2.1
  have hl : lv_has ls 9 [(0, .ref (a 0)), (1, .int ce), (2, .int wy)] := hl
  refine lv_aload_n hx hb dX7_turned_0 rfl (lv_at hl 0 rfl) ?_
  refine r_get X w CL7 7 (by decide) wf_X7_25 0 rfl rfl dX7_turned_1 ?_
  refine lv_iload_n hx hb dX7_turned_4 rfl (lv_at hl 1 rfl) ?_
  refine r_iald X w 6 rfl hc dX7_turned_5 ?_
  refine lv_iload_n hx hb dX7_turned_6 rfl (lv_at hl 2 rfl) ?_
  refine r_ci w (r_runS (As := [.int wy]) (rest := [.int (μ 5 ce.toNatClampNeg)]) X w (kX7_qBy l E wy ) ck_X7_55 ⟨Nat.le_of_ble_eq_true rfl, Nat.le_of_ble_eq_true rfl⟩ [] rfl (by decide +kernel) hl.1 (Nat.le_of_ble_eq_true rfl) rfl dX7_turned_7 ⟨Nat.le_of_ble_eq_true rfl, Nat.le_of_ble_eq_true rfl⟩) (wMd E a μ sp) [] rfl (by decide +kernel) rfl rfl (fun H locs w => ?_)
  refine lv_iadd hx hb dX7_turned_10 ?_
  refine lv_istore_n (lv' := [(3, .int ((μ 5 ce.toNatClampNeg) + (fX7_qBy wy))), (0, .ref (a 0)), (1, .int ce), (2, .int wy)]) hx hb dX7_turned_11 rfl hl (by decide) rfl (fun ls hl => ?_)
  refine lv_aload_n hx hb dX7_turned_12 rfl (lv_at hl 1 rfl) ?_
  refine r_get X w CL7 8 (by decide) wf_X7_28 0 rfl rfl dX7_turned_13 ?_
  refine lv_iload_n hx hb dX7_turned_16 rfl (lv_at hl 2 rfl) ?_
  refine r_iald X w 7 rfl hc dX7_turned_17 ?_
  refine lv_iload_n hx hb dX7_turned_18 rfl (lv_at hl 3 rfl) ?_
  refine r_ci w (r_runS (As := [.int wy]) (rest := [.int (μ 6 ce.toNatClampNeg)]) X w (kX7_rBy l E wy ) ck_X7_59 ⟨Nat.le_of_ble_eq_true rfl, Nat.le_of_ble_eq_true rfl⟩ [] rfl (by decide +kernel) hl.1 (Nat.le_of_ble_eq_true rfl) rfl dX7_turned_19 ⟨Nat.le_of_ble_eq_true rfl, Nat.le_of_ble_eq_true rfl⟩) (wMd E a μ sp) [] rfl (by decide +kernel) rfl rfl (fun H locs w => ?_)
  refine lv_iadd hx hb dX7_turned_22 ?_
  refine lv_istore (lv' := [(4, .int ((μ 6 ce.toNatClampNeg) + (fX7_rBy wy))), (3, .int ((μ 5 ce.toNatClampNeg) + (fX7_qBy wy))), (0, .ref (a 0)), (1, .int ce), (2, .int wy)]) hx hb dX7_turned_23 hl (by decide) rfl (fun ls hl => ?_)
  refine lv_iload_n hx hb dX7_turned_25 rfl (lv_at hl 1 rfl) ?_
  refine lv_i2l hx hb dX7_turned_26 rfl ?_
  refine r_ldcl X wk_X7_37 dX7_turned_27 ?_
  refine r_ldcl X wk_X7_39 dX7_turned_30 ?_
  refine r_ci w (r_runS (As := [.long (((μ 5 ce.toNatClampNeg) + (fX7_qBy wy)).toInt64), .long (-4), .long 4]) (rest := []) X w (kX7_in l E (((μ 5 ce.toNatClampNeg) + (fX7_qBy wy)).toInt64) (-4) 4 ) ck_X7_41 ⟨Nat.le_of_ble_eq_true rfl, Nat.le_of_ble_eq_true rfl⟩ [] rfl (by decide +kernel) hl.1 (Nat.le_of_ble_eq_true rfl) rfl dX7_turned_33 ⟨Nat.le_of_ble_eq_true rfl, Nat.le_of_ble_eq_true rfl⟩) (wMd E a μ sp) [] rfl (by decide +kernel) rfl rfl (fun H locs w => ?_)
  refine lv_if_ne (tgt := 43) hx hb dX7_turned_36 (by decide) (fun c36_1 => ?_) (fun c36_1 => ?_)
  · refine lv_iconst (v := 0) hx hb dX7_turned_43 (by decide) ?_
    refine lv_istore (lv' := [(5, .int 0), (4, .int ((μ 6 ce.toNatClampNeg) + (fX7_rBy wy))), (3, .int ((μ 5 ce.toNatClampNeg) + (fX7_qBy wy))), (0, .ref (a 0)), (1, .int ce), (2, .int wy)]) hx hb dX7_turned_44 hl (by decide) rfl (fun ls hl => ?_)
    refine lv_iload hx hb dX7_turned_46 (lv_at hl 1 rfl) ?_
    refine lv_i2l hx hb dX7_turned_48 rfl ?_
    refine r_ldcl X wk_X7_37 dX7_turned_49 ?_
    refine r_ldcl X wk_X7_39 dX7_turned_52 ?_
    refine r_ci w (r_runS (As := [.long (((μ 6 ce.toNatClampNeg) + (fX7_rBy wy)).toInt64), .long (-4), .long 4]) (rest := []) X w (kX7_in l E (((μ 6 ce.toNatClampNeg) + (fX7_rBy wy)).toInt64) (-4) 4 ) ck_X7_41 ⟨Nat.le_of_ble_eq_true rfl, Nat.le_of_ble_eq_true rfl⟩ [] rfl (by decide +kernel) hl.1 (Nat.le_of_ble_eq_true rfl) rfl dX7_turned_55 ⟨Nat.le_of_ble_eq_true rfl, Nat.le_of_ble_eq_true rfl⟩) (wMd E a μ sp) [] rfl (by decide +kernel) rfl rfl (fun H locs w => ?_)
    refine lv_if_ne (tgt := 65) hx hb dX7_turned_58 (by decide) (fun c58_2 => ?_) (fun c58_2 => ?_)
    · refine lv_iconst (v := 0) hx hb dX7_turned_65 (by decide) ?_
      refine lv_istore (lv' := [(6, .int 0), (5, .int 0), (4, .int ((μ 6 ce.toNatClampNeg) + (fX7_rBy wy))), (3, .int ((μ 5 ce.toNatClampNeg) + (fX7_qBy wy))), (0, .ref (a 0)), (1, .int ce), (2, .int wy)]) hx hb dX7_turned_66 hl (by decide) rfl (fun ls hl => ?_)
      refine lv_iload_n hx hb dX7_turned_68 rfl (lv_at hl 3 rfl) ?_
      refine lv_iload hx hb dX7_turned_69 (lv_at hl 2 rfl) ?_
      refine lv_iadd hx hb dX7_turned_71 ?_
      refine lv_i2l hx hb dX7_turned_72 rfl ?_
      refine r_ldcl X wk_X7_37 dX7_turned_73 ?_
      refine r_ldcl X wk_X7_39 dX7_turned_76 ?_
      refine r_ci w (r_runS (As := [.long ((((μ 5 ce.toNatClampNeg) + (fX7_qBy wy)) + ((μ 6 ce.toNatClampNeg) + (fX7_rBy wy))).toInt64), .long (-4), .long 4]) (rest := []) X w (kX7_in l E ((((μ 5 ce.toNatClampNeg) + (fX7_qBy wy)) + ((μ 6 ce.toNatClampNeg) + (fX7_rBy wy))).toInt64) (-4) 4 ) ck_X7_41 ⟨Nat.le_of_ble_eq_true rfl, Nat.le_of_ble_eq_true rfl⟩ [] rfl (by decide +kernel) hl.1 (Nat.le_of_ble_eq_true rfl) rfl dX7_turned_79 ⟨Nat.le_of_ble_eq_true rfl, Nat.le_of_ble_eq_true rfl⟩) (wMd E a μ sp) [] rfl (by decide +kernel) rfl rfl (fun H locs w => ?_)
      refine lv_if_ne (tgt := 89) hx hb dX7_turned_82 (by decide) (fun c82_3 => ?_) (fun c82_3 => ?_)
      · refine lv_iconst (v := 0) hx hb dX7_turned_89 (by decide) ?_
        refine lv_istore (lv' := [(7, .int 0), (6, .int 0), (5, .int 0), (4, .int ((μ 6 ce.toNatClampNeg) + (fX7_rBy wy))), (3, .int ((μ 5 ce.toNatClampNeg) + (fX7_qBy wy))), (0, .ref (a 0)), (1, .int ce), (2, .int wy)]) hx hb dX7_turned_90 hl (by decide) rfl (fun ls hl => ?_)
        refine lv_iload hx hb dX7_turned_92 (lv_at hl 2 rfl) ?_
        refine lv_if_eq (tgt := 101) hx hb dX7_turned_94 (by decide) (fun _ => ?_) (fun h => absurd h (by decide))
        refine lv_iconst (v := 0) hx hb dX7_turned_101 (by decide) ?_
        refine lv_iload hx hb dX7_turned_102 (lv_at hl 1 rfl) ?_
        refine lv_if_eq (tgt := 111) hx hb dX7_turned_104 (by decide) (fun _ => ?_) (fun h => absurd h (by decide))
        refine lv_iconst (v := 0) hx hb dX7_turned_111 (by decide) ?_
        refine lv_iadd hx hb dX7_turned_112 ?_
        rw [show ((0 : Int32) + 0) = 0 from by decide]
        refine lv_iload hx hb dX7_turned_113 (lv_at hl 0 rfl) ?_
        refine lv_if_eq (tgt := 122) hx hb dX7_turned_115 (by decide) (fun _ => ?_) (fun h => absurd h (by decide))
        refine lv_iconst (v := 0) hx hb dX7_turned_122 (by decide) ?_
        refine lv_iadd hx hb dX7_turned_123 ?_
        rw [show ((0 : Int32) + 0) = 0 from by decide]
        refine lv_iconst (v := 1) hx hb dX7_turned_124 (by decide) ?_
        refine lv_icmp_le (tgt := 135) hx hb dX7_turned_125 (by decide) (fun _ => ?_) (fun h => absurd h (by decide))
        refine lv_iload hx hb dX7_turned_135 (lv_at hl 2 rfl) ?_
        refine lv_if_eq (tgt := 144) hx hb dX7_turned_137 (by decide) (fun _ => ?_) (fun h => absurd h (by decide))
        refine lv_iload hx hb dX7_turned_144 (lv_at hl 1 rfl) ?_
        refine lv_if_eq (tgt := 153) hx hb dX7_turned_146 (by decide) (fun _ => ?_) (fun h => absurd h (by decide))
        refine lv_iconst (v := 1) hx hb dX7_turned_153 (by decide) ?_
        refine lv_istore (lv' := [(8, .int 1), (7, .int 0), (6, .int 0), (5, .int 0), (4, .int ((μ 6 ce.toNatClampNeg) + (fX7_rBy wy))), (3, .int ((μ 5 ce.toNatClampNeg) + (fX7_qBy wy))), (0, .ref (a 0)), (1, .int ce), (2, .int wy)]) hx hb dX7_turned_154 hl (by decide) rfl (fun ls hl => ?_)
        refine lv_iconst (v := 2) hx hb dX7_turned_156 (by decide) ?_
        refine lv_iload hx hb dX7_turned_157 (lv_at hl 0 rfl) ?_
        refine lv_imul hx hb dX7_turned_159 ?_
        rw [show ((2 : Int32) * 1) = 2 from by decide]
        refine lv_iload_n hx hb dX7_turned_160 rfl (lv_at hl 8 rfl) ?_
        refine lv_isub hx hb dX7_turned_161 ?_
        refine lv_bipush (v := 6) hx hb dX7_turned_162 (by decide) ?_
        refine lv_iadd hx hb dX7_turned_164 ?_
        refine lv_bipush (v := 6) hx hb dX7_turned_165 (by decide) ?_
        refine lv_irem hx hb dX7_turned_167 (by decide) ?_
        have hq : fX7_turned μ sp ce wy = (((2 - wy) + 6) - ((2 - wy) + 6) / 6 * 6) := by simp only [fX7_turned, if_neg c36_1, if_neg c58_2, if_neg c82_3]
        rw [hq]
        exact r_iret X w hr rfl dX7_turned_168
      · refine lv_iconst (v := 1) hx hb dX7_turned_85 (by decide) ?_
        refine lv_goto (tgt := 90) hx hb dX7_turned_86 (by decide) ?_
        refine lv_istore (lv' := [(7, .int 1), (6, .int 0), (5, .int 0), (4, .int ((μ 6 ce.toNatClampNeg) + (fX7_rBy wy))), (3, .int ((μ 5 ce.toNatClampNeg) + (fX7_qBy wy))), (0, .ref (a 0)), (1, .int ce), (2, .int wy)]) hx hb dX7_turned_90 hl (by decide) rfl (fun ls hl => ?_)
        refine lv_iload hx hb dX7_turned_92 (lv_at hl 2 rfl) ?_
        refine lv_if_eq (tgt := 101) hx hb dX7_turned_94 (by decide) (fun _ => ?_) (fun h => absurd h (by decide))
        refine lv_iconst (v := 0) hx hb dX7_turned_101 (by decide) ?_
        refine lv_iload hx hb dX7_turned_102 (lv_at hl 1 rfl) ?_
        refine lv_if_eq (tgt := 111) hx hb dX7_turned_104 (by decide) (fun _ => ?_) (fun h => absurd h (by decide))
        refine lv_iconst (v := 0) hx hb dX7_turned_111 (by decide) ?_
        refine lv_iadd hx hb dX7_turned_112 ?_
        rw [show ((0 : Int32) + 0) = 0 from by decide]
        refine lv_iload hx hb dX7_turned_113 (lv_at hl 0 rfl) ?_
        refine lv_if_eq (tgt := 122) hx hb dX7_turned_115 (by decide) (fun h => absurd h (by decide)) (fun _ => ?_)
        refine lv_iconst (v := 1) hx hb dX7_turned_118 (by decide) ?_
        refine lv_goto (tgt := 123) hx hb dX7_turned_119 (by decide) ?_
        refine lv_iadd hx hb dX7_turned_123 ?_
        rw [show ((0 : Int32) + 1) = 1 from by decide]
        refine lv_iconst (v := 1) hx hb dX7_turned_124 (by decide) ?_
        refine lv_icmp_le (tgt := 135) hx hb dX7_turned_125 (by decide) (fun _ => ?_) (fun h => absurd h (by decide))
        refine lv_iload hx hb dX7_turned_135 (lv_at hl 2 rfl) ?_
        refine lv_if_eq (tgt := 144) hx hb dX7_turned_137 (by decide) (fun _ => ?_) (fun h => absurd h (by decide))
        refine lv_iload hx hb dX7_turned_144 (lv_at hl 1 rfl) ?_
        refine lv_if_eq (tgt := 153) hx hb dX7_turned_146 (by decide) (fun _ => ?_) (fun h => absurd h (by decide))
        refine lv_iconst (v := 1) hx hb dX7_turned_153 (by decide) ?_
        refine lv_istore (lv' := [(8, .int 1), (7, .int 1), (6, .int 0), (5, .int 0), (4, .int ((μ 6 ce.toNatClampNeg) + (fX7_rBy wy))), (3, .int ((μ 5 ce.toNatClampNeg) + (fX7_qBy wy))), (0, .ref (a 0)), (1, .int ce), (2, .int wy)]) hx hb dX7_turned_154 hl (by decide) rfl (fun ls hl => ?_)
        refine lv_iconst (v := 2) hx hb dX7_turned_156 (by decide) ?_
        refine lv_iload hx hb dX7_turned_157 (lv_at hl 0 rfl) ?_
        refine lv_imul hx hb dX7_turned_159 ?_
        rw [show ((2 : Int32) * 1) = 2 from by decide]
        refine lv_iload_n hx hb dX7_turned_160 rfl (lv_at hl 8 rfl) ?_
        refine lv_isub hx hb dX7_turned_161 ?_
        refine lv_bipush (v := 6) hx hb dX7_turned_162 (by decide) ?_
        refine lv_iadd hx hb dX7_turned_164 ?_
        refine lv_bipush (v := 6) hx hb dX7_turned_165 (by decide) ?_
        refine lv_irem hx hb dX7_turned_167 (by decide) ?_
        have hq : fX7_turned μ sp ce wy = (((2 - wy) + 6) - ((2 - wy) + 6) / 6 * 6) := by simp only [fX7_turned, if_neg c36_1, if_neg c58_2, if_pos c82_3]
        rw [hq]
        exact r_iret X w hr rfl dX7_turned_168
    · refine lv_iconst (v := 1) hx hb dX7_turned_61 (by decide) ?_
      refine lv_goto (tgt := 66) hx hb dX7_turned_62 (by decide) ?_
      refine lv_istore (lv' := [(6, .int 1), (5, .int 0), (4, .int ((μ 6 ce.toNatClampNeg) + (fX7_rBy wy))), (3, .int ((μ 5 ce.toNatClampNeg) + (fX7_qBy wy))), (0, .ref (a 0)), (1, .int ce), (2, .int wy)]) hx hb dX7_turned_66 hl (by decide) rfl (fun ls hl => ?_)
      refine lv_iload_n hx hb dX7_turned_68 rfl (lv_at hl 3 rfl) ?_
      refine lv_iload hx hb dX7_turned_69 (lv_at hl 2 rfl) ?_
      refine lv_iadd hx hb dX7_turned_71 ?_
      refine lv_i2l hx hb dX7_turned_72 rfl ?_
      refine r_ldcl X wk_X7_37 dX7_turned_73 ?_
      refine r_ldcl X wk_X7_39 dX7_turned_76 ?_
      refine r_ci w (r_runS (As := [.long ((((μ 5 ce.toNatClampNeg) + (fX7_qBy wy)) + ((μ 6 ce.toNatClampNeg) + (fX7_rBy wy))).toInt64), .long (-4), .long 4]) (rest := []) X w (kX7_in l E ((((μ 5 ce.toNatClampNeg) + (fX7_qBy wy)) + ((μ 6 ce.toNatClampNeg) + (fX7_rBy wy))).toInt64) (-4) 4 ) ck_X7_41 ⟨Nat.le_of_ble_eq_true rfl, Nat.le_of_ble_eq_true rfl⟩ [] rfl (by decide +kernel) hl.1 (Nat.le_of_ble_eq_true rfl) rfl dX7_turned_79 ⟨Nat.le_of_ble_eq_true rfl, Nat.le_of_ble_eq_true rfl⟩) (wMd E a μ sp) [] rfl (by decide +kernel) rfl rfl (fun H locs w => ?_)
      refine lv_if_ne (tgt := 89) hx hb dX7_turned_82 (by decide) (fun c82_4 => ?_) (fun c82_4 => ?_)
      · refine lv_iconst (v := 0) hx hb dX7_turned_89 (by decide) ?_
        refine lv_istore (lv' := [(7, .int 0), (6, .int 1), (5, .int 0), (4, .int ((μ 6 ce.toNatClampNeg) + (fX7_rBy wy))), (3, .int ((μ 5 ce.toNatClampNeg) + (fX7_qBy wy))), (0, .ref (a 0)), (1, .int ce), (2, .int wy)]) hx hb dX7_turned_90 hl (by decide) rfl (fun ls hl => ?_)
        refine lv_iload hx hb dX7_turned_92 (lv_at hl 2 rfl) ?_
        refine lv_if_eq (tgt := 101) hx hb dX7_turned_94 (by decide) (fun _ => ?_) (fun h => absurd h (by decide))
        refine lv_iconst (v := 0) hx hb dX7_turned_101 (by decide) ?_
        refine lv_iload hx hb dX7_turned_102 (lv_at hl 1 rfl) ?_
        refine lv_if_eq (tgt := 111) hx hb dX7_turned_104 (by decide) (fun h => absurd h (by decide)) (fun _ => ?_)
        refine lv_iconst (v := 1) hx hb dX7_turned_107 (by decide) ?_
        refine lv_goto (tgt := 112) hx hb dX7_turned_108 (by decide) ?_
        refine lv_iadd hx hb dX7_turned_112 ?_
        rw [show ((0 : Int32) + 1) = 1 from by decide]
        refine lv_iload hx hb dX7_turned_113 (lv_at hl 0 rfl) ?_
        refine lv_if_eq (tgt := 122) hx hb dX7_turned_115 (by decide) (fun _ => ?_) (fun h => absurd h (by decide))
        refine lv_iconst (v := 0) hx hb dX7_turned_122 (by decide) ?_
        refine lv_iadd hx hb dX7_turned_123 ?_
        rw [show ((1 : Int32) + 0) = 1 from by decide]
        refine lv_iconst (v := 1) hx hb dX7_turned_124 (by decide) ?_
        refine lv_icmp_le (tgt := 135) hx hb dX7_turned_125 (by decide) (fun _ => ?_) (fun h => absurd h (by decide))
        refine lv_iload hx hb dX7_turned_135 (lv_at hl 2 rfl) ?_
        refine lv_if_eq (tgt := 144) hx hb dX7_turned_137 (by decide) (fun _ => ?_) (fun h => absurd h (by decide))
        refine lv_iload hx hb dX7_turned_144 (lv_at hl 1 rfl) ?_
        refine lv_if_eq (tgt := 153) hx hb dX7_turned_146 (by decide) (fun h => absurd h (by decide)) (fun _ => ?_)
        refine lv_iconst (v := 0) hx hb dX7_turned_149 (by decide) ?_
        refine lv_goto (tgt := 154) hx hb dX7_turned_150 (by decide) ?_
        refine lv_istore (lv' := [(8, .int 0), (7, .int 0), (6, .int 1), (5, .int 0), (4, .int ((μ 6 ce.toNatClampNeg) + (fX7_rBy wy))), (3, .int ((μ 5 ce.toNatClampNeg) + (fX7_qBy wy))), (0, .ref (a 0)), (1, .int ce), (2, .int wy)]) hx hb dX7_turned_154 hl (by decide) rfl (fun ls hl => ?_)
        refine lv_iconst (v := 2) hx hb dX7_turned_156 (by decide) ?_
        refine lv_iload hx hb dX7_turned_157 (lv_at hl 0 rfl) ?_
        refine lv_imul hx hb dX7_turned_159 ?_
        rw [show ((2 : Int32) * 0) = 0 from by decide]
        refine lv_iload_n hx hb dX7_turned_160 rfl (lv_at hl 8 rfl) ?_
        refine lv_isub hx hb dX7_turned_161 ?_
        refine lv_bipush (v := 6) hx hb dX7_turned_162 (by decide) ?_
        refine lv_iadd hx hb dX7_turned_164 ?_
        refine lv_bipush (v := 6) hx hb dX7_turned_165 (by decide) ?_
        refine lv_irem hx hb dX7_turned_167 (by decide) ?_
        have hq : fX7_turned μ sp ce wy = (((0 - wy) + 6) - ((0 - wy) + 6) / 6 * 6) := by simp only [fX7_turned, if_neg c36_1, if_pos c58_2, if_neg c82_4]
        rw [hq]
        exact r_iret X w hr rfl dX7_turned_168
      · refine lv_iconst (v := 1) hx hb dX7_turned_85 (by decide) ?_
        refine lv_goto (tgt := 90) hx hb dX7_turned_86 (by decide) ?_
        refine lv_istore (lv' := [(7, .int 1), (6, .int 1), (5, .int 0), (4, .int ((μ 6 ce.toNatClampNeg) + (fX7_rBy wy))), (3, .int ((μ 5 ce.toNatClampNeg) + (fX7_qBy wy))), (0, .ref (a 0)), (1, .int ce), (2, .int wy)]) hx hb dX7_turned_90 hl (by decide) rfl (fun ls hl => ?_)
        refine lv_iload hx hb dX7_turned_92 (lv_at hl 2 rfl) ?_
        refine lv_if_eq (tgt := 101) hx hb dX7_turned_94 (by decide) (fun _ => ?_) (fun h => absurd h (by decide))
        refine lv_iconst (v := 0) hx hb dX7_turned_101 (by decide) ?_
        refine lv_iload hx hb dX7_turned_102 (lv_at hl 1 rfl) ?_
        refine lv_if_eq (tgt := 111) hx hb dX7_turned_104 (by decide) (fun h => absurd h (by decide)) (fun _ => ?_)
        refine lv_iconst (v := 1) hx hb dX7_turned_107 (by decide) ?_
        refine lv_goto (tgt := 112) hx hb dX7_turned_108 (by decide) ?_
        refine lv_iadd hx hb dX7_turned_112 ?_
        rw [show ((0 : Int32) + 1) = 1 from by decide]
        refine lv_iload hx hb dX7_turned_113 (lv_at hl 0 rfl) ?_
        refine lv_if_eq (tgt := 122) hx hb dX7_turned_115 (by decide) (fun h => absurd h (by decide)) (fun _ => ?_)
        refine lv_iconst (v := 1) hx hb dX7_turned_118 (by decide) ?_
        refine lv_goto (tgt := 123) hx hb dX7_turned_119 (by decide) ?_
        refine lv_iadd hx hb dX7_turned_123 ?_
        rw [show ((1 : Int32) + 1) = 2 from by decide]
        refine lv_iconst (v := 1) hx hb dX7_turned_124 (by decide) ?_
        refine lv_icmp_le (tgt := 135) hx hb dX7_turned_125 (by decide) (fun h => absurd h (by decide)) (fun _ => ?_)
        refine lv_iload_n hx hb dX7_turned_128 rfl (lv_at hl 7 rfl) ?_
        refine lv_iconst (v := 3) hx hb dX7_turned_129 (by decide) ?_
        refine lv_iadd hx hb dX7_turned_130 ?_
        refine lv_bipush (v := 6) hx hb dX7_turned_131 (by decide) ?_
        refine lv_irem hx hb dX7_turned_133 (by decide) ?_
        have hq : fX7_turned μ sp ce wy = ((wy + 3) - (wy + 3) / 6 * 6) := by simp only [fX7_turned, if_neg c36_1, if_pos c58_2, if_pos c82_4]
        rw [hq]
        exact r_iret X w hr rfl dX7_turned_134
  · refine lv_iconst (v := 1) hx hb dX7_turned_39 (by decide) ?_
    refine lv_goto (tgt := 44) hx hb dX7_turned_40 (by decide) ?_
    refine lv_istore (lv' := [(5, .int 1), (4, .int ((μ 6 ce.toNatClampNeg) + (fX7_rBy wy))), (3, .int ((μ 5 ce.toNatClampNeg) + (fX7_qBy wy))), (0, .ref (a 0)), (1, .int ce), (2, .int wy)]) hx hb dX7_turned_44 hl (by decide) rfl (fun ls hl => ?_)
    refine lv_iload hx hb dX7_turned_46 (lv_at hl 1 rfl) ?_
    refine lv_i2l hx hb dX7_turned_48 rfl ?_
    refine r_ldcl X wk_X7_37 dX7_turned_49 ?_
    refine r_ldcl X wk_X7_39 dX7_turned_52 ?_
    refine r_ci w (r_runS (As := [.long (((μ 6 ce.toNatClampNeg) + (fX7_rBy wy)).toInt64), .long (-4), .long 4]) (rest := []) X w (kX7_in l E (((μ 6 ce.toNatClampNeg) + (fX7_rBy wy)).toInt64) (-4) 4 ) ck_X7_41 ⟨Nat.le_of_ble_eq_true rfl, Nat.le_of_ble_eq_true rfl⟩ [] rfl (by decide +kernel) hl.1 (Nat.le_of_ble_eq_true rfl) rfl dX7_turned_55 ⟨Nat.le_of_ble_eq_true rfl, Nat.le_of_ble_eq_true rfl⟩) (wMd E a μ sp) [] rfl (by decide +kernel) rfl rfl (fun H locs w => ?_)
    refine lv_if_ne (tgt := 65) hx hb dX7_turned_58 (by decide) (fun c58_5 => ?_) (fun c58_5 => ?_)
    · refine lv_iconst (v := 0) hx hb dX7_turned_65 (by decide) ?_
      refine lv_istore (lv' := [(6, .int 0), (5, .int 1), (4, .int ((μ 6 ce.toNatClampNeg) + (fX7_rBy wy))), (3, .int ((μ 5 ce.toNatClampNeg) + (fX7_qBy wy))), (0, .ref (a 0)), (1, .int ce), (2, .int wy)]) hx hb dX7_turned_66 hl (by decide) rfl (fun ls hl => ?_)
      refine lv_iload_n hx hb dX7_turned_68 rfl (lv_at hl 3 rfl) ?_
      refine lv_iload hx hb dX7_turned_69 (lv_at hl 2 rfl) ?_
      refine lv_iadd hx hb dX7_turned_71 ?_
      refine lv_i2l hx hb dX7_turned_72 rfl ?_
      refine r_ldcl X wk_X7_37 dX7_turned_73 ?_
      refine r_ldcl X wk_X7_39 dX7_turned_76 ?_
      refine r_ci w (r_runS (As := [.long ((((μ 5 ce.toNatClampNeg) + (fX7_qBy wy)) + ((μ 6 ce.toNatClampNeg) + (fX7_rBy wy))).toInt64), .long (-4), .long 4]) (rest := []) X w (kX7_in l E ((((μ 5 ce.toNatClampNeg) + (fX7_qBy wy)) + ((μ 6 ce.toNatClampNeg) + (fX7_rBy wy))).toInt64) (-4) 4 ) ck_X7_41 ⟨Nat.le_of_ble_eq_true rfl, Nat.le_of_ble_eq_true rfl⟩ [] rfl (by decide +kernel) hl.1 (Nat.le_of_ble_eq_true rfl) rfl dX7_turned_79 ⟨Nat.le_of_ble_eq_true rfl, Nat.le_of_ble_eq_true rfl⟩) (wMd E a μ sp) [] rfl (by decide +kernel) rfl rfl (fun H locs w => ?_)
      refine lv_if_ne (tgt := 89) hx hb dX7_turned_82 (by decide) (fun c82_6 => ?_) (fun c82_6 => ?_)
      · refine lv_iconst (v := 0) hx hb dX7_turned_89 (by decide) ?_
        refine lv_istore (lv' := [(7, .int 0), (6, .int 0), (5, .int 1), (4, .int ((μ 6 ce.toNatClampNeg) + (fX7_rBy wy))), (3, .int ((μ 5 ce.toNatClampNeg) + (fX7_qBy wy))), (0, .ref (a 0)), (1, .int ce), (2, .int wy)]) hx hb dX7_turned_90 hl (by decide) rfl (fun ls hl => ?_)
        refine lv_iload hx hb dX7_turned_92 (lv_at hl 2 rfl) ?_
        refine lv_if_eq (tgt := 101) hx hb dX7_turned_94 (by decide) (fun h => absurd h (by decide)) (fun _ => ?_)
        refine lv_iconst (v := 1) hx hb dX7_turned_97 (by decide) ?_
        refine lv_goto (tgt := 102) hx hb dX7_turned_98 (by decide) ?_
        refine lv_iload hx hb dX7_turned_102 (lv_at hl 1 rfl) ?_
        refine lv_if_eq (tgt := 111) hx hb dX7_turned_104 (by decide) (fun _ => ?_) (fun h => absurd h (by decide))
        refine lv_iconst (v := 0) hx hb dX7_turned_111 (by decide) ?_
        refine lv_iadd hx hb dX7_turned_112 ?_
        rw [show ((1 : Int32) + 0) = 1 from by decide]
        refine lv_iload hx hb dX7_turned_113 (lv_at hl 0 rfl) ?_
        refine lv_if_eq (tgt := 122) hx hb dX7_turned_115 (by decide) (fun _ => ?_) (fun h => absurd h (by decide))
        refine lv_iconst (v := 0) hx hb dX7_turned_122 (by decide) ?_
        refine lv_iadd hx hb dX7_turned_123 ?_
        rw [show ((1 : Int32) + 0) = 1 from by decide]
        refine lv_iconst (v := 1) hx hb dX7_turned_124 (by decide) ?_
        refine lv_icmp_le (tgt := 135) hx hb dX7_turned_125 (by decide) (fun _ => ?_) (fun h => absurd h (by decide))
        refine lv_iload hx hb dX7_turned_135 (lv_at hl 2 rfl) ?_
        refine lv_if_eq (tgt := 144) hx hb dX7_turned_137 (by decide) (fun h => absurd h (by decide)) (fun _ => ?_)
        refine lv_iconst (v := 2) hx hb dX7_turned_140 (by decide) ?_
        refine lv_goto (tgt := 154) hx hb dX7_turned_141 (by decide) ?_
        refine lv_istore (lv' := [(8, .int 2), (7, .int 0), (6, .int 0), (5, .int 1), (4, .int ((μ 6 ce.toNatClampNeg) + (fX7_rBy wy))), (3, .int ((μ 5 ce.toNatClampNeg) + (fX7_qBy wy))), (0, .ref (a 0)), (1, .int ce), (2, .int wy)]) hx hb dX7_turned_154 hl (by decide) rfl (fun ls hl => ?_)
        refine lv_iconst (v := 2) hx hb dX7_turned_156 (by decide) ?_
        refine lv_iload hx hb dX7_turned_157 (lv_at hl 0 rfl) ?_
        refine lv_imul hx hb dX7_turned_159 ?_
        rw [show ((2 : Int32) * 2) = 4 from by decide]
        refine lv_iload_n hx hb dX7_turned_160 rfl (lv_at hl 8 rfl) ?_
        refine lv_isub hx hb dX7_turned_161 ?_
        refine lv_bipush (v := 6) hx hb dX7_turned_162 (by decide) ?_
        refine lv_iadd hx hb dX7_turned_164 ?_
        refine lv_bipush (v := 6) hx hb dX7_turned_165 (by decide) ?_
        refine lv_irem hx hb dX7_turned_167 (by decide) ?_
        have hq : fX7_turned μ sp ce wy = (((4 - wy) + 6) - ((4 - wy) + 6) / 6 * 6) := by simp only [fX7_turned, if_pos c36_1, if_neg c58_5, if_neg c82_6]
        rw [hq]
        exact r_iret X w hr rfl dX7_turned_168
      · refine lv_iconst (v := 1) hx hb dX7_turned_85 (by decide) ?_
        refine lv_goto (tgt := 90) hx hb dX7_turned_86 (by decide) ?_
        refine lv_istore (lv' := [(7, .int 1), (6, .int 0), (5, .int 1), (4, .int ((μ 6 ce.toNatClampNeg) + (fX7_rBy wy))), (3, .int ((μ 5 ce.toNatClampNeg) + (fX7_qBy wy))), (0, .ref (a 0)), (1, .int ce), (2, .int wy)]) hx hb dX7_turned_90 hl (by decide) rfl (fun ls hl => ?_)
        refine lv_iload hx hb dX7_turned_92 (lv_at hl 2 rfl) ?_
        refine lv_if_eq (tgt := 101) hx hb dX7_turned_94 (by decide) (fun h => absurd h (by decide)) (fun _ => ?_)
        refine lv_iconst (v := 1) hx hb dX7_turned_97 (by decide) ?_
        refine lv_goto (tgt := 102) hx hb dX7_turned_98 (by decide) ?_
        refine lv_iload hx hb dX7_turned_102 (lv_at hl 1 rfl) ?_
        refine lv_if_eq (tgt := 111) hx hb dX7_turned_104 (by decide) (fun _ => ?_) (fun h => absurd h (by decide))
        refine lv_iconst (v := 0) hx hb dX7_turned_111 (by decide) ?_
        refine lv_iadd hx hb dX7_turned_112 ?_
        rw [show ((1 : Int32) + 0) = 1 from by decide]
        refine lv_iload hx hb dX7_turned_113 (lv_at hl 0 rfl) ?_
        refine lv_if_eq (tgt := 122) hx hb dX7_turned_115 (by decide) (fun h => absurd h (by decide)) (fun _ => ?_)
        refine lv_iconst (v := 1) hx hb dX7_turned_118 (by decide) ?_
        refine lv_goto (tgt := 123) hx hb dX7_turned_119 (by decide) ?_
        refine lv_iadd hx hb dX7_turned_123 ?_
        rw [show ((1 : Int32) + 1) = 2 from by decide]
        refine lv_iconst (v := 1) hx hb dX7_turned_124 (by decide) ?_
        refine lv_icmp_le (tgt := 135) hx hb dX7_turned_125 (by decide) (fun h => absurd h (by decide)) (fun _ => ?_)
        refine lv_iload_n hx hb dX7_turned_128 rfl (lv_at hl 7 rfl) ?_
        refine lv_iconst (v := 3) hx hb dX7_turned_129 (by decide) ?_
        refine lv_iadd hx hb dX7_turned_130 ?_
        refine lv_bipush (v := 6) hx hb dX7_turned_131 (by decide) ?_
        refine lv_irem hx hb dX7_turned_133 (by decide) ?_
        have hq : fX7_turned μ sp ce wy = ((wy + 3) - (wy + 3) / 6 * 6) := by simp only [fX7_turned, if_pos c36_1, if_neg c58_5, if_pos c82_6]
        rw [hq]
        exact r_iret X w hr rfl dX7_turned_134
    · refine lv_iconst (v := 1) hx hb dX7_turned_61 (by decide) ?_
      refine lv_goto (tgt := 66) hx hb dX7_turned_62 (by decide) ?_
      refine lv_istore (lv' := [(6, .int 1), (5, .int 1), (4, .int ((μ 6 ce.toNatClampNeg) + (fX7_rBy wy))), (3, .int ((μ 5 ce.toNatClampNeg) + (fX7_qBy wy))), (0, .ref (a 0)), (1, .int ce), (2, .int wy)]) hx hb dX7_turned_66 hl (by decide) rfl (fun ls hl => ?_)
      refine lv_iload_n hx hb dX7_turned_68 rfl (lv_at hl 3 rfl) ?_
      refine lv_iload hx hb dX7_turned_69 (lv_at hl 2 rfl) ?_
      refine lv_iadd hx hb dX7_turned_71 ?_
      refine lv_i2l hx hb dX7_turned_72 rfl ?_
      refine r_ldcl X wk_X7_37 dX7_turned_73 ?_
      refine r_ldcl X wk_X7_39 dX7_turned_76 ?_
      refine r_ci w (r_runS (As := [.long ((((μ 5 ce.toNatClampNeg) + (fX7_qBy wy)) + ((μ 6 ce.toNatClampNeg) + (fX7_rBy wy))).toInt64), .long (-4), .long 4]) (rest := []) X w (kX7_in l E ((((μ 5 ce.toNatClampNeg) + (fX7_qBy wy)) + ((μ 6 ce.toNatClampNeg) + (fX7_rBy wy))).toInt64) (-4) 4 ) ck_X7_41 ⟨Nat.le_of_ble_eq_true rfl, Nat.le_of_ble_eq_true rfl⟩ [] rfl (by decide +kernel) hl.1 (Nat.le_of_ble_eq_true rfl) rfl dX7_turned_79 ⟨Nat.le_of_ble_eq_true rfl, Nat.le_of_ble_eq_true rfl⟩) (wMd E a μ sp) [] rfl (by decide +kernel) rfl rfl (fun H locs w => ?_)
      refine lv_if_ne (tgt := 89) hx hb dX7_turned_82 (by decide) (fun c82_7 => ?_) (fun c82_7 => ?_)
      · refine lv_iconst (v := 0) hx hb dX7_turned_89 (by decide) ?_
        refine lv_istore (lv' := [(7, .int 0), (6, .int 1), (5, .int 1), (4, .int ((μ 6 ce.toNatClampNeg) + (fX7_rBy wy))), (3, .int ((μ 5 ce.toNatClampNeg) + (fX7_qBy wy))), (0, .ref (a 0)), (1, .int ce), (2, .int wy)]) hx hb dX7_turned_90 hl (by decide) rfl (fun ls hl => ?_)
        refine lv_iload hx hb dX7_turned_92 (lv_at hl 2 rfl) ?_
        refine lv_if_eq (tgt := 101) hx hb dX7_turned_94 (by decide) (fun h => absurd h (by decide)) (fun _ => ?_)
        refine lv_iconst (v := 1) hx hb dX7_turned_97 (by decide) ?_
        refine lv_goto (tgt := 102) hx hb dX7_turned_98 (by decide) ?_
        refine lv_iload hx hb dX7_turned_102 (lv_at hl 1 rfl) ?_
        refine lv_if_eq (tgt := 111) hx hb dX7_turned_104 (by decide) (fun h => absurd h (by decide)) (fun _ => ?_)
        refine lv_iconst (v := 1) hx hb dX7_turned_107 (by decide) ?_
        refine lv_goto (tgt := 112) hx hb dX7_turned_108 (by decide) ?_
        refine lv_iadd hx hb dX7_turned_112 ?_
        rw [show ((1 : Int32) + 1) = 2 from by decide]
        refine lv_iload hx hb dX7_turned_113 (lv_at hl 0 rfl) ?_
        refine lv_if_eq (tgt := 122) hx hb dX7_turned_115 (by decide) (fun _ => ?_) (fun h => absurd h (by decide))
        refine lv_iconst (v := 0) hx hb dX7_turned_122 (by decide) ?_
        refine lv_iadd hx hb dX7_turned_123 ?_
        rw [show ((2 : Int32) + 0) = 2 from by decide]
        refine lv_iconst (v := 1) hx hb dX7_turned_124 (by decide) ?_
        refine lv_icmp_le (tgt := 135) hx hb dX7_turned_125 (by decide) (fun h => absurd h (by decide)) (fun _ => ?_)
        refine lv_iload_n hx hb dX7_turned_128 rfl (lv_at hl 7 rfl) ?_
        refine lv_iconst (v := 3) hx hb dX7_turned_129 (by decide) ?_
        refine lv_iadd hx hb dX7_turned_130 ?_
        refine lv_bipush (v := 6) hx hb dX7_turned_131 (by decide) ?_
        refine lv_irem hx hb dX7_turned_133 (by decide) ?_
        have hq : fX7_turned μ sp ce wy = ((wy + 3) - (wy + 3) / 6 * 6) := by simp only [fX7_turned, if_pos c36_1, if_pos c58_5, if_neg c82_7]
        rw [hq]
        exact r_iret X w hr rfl dX7_turned_134
      · refine lv_iconst (v := 1) hx hb dX7_turned_85 (by decide) ?_
        refine lv_goto (tgt := 90) hx hb dX7_turned_86 (by decide) ?_
        refine lv_istore (lv' := [(7, .int 1), (6, .int 1), (5, .int 1), (4, .int ((μ 6 ce.toNatClampNeg) + (fX7_rBy wy))), (3, .int ((μ 5 ce.toNatClampNeg) + (fX7_qBy wy))), (0, .ref (a 0)), (1, .int ce), (2, .int wy)]) hx hb dX7_turned_90 hl (by decide) rfl (fun ls hl => ?_)
        refine lv_iload hx hb dX7_turned_92 (lv_at hl 2 rfl) ?_
        refine lv_if_eq (tgt := 101) hx hb dX7_turned_94 (by decide) (fun h => absurd h (by decide)) (fun _ => ?_)
        refine lv_iconst (v := 1) hx hb dX7_turned_97 (by decide) ?_
        refine lv_goto (tgt := 102) hx hb dX7_turned_98 (by decide) ?_
        refine lv_iload hx hb dX7_turned_102 (lv_at hl 1 rfl) ?_
        refine lv_if_eq (tgt := 111) hx hb dX7_turned_104 (by decide) (fun h => absurd h (by decide)) (fun _ => ?_)
        refine lv_iconst (v := 1) hx hb dX7_turned_107 (by decide) ?_
        refine lv_goto (tgt := 112) hx hb dX7_turned_108 (by decide) ?_
        refine lv_iadd hx hb dX7_turned_112 ?_
        rw [show ((1 : Int32) + 1) = 2 from by decide]
        refine lv_iload hx hb dX7_turned_113 (lv_at hl 0 rfl) ?_
        refine lv_if_eq (tgt := 122) hx hb dX7_turned_115 (by decide) (fun h => absurd h (by decide)) (fun _ => ?_)
        refine lv_iconst (v := 1) hx hb dX7_turned_118 (by decide) ?_
        refine lv_goto (tgt := 123) hx hb dX7_turned_119 (by decide) ?_
        refine lv_iadd hx hb dX7_turned_123 ?_
        rw [show ((2 : Int32) + 1) = 3 from by decide]
        refine lv_iconst (v := 1) hx hb dX7_turned_124 (by decide) ?_
        refine lv_icmp_le (tgt := 135) hx hb dX7_turned_125 (by decide) (fun h => absurd h (by decide)) (fun _ => ?_)
        refine lv_iload_n hx hb dX7_turned_128 rfl (lv_at hl 7 rfl) ?_
        refine lv_iconst (v := 3) hx hb dX7_turned_129 (by decide) ?_
        refine lv_iadd hx hb dX7_turned_130 ?_
        refine lv_bipush (v := 6) hx hb dX7_turned_131 (by decide) ?_
        refine lv_irem hx hb dX7_turned_133 (by decide) ?_
        have hq : fX7_turned μ sp ce wy = ((wy + 3) - (wy + 3) / 6 * 6) := by simp only [fX7_turned, if_pos c36_1, if_pos c58_5, if_pos c82_7]
        rw [hq]
        exact r_iret X w hr rfl dX7_turned_134
theorem cl_toInt {x : Int32} (h : ¬ x.toInt < 0) : (x.toNatClampNeg : Int) = x.toInt := by
  rw [Int32.toNatClampNeg]
  omega
theorem isb_in {x bl : Int32} (hev : x.toNatClampNeg ≤ 12) (h : ¬ fX7_in bl.toInt64 0 (x.toInt64 - 1) = 0) : vp_in (13 + bl) 73 ∧ vp_in bl 12 ∧ 0 ≤ bl.toInt ∧ bl.toInt < x.toInt := by
  rw [in_iff] at h
  have e0 : (0 : Int64).toInt = 0 := rfl
  have e13 : (13 : Int32).toInt = 13 := rfl
  have b1 := Int32.toInt_lt x
  have b2 := Int32.le_toInt x
  have e1 : (x.toInt64 - 1).toInt = x.toInt - 1 := by
    rw [Int64.toInt_sub, Int32.toInt_toInt64, show (1 : Int64).toInt = 1 from rfl]
    exact Int.bmod_eq_of_le (by omega) (by omega)
  rw [e1, e0] at h
  have hx : ¬ x.toInt < 0 := by omega
  have hx2 := cl_toInt hx
  refine ⟨?_, ?_, by omega, by omega⟩
  · rw [vp_in_iff, ti_add (by omega) (by omega), e13]
    omega
  · rw [vp_in_iff]
    omega
def fX7_isBall (μ : N2) (sp : UInt32) (bl : Int32) : Int32 := if (fX7_in bl.toInt64 0 (((μ 0 12).toInt64) - 1)) = 0 then ((0)) else (if (μ 0 (13 + bl).toNatClampNeg) = (-5) then ((0)) else ((1)))
theorem dX7_isBall_0 : decode cX7_isBall 0 = .ok (.iload_n 1, 1) := by decide +kernel
theorem dX7_isBall_1 : decode cX7_isBall 1 = .ok (.i2l, 1) := by decide +kernel
theorem dX7_isBall_2 : decode cX7_isBall 2 = .ok (.lconst 0, 1) := by decide +kernel
theorem dX7_isBall_3 : decode cX7_isBall 3 = .ok (.aload_n 0, 1) := by decide +kernel
theorem dX7_isBall_4 : decode cX7_isBall 4 = .ok (.getfield 7, 3) := by decide +kernel
theorem dX7_isBall_7 : decode cX7_isBall 7 = .ok (.bipush 12, 2) := by decide +kernel
theorem dX7_isBall_9 : decode cX7_isBall 9 = .ok (.iaload, 1) := by decide +kernel
theorem dX7_isBall_10 : decode cX7_isBall 10 = .ok (.i2l, 1) := by decide +kernel
theorem dX7_isBall_11 : decode cX7_isBall 11 = .ok (.lconst 1, 1) := by decide +kernel
theorem dX7_isBall_12 : decode cX7_isBall 12 = .ok (.lsub, 1) := by decide +kernel
theorem dX7_isBall_13 : decode cX7_isBall 13 = .ok (.invokestatic 41, 3) := by decide +kernel
theorem dX7_isBall_16 : decode cX7_isBall 16 = .ok (.ifCond .eq 21, 3) := by decide +kernel
theorem dX7_isBall_19 : decode cX7_isBall 19 = .ok (.aload_n 0, 1) := by decide +kernel
theorem dX7_isBall_20 : decode cX7_isBall 20 = .ok (.getfield 7, 3) := by decide +kernel
theorem dX7_isBall_23 : decode cX7_isBall 23 = .ok (.bipush 13, 2) := by decide +kernel
theorem dX7_isBall_25 : decode cX7_isBall 25 = .ok (.iload_n 1, 1) := by decide +kernel
theorem dX7_isBall_26 : decode cX7_isBall 26 = .ok (.iadd, 1) := by decide +kernel
theorem dX7_isBall_27 : decode cX7_isBall 27 = .ok (.iaload, 1) := by decide +kernel
theorem dX7_isBall_28 : decode cX7_isBall 28 = .ok (.bipush (-5), 2) := by decide +kernel
theorem dX7_isBall_30 : decode cX7_isBall 30 = .ok (.if_icmp .eq 7, 3) := by decide +kernel
theorem dX7_isBall_33 : decode cX7_isBall 33 = .ok (.iconst 1, 1) := by decide +kernel
theorem dX7_isBall_34 : decode cX7_isBall 34 = .ok (.goto 4, 3) := by decide +kernel
theorem dX7_isBall_37 : decode cX7_isBall 37 = .ok (.iconst 0, 1) := by decide +kernel
theorem dX7_isBall_38 : decode cX7_isBall 38 = .ok (.ireturn, 1) := by decide +kernel
set_option maxHeartbeats 4000000 in
set_option maxRecDepth 100000 in
theorem kX7_isBall (l : Launch) (E : Ev) (a : Nat → Nat) (μ : N2) (sp : UInt32) (bl : Int32) (hev : (μ 0 12).toNatClampNeg ≤ 12) : KQ l yX7_isBall cX7_isBall 2 (some .boolean) 1 25 E [.ref (a 0), .int bl] (wMd E a μ sp) (QI E (wMd E a μ sp) (fX7_isBall μ sp bl) (wMd E a μ sp)) := by
  refine KQ.mk RX7 rfl (by decide +kernel) (Nat.le_of_ble_eq_true rfl) ?_
  intro p e s m below meth c ls X hr w hl
  have hx := X.1
  have hb := X.2.1
  have hl : lv_has ls 2 [(0, .ref (a 0)), (1, .int bl)] := hl
  refine lv_iload_n hx hb dX7_isBall_0 rfl (lv_at hl 1 rfl) ?_
  refine lv_i2l hx hb dX7_isBall_1 rfl ?_
  refine lv_lconst (v := 0) hx hb dX7_isBall_2 (by decide) ?_
  refine lv_aload_n hx hb dX7_isBall_3 rfl (lv_at hl 0 rfl) ?_
  refine r_get X w CL7 0 (by decide) wf_X7_7 0 rfl rfl dX7_isBall_4 ?_
  refine lv_bipush (v := 12) hx hb dX7_isBall_7 (by decide) ?_
  refine r_ialdL X w 1 rfl (j := 12) rfl (vin_c rfl) dX7_isBall_9 ?_
  refine lv_i2l hx hb dX7_isBall_10 rfl ?_
  refine lv_lconst (v := 1) hx hb dX7_isBall_11 (by decide) ?_
  refine lv_lsub hx hb dX7_isBall_12 ?_
  refine r_ci w (r_runS (As := [.long bl.toInt64, .long 0, .long (((μ 0 12).toInt64) - 1)]) (rest := []) X w (kX7_in l E bl.toInt64 0 (((μ 0 12).toInt64) - 1) ) ck_X7_41 ⟨Nat.le_of_ble_eq_true rfl, Nat.le_of_ble_eq_true rfl⟩ [] rfl (by decide +kernel) hl.1 (Nat.le_of_ble_eq_true rfl) rfl dX7_isBall_13 ⟨Nat.le_of_ble_eq_true rfl, Nat.le_of_ble_eq_true rfl⟩) (wMd E a μ sp) [] rfl (by decide +kernel) rfl rfl (fun H locs w => ?_)
  refine lv_if_eq (tgt := 37) hx hb dX7_isBall_16 (by decide) (fun c16_1 => ?_) (fun c16_1 => ?_)
  · refine lv_iconst (v := 0) hx hb dX7_isBall_37 (by decide) ?_
    have hq : fX7_isBall μ sp bl = (0) := by simp only [fX7_isBall, if_pos c16_1]
    rw [hq]
    exact r_zret X w hr (Or.inl rfl) rfl dX7_isBall_38
  · refine lv_aload_n hx hb dX7_isBall_19 rfl (lv_at hl 0 rfl) ?_
    refine r_get X w CL7 0 (by decide) wf_X7_7 0 rfl rfl dX7_isBall_20 ?_
    refine lv_bipush (v := 13) hx hb dX7_isBall_23 (by decide) ?_
    refine lv_iload_n hx hb dX7_isBall_25 rfl (lv_at hl 1 rfl) ?_
    refine lv_iadd hx hb dX7_isBall_26 ?_
    refine r_iald X w 1 rfl (isb_in hev c16_1).1 dX7_isBall_27 ?_
    refine lv_bipush (v := (-5)) hx hb dX7_isBall_28 (by decide) ?_
    refine lv_icmp_eq (tgt := 37) hx hb dX7_isBall_30 (by decide) (fun c30_2 => ?_) (fun c30_2 => ?_)
    · refine lv_iconst (v := 0) hx hb dX7_isBall_37 (by decide) ?_
      have hq : fX7_isBall μ sp bl = (0) := by simp only [fX7_isBall, if_neg c16_1, if_pos c30_2]
      rw [hq]
      exact r_zret X w hr (Or.inl rfl) rfl dX7_isBall_38
    · refine lv_iconst (v := 1) hx hb dX7_isBall_33 (by decide) ?_
      refine lv_goto (tgt := 38) hx hb dX7_isBall_34 (by decide) ?_
      have hq : fX7_isBall μ sp bl = (1) := by simp only [fX7_isBall, if_neg c16_1, if_neg c30_2]
      rw [hq]
      exact r_zret X w hr (Or.inr rfl) rfl dX7_isBall_38
theorem zX7_isBall (μ : N2) (sp : UInt32) (bl : Int32) : fX7_isBall μ sp bl = 0 ∨ fX7_isBall μ sp bl = 1 := by
  unfold fX7_isBall
  repeat' split
  all_goals first | exact Or.inl rfl | exact Or.inr rfl | (simp; done) | exact zX7_in _ _ _
