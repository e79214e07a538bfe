/-! Felt: the cells and how they lie (printed by wip/whole/gen/p05.py) -/
def fX1_isCell (ce : Int32) : Int32 := if ce < 0 then ((0)) else (if 61 ≤ ce then ((0)) else ((1)))
theorem dX1_isCell_0 : decode cX1_isCell 0 = .ok (.iload_n 0, 1) := by decide +kernel
theorem dX1_isCell_1 : decode cX1_isCell 1 = .ok (.ifCond .lt 13, 3) := by decide +kernel
theorem dX1_isCell_4 : decode cX1_isCell 4 = .ok (.iload_n 0, 1) := by decide +kernel
theorem dX1_isCell_5 : decode cX1_isCell 5 = .ok (.bipush 61, 2) := by decide +kernel
theorem dX1_isCell_7 : decode cX1_isCell 7 = .ok (.if_icmp .ge 7, 3) := by decide +kernel
theorem dX1_isCell_10 : decode cX1_isCell 10 = .ok (.iconst 1, 1) := by decide +kernel
theorem dX1_isCell_11 : decode cX1_isCell 11 = .ok (.goto 4, 3) := by decide +kernel
theorem dX1_isCell_14 : decode cX1_isCell 14 = .ok (.iconst 0, 1) := by decide +kernel
theorem dX1_isCell_15 : decode cX1_isCell 15 = .ok (.ireturn, 1) := by decide +kernel
set_option maxHeartbeats 4000000 in
set_option maxRecDepth 100000 in
theorem kX1_isCell (l : Launch) (E : Ev) (ce : Int32) : KQ l yX1_isCell cX1_isCell 1 (some .boolean) 0 0 E [.int ce] [] (QI E [] (fX1_isCell ce) []) := by
  refine KQ.mk RX1 rfl (by decide +kernel) (Nat.le_of_ble_eq_true rfl) ?_
  intro p e s m below meth c ls X hr w hl
  have hx := X.1
  have hb := X.2.1
  have hl : lv_has ls 1 [(0, .int ce)] := hl
  refine lv_iload_n hx hb dX1_isCell_0 rfl (lv_at hl 0 rfl) ?_
  refine lv_if_lt (tgt := 14) hx hb dX1_isCell_1 (by decide) (fun c1_1 => ?_) (fun c1_1 => ?_)
  · refine lv_iconst (v := 0) hx hb dX1_isCell_14 (by decide) ?_
    have hq : fX1_isCell ce = (0) := by simp only [fX1_isCell, if_pos c1_1]
    rw [hq]
    exact r_zret X w hr (Or.inl rfl) rfl dX1_isCell_15
  · refine lv_iload_n hx hb dX1_isCell_4 rfl (lv_at hl 0 rfl) ?_
    refine lv_bipush (v := 61) hx hb dX1_isCell_5 (by decide) ?_
    refine lv_icmp_ge (tgt := 14) hx hb dX1_isCell_7 (by decide) (fun c7_2 => ?_) (fun c7_2 => ?_)
    · refine lv_iconst (v := 0) hx hb dX1_isCell_14 (by decide) ?_
      have hq : fX1_isCell ce = (0) := by simp only [fX1_isCell, if_neg c1_1, if_pos c7_2]
      rw [hq]
      exact r_zret X w hr (Or.inl rfl) rfl dX1_isCell_15
    · refine lv_iconst (v := 1) hx hb dX1_isCell_10 (by decide) ?_
      refine lv_goto (tgt := 15) hx hb dX1_isCell_11 (by decide) ?_
      have hq : fX1_isCell ce = (1) := by simp only [fX1_isCell, if_neg c1_1, if_neg c7_2]
      rw [hq]
      exact r_zret X w hr (Or.inr rfl) rfl dX1_isCell_15
theorem zX1_isCell (ce : Int32) : fX1_isCell ce = 0 ∨ fX1_isCell ce = 1 := by
  unfold fX1_isCell
  repeat' split
  all_goals first | exact Or.inl rfl | exact Or.inr rfl | (simp; done) | exact Or.inl rfl
def fX1_isDirection (di : Int32) : Int32 := if di < 0 then ((0)) else (if 6 ≤ di then ((0)) else ((1)))
theorem dX1_isDirection_0 : decode cX1_isDirection 0 = .ok (.iload_n 0, 1) := by decide +kernel
theorem dX1_isDirection_1 : decode cX1_isDirection 1 = .ok (.ifCond .lt 13, 3) := by decide +kernel
theorem dX1_isDirection_4 : decode cX1_isDirection 4 = .ok (.iload_n 0, 1) := by decide +kernel
theorem dX1_isDirection_5 : decode cX1_isDirection 5 = .ok (.bipush 6, 2) := by decide +kernel
theorem dX1_isDirection_7 : decode cX1_isDirection 7 = .ok (.if_icmp .ge 7, 3) := by decide +kernel
theorem dX1_isDirection_10 : decode cX1_isDirection 10 = .ok (.iconst 1, 1) := by decide +kernel
theorem dX1_isDirection_11 : decode cX1_isDirection 11 = .ok (.goto 4, 3) := by decide +kernel
theorem dX1_isDirection_14 : decode cX1_isDirection 14 = .ok (.iconst 0, 1) := by decide +kernel
theorem dX1_isDirection_15 : decode cX1_isDirection 15 = .ok (.ireturn, 1) := by decide +kernel
set_option maxHeartbeats 4000000 in
set_option maxRecDepth 100000 in
theorem kX1_isDirection (l : Launch) (E : Ev) (di : Int32) : KQ l yX1_isDirection cX1_isDirection 1 (some .boolean) 0 0 E [.int di] [] (QI E [] (fX1_isDirection di) []) := by
  refine KQ.mk RX1 rfl (by decide +kernel) (Nat.le_of_ble_eq_true rfl) ?_
  intro p e s m below meth c ls X hr w hl
  have hx := X.1
  have hb := X.2.1
  have hl : lv_has ls 1 [(0, .int di)] := hl
  refine lv_iload_n hx hb dX1_isDirection_0 rfl (lv_at hl 0 rfl) ?_
  refine lv_if_lt (tgt := 14) hx hb dX1_isDirection_1 (by decide) (fun c1_1 => ?_) (fun c1_1 => ?_)
  · refine lv_iconst (v := 0) hx hb dX1_isDirection_14 (by decide) ?_
    have hq : fX1_isDirection di = (0) := by simp only [fX1_isDirection, if_pos c1_1]
    rw [hq]
    exact r_zret X w hr (Or.inl rfl) rfl dX1_isDirection_15
  · refine lv_iload_n hx hb dX1_isDirection_4 rfl (lv_at hl 0 rfl) ?_
    refine lv_bipush (v := 6) hx hb dX1_isDirection_5 (by decide) ?_
    refine lv_icmp_ge (tgt := 14) hx hb dX1_isDirection_7 (by decide) (fun c7_2 => ?_) (fun c7_2 => ?_)
    · refine lv_iconst (v := 0) hx hb dX1_isDirection_14 (by decide) ?_
      have hq : fX1_isDirection di = (0) := by simp only [fX1_isDirection, if_neg c1_1, if_pos c7_2]
      rw [hq]
      exact r_zret X w hr (Or.inl rfl) rfl dX1_isDirection_15
    · refine lv_iconst (v := 1) hx hb dX1_isDirection_10 (by decide) ?_
      refine lv_goto (tgt := 15) hx hb dX1_isDirection_11 (by decide) ?_
      have hq : fX1_isDirection di = (1) := by simp only [fX1_isDirection, if_neg c1_1, if_neg c7_2]
      rw [hq]
      exact r_zret X w hr (Or.inr rfl) rfl dX1_isDirection_15
theorem zX1_isDirection (di : Int32) : fX1_isDirection di = 0 ∨ fX1_isDirection di = 1 := by
  unfold fX1_isDirection
  repeat' split
  all_goals first | exact Or.inl rfl | exact Or.inr rfl | (simp; done) | exact Or.inl rfl
def fX1_isOut (co : Int32) : Int32 := if co < (-4) then ((1)) else (if co ≤ 4 then ((0)) else ((1)))
theorem dX1_isOut_0 : decode cX1_isOut 0 = .ok (.iload_n 0, 1) := by decide +kernel
theorem dX1_isOut_1 : decode cX1_isOut 1 = .ok (.bipush (-4), 2) := by decide +kernel
theorem dX1_isOut_3 : decode cX1_isOut 3 = .ok (.if_icmp .lt 8, 3) := by decide +kernel
theorem dX1_isOut_6 : decode cX1_isOut 6 = .ok (.iload_n 0, 1) := by decide +kernel
theorem dX1_isOut_7 : decode cX1_isOut 7 = .ok (.iconst 4, 1) := by decide +kernel
theorem dX1_isOut_8 : decode cX1_isOut 8 = .ok (.if_icmp .le 7, 3) := by decide +kernel
theorem dX1_isOut_11 : decode cX1_isOut 11 = .ok (.iconst 1, 1) := by decide +kernel
theorem dX1_isOut_12 : decode cX1_isOut 12 = .ok (.goto 4, 3) := by decide +kernel
theorem dX1_isOut_15 : decode cX1_isOut 15 = .ok (.iconst 0, 1) := by decide +kernel
theorem dX1_isOut_16 : decode cX1_isOut 16 = .ok (.ireturn, 1) := by decide +kernel
set_option maxHeartbeats 4000000 in
set_option maxRecDepth 100000 in
theorem kX1_isOut (l : Launch) (E : Ev) (co : Int32) : KQ l yX1_isOut cX1_isOut 1 (some .boolean) 0 0 E [.int co] [] (QI E [] (fX1_isOut co) []) := by
  refine KQ.mk RX1 rfl (by decide +kernel) (Nat.le_of_ble_eq_true rfl) ?_
  intro p e s m below meth c ls X hr w hl
  have hx := X.1
  have hb := X.2.1
  have hl : lv_has ls 1 [(0, .int co)] := hl
  refine lv_iload_n hx hb dX1_isOut_0 rfl (lv_at hl 0 rfl) ?_
  refine lv_bipush (v := (-4)) hx hb dX1_isOut_1 (by decide) ?_
  refine lv_icmp_lt (tgt := 11) hx hb dX1_isOut_3 (by decide) (fun c3_1 => ?_) (fun c3_1 => ?_)
  · refine lv_iconst (v := 1) hx hb dX1_isOut_11 (by decide) ?_
    refine lv_goto (tgt := 16) hx hb dX1_isOut_12 (by decide) ?_
    have hq : fX1_isOut co = (1) := by simp only [fX1_isOut, if_pos c3_1]
    rw [hq]
    exact r_zret X w hr (Or.inr rfl) rfl dX1_isOut_16
  · refine lv_iload_n hx hb dX1_isOut_6 rfl (lv_at hl 0 rfl) ?_
    refine lv_iconst (v := 4) hx hb dX1_isOut_7 (by decide) ?_
    refine lv_icmp_le (tgt := 15) hx hb dX1_isOut_8 (by decide) (fun c8_2 => ?_) (fun c8_2 => ?_)
    · refine lv_iconst (v := 0) hx hb dX1_isOut_15 (by decide) ?_
      have hq : fX1_isOut co = (0) := by simp only [fX1_isOut, if_neg c3_1, if_pos c8_2]
      rw [hq]
      exact r_zret X w hr (Or.inl rfl) rfl dX1_isOut_16
    · refine lv_iconst (v := 1) hx hb dX1_isOut_11 (by decide) ?_
      refine lv_goto (tgt := 16) hx hb dX1_isOut_12 (by decide) ?_
      have hq : fX1_isOut co = (1) := by simp only [fX1_isOut, if_neg c3_1, if_neg c8_2]
      rw [hq]
      exact r_zret X w hr (Or.inr rfl) rfl dX1_isOut_16
theorem zX1_isOut (co : Int32) : fX1_isOut co = 0 ∨ fX1_isOut co = 1 := by
  unfold fX1_isOut
  repeat' split
  all_goals first | exact Or.inl rfl | exact Or.inr rfl | (simp; done) | exact Or.inl rfl
def fX1_firstColumn (r : Int32) : Int32 := if 0 ≤ r then (((-4))) else (((-4) - r))
theorem dX1_firstColumn_0 : decode cX1_firstColumn 0 = .ok (.iload_n 0, 1) := by decide +kernel
theorem dX1_firstColumn_1 : decode cX1_firstColumn 1 = .ok (.ifCond .ge 10, 3) := by decide +kernel
theorem dX1_firstColumn_4 : decode cX1_firstColumn 4 = .ok (.bipush (-4), 2) := by decide +kernel
theorem dX1_firstColumn_6 : decode cX1_firstColumn 6 = .ok (.iload_n 0, 1) := by decide +kernel
theorem dX1_firstColumn_7 : decode cX1_firstColumn 7 = .ok (.isub, 1) := by decide +kernel
theorem dX1_firstColumn_8 : decode cX1_firstColumn 8 = .ok (.goto 5, 3) := by decide +kernel
theorem dX1_firstColumn_11 : decode cX1_firstColumn 11 = .ok (.bipush (-4), 2) := by decide +kernel
theorem dX1_firstColumn_13 : decode cX1_firstColumn 13 = .ok (.ireturn, 1) := by decide +kernel
set_option maxHeartbeats 4000000 in
set_option maxRecDepth 100000 in
theorem kX1_firstColumn (l : Launch) (E : Ev) (r : Int32) : KQ l yX1_firstColumn cX1_firstColumn 1 (some .int) 0 0 E [.int r] [] (QI E [] (fX1_firstColumn r) []) := by
  refine KQ.mk RX1 rfl (by decide +kernel) (Nat.le_of_ble_eq_true rfl) ?_
  intro p e s m below meth c ls X hr w hl
  have hx := X.1
  have hb := X.2.1
  have hl : lv_has ls 1 [(0, .int r)] := hl
  refine lv_iload_n hx hb dX1_firstColumn_0 rfl (lv_at hl 0 rfl) ?_
  refine lv_if_ge (tgt := 11) hx hb dX1_firstColumn_1 (by decide) (fun c1_1 => ?_) (fun c1_1 => ?_)
  · refine lv_bipush (v := (-4)) hx hb dX1_firstColumn_11 (by decide) ?_
    have hq : fX1_firstColumn r = ((-4)) := by simp only [fX1_firstColumn, if_pos c1_1]
    rw [hq]
    exact r_iret X w hr rfl dX1_firstColumn_13
  · refine lv_bipush (v := (-4)) hx hb dX1_firstColumn_4 (by decide) ?_
    refine lv_iload_n hx hb dX1_firstColumn_6 rfl (lv_at hl 0 rfl) ?_
    refine lv_isub hx hb dX1_firstColumn_7 ?_
    refine lv_goto (tgt := 13) hx hb dX1_firstColumn_8 (by decide) ?_
    have hq : fX1_firstColumn r = ((-4) - r) := by simp only [fX1_firstColumn, if_neg c1_1]
    rw [hq]
    exact r_iret X w hr rfl dX1_firstColumn_13
theorem ti_add {a b : Int32} (h1 : -2147483648 ≤ a.toInt + b.toInt) (h2 : a.toInt + b.toInt < 2147483648) : (a + b).toInt = a.toInt + b.toInt := by
  rw [Int32.toInt_add]
  exact Int.bmod_eq_of_le (by omega) (by omega)
theorem ti_sub {a b : Int32} (h1 : -2147483648 ≤ a.toInt - b.toInt) (h2 : a.toInt - b.toInt < 2147483648) : (a - b).toInt = a.toInt - b.toInt := by
  rw [Int32.toInt_sub]
  exact Int.bmod_eq_of_le (by omega) (by omega)
theorem isOut_iff (co : Int32) : fX1_isOut co = 0 ↔ (-4 ≤ co.toInt ∧ co.toInt ≤ 4) := by
  unfold fX1_isOut
  have e1 : co < (-4) ↔ co.toInt < -4 := by rw [Int32.lt_iff_toInt_lt]; exact Iff.rfl
  have e2 : co ≤ 4 ↔ co.toInt ≤ 4 := by rw [Int32.le_iff_toInt_le]; exact Iff.rfl
  split
  · rename_i h
    exact ⟨fun e => absurd e (by decide), fun e => absurd (e1.mp h) (by omega)⟩
  · rename_i h
    split
    · rename_i h2
      exact ⟨fun _ => ⟨by rw [e1] at h; omega, e2.mp h2⟩, fun _ => rfl⟩
    · rename_i h2
      exact ⟨fun e => absurd e (by decide), fun e => absurd (e2.mpr e.2) h2⟩
theorem in_row {r : Int32} (h : fX1_isOut r = 0) : vp_in (r + 4) 9 := by
  have h := (isOut_iff r).mp h
  have e4 : (4 : Int32).toInt = 4 := rfl
  rw [vp_in_iff, ti_add (by omega) (by omega)]
  omega
theorem in_dir {di : Int32} (h : ¬ fX1_isDirection di = 0) : vp_in di 6 := by
  unfold fX1_isDirection at h
  split at h
  · exact absurd rfl h
  · split at h
    · exact absurd rfl h
    · exact vin_ge 6 rfl ‹_› ‹_›
def fX1_cellAt (q : Int32) (r : Int32) : Int32 := if (fX1_isOut q) = 0 then (if (fX1_isOut r) = 0 then (if (fX1_isOut (q + r)) = 0 then ((((sT 6 (r + 4).toNatClampNeg) + q) - (fX1_firstColumn r))) else (((-5)))) else (((-5)))) else (((-5)))
theorem dX1_cellAt_0 : decode cX1_cellAt 0 = .ok (.iload_n 0, 1) := by decide +kernel
theorem dX1_cellAt_1 : decode cX1_cellAt 1 = .ok (.invokestatic 11, 3) := by decide +kernel
theorem dX1_cellAt_4 : decode cX1_cellAt 4 = .ok (.ifCond .ne 19, 3) := by decide +kernel
theorem dX1_cellAt_7 : decode cX1_cellAt 7 = .ok (.iload_n 1, 1) := by decide +kernel
theorem dX1_cellAt_8 : decode cX1_cellAt 8 = .ok (.invokestatic 11, 3) := by decide +kernel
theorem dX1_cellAt_11 : decode cX1_cellAt 11 = .ok (.ifCond .ne 12, 3) := by decide +kernel
theorem dX1_cellAt_14 : decode cX1_cellAt 14 = .ok (.iload_n 0, 1) := by decide +kernel
theorem dX1_cellAt_15 : decode cX1_cellAt 15 = .ok (.iload_n 1, 1) := by decide +kernel
theorem dX1_cellAt_16 : decode cX1_cellAt 16 = .ok (.iadd, 1) := by decide +kernel
theorem dX1_cellAt_17 : decode cX1_cellAt 17 = .ok (.invokestatic 11, 3) := by decide +kernel
theorem dX1_cellAt_20 : decode cX1_cellAt 20 = .ok (.ifCond .eq 6, 3) := by decide +kernel
theorem dX1_cellAt_23 : decode cX1_cellAt 23 = .ok (.bipush (-5), 2) := by decide +kernel
theorem dX1_cellAt_25 : decode cX1_cellAt 25 = .ok (.ireturn, 1) := by decide +kernel
theorem dX1_cellAt_26 : decode cX1_cellAt 26 = .ok (.getstatic 15, 3) := by decide +kernel
theorem dX1_cellAt_29 : decode cX1_cellAt 29 = .ok (.iload_n 1, 1) := by decide +kernel
theorem dX1_cellAt_30 : decode cX1_cellAt 30 = .ok (.iconst 4, 1) := by decide +kernel
theorem dX1_cellAt_31 : decode cX1_cellAt 31 = .ok (.iadd, 1) := by decide +kernel
theorem dX1_cellAt_32 : decode cX1_cellAt 32 = .ok (.iaload, 1) := by decide +kernel
theorem dX1_cellAt_33 : decode cX1_cellAt 33 = .ok (.iload_n 0, 1) := by decide +kernel
theorem dX1_cellAt_34 : decode cX1_cellAt 34 = .ok (.iadd, 1) := by decide +kernel
theorem dX1_cellAt_35 : decode cX1_cellAt 35 = .ok (.iload_n 1, 1) := by decide +kernel
theorem dX1_cellAt_36 : decode cX1_cellAt 36 = .ok (.invokestatic 19, 3) := by decide +kernel
theorem dX1_cellAt_39 : decode cX1_cellAt 39 = .ok (.isub, 1) := by decide +kernel
theorem dX1_cellAt_40 : decode cX1_cellAt 40 = .ok (.ireturn, 1) := by decide +kernel
theorem ck_X1_11 : CkS RX1 11 yX1_isOut cX1_isOut 1 (some .boolean) 1 := ⟨wm_X1_11, wst_yX1_isOut, wi_X1, wc_yX1_isOut, by decide +kernel⟩
theorem ck_X1_19 : CkS RX1 19 yX1_firstColumn cX1_firstColumn 1 (some .int) 1 := ⟨wm_X1_19, wst_yX1_firstColumn, wi_X1, wc_yX1_firstColumn, by decide +kernel⟩
set_option maxHeartbeats 4000000 in
set_option maxRecDepth 100000 in
theorem kX1_cellAt (l : Launch) (E : Ev) (q : Int32) (r : Int32) : KQ l yX1_cellAt cX1_cellAt 2 (some .int) 1 20 E [.int q, .int r] [] (QI E [] (fX1_cellAt q r) []) := by
  refine KQ.mk RX1 rfl (by decide +kernel) (Nat.le_of_ble_eq_true rfl) ?_
  intro p e s m below meth c ls X hr w hl
  have hx := X.1
  have hb := X.2.1
  have hl : lv_has ls 2 [(0, .int q), (1, .int r)] := hl
  refine lv_iload_n hx hb dX1_cellAt_0 rfl (lv_at hl 0 rfl) ?_
  refine r_ci w (r_runS (As := [.int q]) (rest := []) X w (kX1_isOut l E q ) ck_X1_11 ⟨Nat.le_of_ble_eq_true rfl, Nat.le_of_ble_eq_true rfl⟩ [] rfl (by decide +kernel) hl.1 (Nat.le_of_ble_eq_true rfl) rfl dX1_cellAt_1 ⟨Nat.le_of_ble_eq_true rfl, Nat.le_of_ble_eq_true rfl⟩) ([]) [] rfl (by decide +kernel) rfl rfl (fun H locs w => ?_)
  refine lv_if_ne (tgt := 23) hx hb dX1_cellAt_4 (by decide) (fun c4_1 => ?_) (fun c4_1 => ?_)
  · refine lv_bipush (v := (-5)) hx hb dX1_cellAt_23 (by decide) ?_
    have hq : fX1_cellAt q r = ((-5)) := by simp only [fX1_cellAt, if_neg c4_1]
    rw [hq]
    exact r_iret X w hr rfl dX1_cellAt_25
  · refine lv_iload_n hx hb dX1_cellAt_7 rfl (lv_at hl 1 rfl) ?_
    refine r_ci w (r_runS (As := [.int r]) (rest := []) X w (kX1_isOut l E r ) ck_X1_11 ⟨Nat.le_of_ble_eq_true rfl, Nat.le_of_ble_eq_true rfl⟩ [] rfl (by decide +kernel) hl.1 (Nat.le_of_ble_eq_true rfl) rfl dX1_cellAt_8 ⟨Nat.le_of_ble_eq_true rfl, Nat.le_of_ble_eq_true rfl⟩) ([]) [] rfl (by decide +kernel) rfl rfl (fun H locs w => ?_)
    refine lv_if_ne (tgt := 23) hx hb dX1_cellAt_11 (by decide) (fun c11_2 => ?_) (fun c11_2 => ?_)
    · refine lv_bipush (v := (-5)) hx hb dX1_cellAt_23 (by decide) ?_
      have hq : fX1_cellAt q r = ((-5)) := by simp only [fX1_cellAt, if_pos c4_1, if_neg c11_2]
      rw [hq]
      exact r_iret X w hr rfl dX1_cellAt_25
    · refine lv_iload_n hx hb dX1_cellAt_14 rfl (lv_at hl 0 rfl) ?_
      refine lv_iload_n hx hb dX1_cellAt_15 rfl (lv_at hl 1 rfl) ?_
      refine lv_iadd hx hb dX1_cellAt_16 ?_
      refine r_ci w (r_runS (As := [.int (q + r)]) (rest := []) X w (kX1_isOut l E (q + r) ) ck_X1_11 ⟨Nat.le_of_ble_eq_true rfl, Nat.le_of_ble_eq_true rfl⟩ [] rfl (by decide +kernel) hl.1 (Nat.le_of_ble_eq_true rfl) rfl dX1_cellAt_17 ⟨Nat.le_of_ble_eq_true rfl, Nat.le_of_ble_eq_true rfl⟩) ([]) [] rfl (by decide +kernel) rfl rfl (fun H locs w => ?_)
      refine lv_if_eq (tgt := 26) hx hb dX1_cellAt_20 (by decide) (fun c20_3 => ?_) (fun c20_3 => ?_)
      · refine r_gets X w 6 rfl wf_X1_15 dX1_cellAt_26 ?_
        refine lv_iload_n hx hb dX1_cellAt_29 rfl (lv_at hl 1 rfl) ?_
        refine lv_iconst (v := 4) hx hb dX1_cellAt_30 (by decide) ?_
        refine lv_iadd hx hb dX1_cellAt_31 ?_
        refine r_tald X w 6 rfl rfl (N := 9) (in_row c11_2) dX1_cellAt_32 ?_
        refine lv_iload_n hx hb dX1_cellAt_33 rfl (lv_at hl 0 rfl) ?_
        refine lv_iadd hx hb dX1_cellAt_34 ?_
        refine lv_iload_n hx hb dX1_cellAt_35 rfl (lv_at hl 1 rfl) ?_
        refine r_ci w (r_runS (As := [.int r]) (rest := [.int ((sT 6 (r + 4).toNatClampNeg) + q)]) X w (kX1_firstColumn l E r ) ck_X1_19 ⟨Nat.le_of_ble_eq_true rfl, Nat.le_of_ble_eq_true rfl⟩ [] rfl (by decide +kernel) hl.1 (Nat.le_of_ble_eq_true rfl) rfl dX1_cellAt_36 ⟨Nat.le_of_ble_eq_true rfl, Nat.le_of_ble_eq_true rfl⟩) ([]) [] rfl (by decide +kernel) rfl rfl (fun H locs w => ?_)
        refine lv_isub hx hb dX1_cellAt_39 ?_
        have hq : fX1_cellAt q r = (((sT 6 (r + 4).toNatClampNeg) + q) - (fX1_firstColumn r)) := by simp only [fX1_cellAt, if_pos c4_1, if_pos c11_2, if_pos c20_3]
        rw [hq]
        exact r_iret X w hr rfl dX1_cellAt_40
      · refine lv_bipush (v := (-5)) hx hb dX1_cellAt_23 (by decide) ?_
        have hq : fX1_cellAt q r = ((-5)) := by simp only [fX1_cellAt, if_pos c4_1, if_pos c11_2, if_neg c20_3]
        rw [hq]
        exact r_iret X w hr rfl dX1_cellAt_25
def fX1_rowOf (ce : Int32) : Int32 := if ce < (sT 6 (1 : Int32).toNatClampNeg) then (((-4))) else (if ce < (sT 6 (2 : Int32).toNatClampNeg) then (((-3))) else (if ce < (sT 6 (3 : Int32).toNatClampNeg) then (((-2))) else (if ce < (sT 6 (4 : Int32).toNatClampNeg) then (((-1))) else (if ce < (sT 6 (5 : Int32).toNatClampNeg) then ((0)) else (if ce < (sT 6 (6 : Int32).toNatClampNeg) then ((1)) else (if ce < (sT 6 (7 : Int32).toNatClampNeg) then ((2)) else (if ce < (sT 6 (8 : Int32).toNatClampNeg) then ((3)) else ((4)))))))))
theorem dX1_rowOf_0 : decode cX1_rowOf 0 = .ok (.iconst 0, 1) := by decide +kernel
theorem dX1_rowOf_1 : decode cX1_rowOf 1 = .ok (.istore_n 1, 1) := by decide +kernel
theorem dX1_rowOf_2 : decode cX1_rowOf 2 = .ok (.iload_n 1, 1) := by decide +kernel
theorem dX1_rowOf_3 : decode cX1_rowOf 3 = .ok (.iconst 1, 1) := by decide +kernel
theorem dX1_rowOf_4 : decode cX1_rowOf 4 = .ok (.iadd, 1) := by decide +kernel
theorem dX1_rowOf_5 : decode cX1_rowOf 5 = .ok (.bipush 9, 2) := by decide +kernel
theorem dX1_rowOf_7 : decode cX1_rowOf 7 = .ok (.if_icmp .ge 20, 3) := by decide +kernel
theorem dX1_rowOf_10 : decode cX1_rowOf 10 = .ok (.getstatic 15, 3) := by decide +kernel
theorem dX1_rowOf_13 : decode cX1_rowOf 13 = .ok (.iload_n 1, 1) := by decide +kernel
theorem dX1_rowOf_14 : decode cX1_rowOf 14 = .ok (.iconst 1, 1) := by decide +kernel
theorem dX1_rowOf_15 : decode cX1_rowOf 15 = .ok (.iadd, 1) := by decide +kernel
theorem dX1_rowOf_16 : decode cX1_rowOf 16 = .ok (.iaload, 1) := by decide +kernel
theorem dX1_rowOf_17 : decode cX1_rowOf 17 = .ok (.iload_n 0, 1) := by decide +kernel
theorem dX1_rowOf_18 : decode cX1_rowOf 18 = .ok (.if_icmp .gt 9, 3) := by decide +kernel
theorem dX1_rowOf_21 : decode cX1_rowOf 21 = .ok (.iinc 1 1, 3) := by decide +kernel
theorem dX1_rowOf_24 : decode cX1_rowOf 24 = .ok (.goto (-22), 3) := by decide +kernel
theorem dX1_rowOf_27 : decode cX1_rowOf 27 = .ok (.iload_n 1, 1) := by decide +kernel
theorem dX1_rowOf_28 : decode cX1_rowOf 28 = .ok (.iconst 4, 1) := by decide +kernel
theorem dX1_rowOf_29 : decode cX1_rowOf 29 = .ok (.isub, 1) := by decide +kernel
theorem dX1_rowOf_30 : decode cX1_rowOf 30 = .ok (.ireturn, 1) := by decide +kernel
set_option maxHeartbeats 4000000 in
set_option maxRecDepth 100000 in
theorem kX1_rowOf (l : Launch) (E : Ev) (ce : Int32) : KQ l yX1_rowOf cX1_rowOf 2 (some .int) 0 0 E [.int ce] [] (QI E [] (fX1_rowOf ce) []) := by
  refine KQ.mk RX1 rfl (by decide +kernel) (Nat.le_of_ble_eq_true rfl) ?_
  intro p e s m below meth c ls X hr w hl
  have hx := X.1
  have hb := X.2.1
  have hl : lv_has ls 2 [(0, .int ce)] := hl
  refine lv_iconst (v := 0) hx hb dX1_rowOf_0 (by decide) ?_
  refine lv_istore_n (lv' := [(1, .int 0), (0, .int ce)]) hx hb dX1_rowOf_1 rfl hl (by decide) rfl (fun ls hl => ?_)
  refine lv_iload_n hx hb dX1_rowOf_2 rfl (lv_at hl 0 rfl) ?_
  refine lv_iconst (v := 1) hx hb dX1_rowOf_3 (by decide) ?_
  refine lv_iadd hx hb dX1_rowOf_4 ?_
  rw [show ((0 : Int32) + 1) = 1 from by decide]
  refine lv_bipush (v := 9) hx hb dX1_rowOf_5 (by decide) ?_
  refine lv_icmp_ge (tgt := 27) hx hb dX1_rowOf_7 (by decide) (fun h => absurd h (by decide)) (fun _ => ?_)
  refine r_gets X w 6 rfl wf_X1_15 dX1_rowOf_10 ?_
  refine lv_iload_n hx hb dX1_rowOf_13 rfl (lv_at hl 0 rfl) ?_
  refine lv_iconst (v := 1) hx hb dX1_rowOf_14 (by decide) ?_
  refine lv_iadd hx hb dX1_rowOf_15 ?_
  rw [show ((0 : Int32) + 1) = 1 from by decide]
  refine r_tald X w 6 rfl rfl (N := 9) (vin_c rfl) dX1_rowOf_16 ?_
  refine lv_iload_n hx hb dX1_rowOf_17 rfl (lv_at hl 1 rfl) ?_
  refine lv_icmp_gt (tgt := 27) hx hb dX1_rowOf_18 (by decide) (fun c18_1 => ?_) (fun c18_1 => ?_)
  · refine lv_iload_n hx hb dX1_rowOf_27 rfl (lv_at hl 0 rfl) ?_
    refine lv_iconst (v := 4) hx hb dX1_rowOf_28 (by decide) ?_
    refine lv_isub hx hb dX1_rowOf_29 ?_
    rw [show ((0 : Int32) - 4) = (-4) from by decide]
    have hq : fX1_rowOf ce = ((-4)) := by simp only [fX1_rowOf, if_pos c18_1]
    rw [hq]
    exact r_iret X w hr rfl dX1_rowOf_30
  · refine lv_iinc (v := 1) (lv' := [(1, .int 1), (0, .int ce)]) hx hb dX1_rowOf_21 hl (k := 0) rfl (by first | rfl | decide) (by decide) rfl (fun ls hl => ?_)
    refine lv_goto (tgt := 2) hx hb dX1_rowOf_24 (by decide) ?_
    refine lv_iload_n hx hb dX1_rowOf_2 rfl (lv_at hl 0 rfl) ?_
    refine lv_iconst (v := 1) hx hb dX1_rowOf_3 (by decide) ?_
    refine lv_iadd hx hb dX1_rowOf_4 ?_
    rw [show ((1 : Int32) + 1) = 2 from by decide]
    refine lv_bipush (v := 9) hx hb dX1_rowOf_5 (by decide) ?_
    refine lv_icmp_ge (tgt := 27) hx hb dX1_rowOf_7 (by decide) (fun h => absurd h (by decide)) (fun _ => ?_)
    refine r_gets X w 6 rfl wf_X1_15 dX1_rowOf_10 ?_
    refine lv_iload_n hx hb dX1_rowOf_13 rfl (lv_at hl 0 rfl) ?_
    refine lv_iconst (v := 1) hx hb dX1_rowOf_14 (by decide) ?_
    refine lv_iadd hx hb dX1_rowOf_15 ?_
    rw [show ((1 : Int32) + 1) = 2 from by decide]
    refine r_tald X w 6 rfl rfl (N := 9) (vin_c rfl) dX1_rowOf_16 ?_
    refine lv_iload_n hx hb dX1_rowOf_17 rfl (lv_at hl 1 rfl) ?_
    refine lv_icmp_gt (tgt := 27) hx hb dX1_rowOf_18 (by decide) (fun c18_2 => ?_) (fun c18_2 => ?_)
    · refine lv_iload_n hx hb dX1_rowOf_27 rfl (lv_at hl 0 rfl) ?_
      refine lv_iconst (v := 4) hx hb dX1_rowOf_28 (by decide) ?_
      refine lv_isub hx hb dX1_rowOf_29 ?_
      rw [show ((1 : Int32) - 4) = (-3) from by decide]
      have hq : fX1_rowOf ce = ((-3)) := by simp only [fX1_rowOf, if_neg c18_1, if_pos c18_2]
      rw [hq]
      exact r_iret X w hr rfl dX1_rowOf_30
    · refine lv_iinc (v := 2) (lv' := [(1, .int 2), (0, .int ce)]) hx hb dX1_rowOf_21 hl (k := 0) rfl (by first | rfl | decide) (by decide) rfl (fun ls hl => ?_)
      refine lv_goto (tgt := 2) hx hb dX1_rowOf_24 (by decide) ?_
      refine lv_iload_n hx hb dX1_rowOf_2 rfl (lv_at hl 0 rfl) ?_
      refine lv_iconst (v := 1) hx hb dX1_rowOf_3 (by decide) ?_
      refine lv_iadd hx hb dX1_rowOf_4 ?_
      rw [show ((2 : Int32) + 1) = 3 from by decide]
      refine lv_bipush (v := 9) hx hb dX1_rowOf_5 (by decide) ?_
      refine lv_icmp_ge (tgt := 27) hx hb dX1_rowOf_7 (by decide) (fun h => absurd h (by decide)) (fun _ => ?_)
      refine r_gets X w 6 rfl wf_X1_15 dX1_rowOf_10 ?_
      refine lv_iload_n hx hb dX1_rowOf_13 rfl (lv_at hl 0 rfl) ?_
      refine lv_iconst (v := 1) hx hb dX1_rowOf_14 (by decide) ?_
      refine lv_iadd hx hb dX1_rowOf_15 ?_
      rw [show ((2 : Int32) + 1) = 3 from by decide]
      refine r_tald X w 6 rfl rfl (N := 9) (vin_c rfl) dX1_rowOf_16 ?_
      refine lv_iload_n hx hb dX1_rowOf_17 rfl (lv_at hl 1 rfl) ?_
      refine lv_icmp_gt (tgt := 27) hx hb dX1_rowOf_18 (by decide) (fun c18_3 => ?_) (fun c18_3 => ?_)
      · refine lv_iload_n hx hb dX1_rowOf_27 rfl (lv_at hl 0 rfl) ?_
        refine lv_iconst (v := 4) hx hb dX1_rowOf_28 (by decide) ?_
        refine lv_isub hx hb dX1_rowOf_29 ?_
        rw [show ((2 : Int32) - 4) = (-2) from by decide]
        have hq : fX1_rowOf ce = ((-2)) := by simp only [fX1_rowOf, if_neg c18_1, if_neg c18_2, if_pos c18_3]
        rw [hq]
        exact r_iret X w hr rfl dX1_rowOf_30
      · refine lv_iinc (v := 3) (lv' := [(1, .int 3), (0, .int ce)]) hx hb dX1_rowOf_21 hl (k := 0) rfl (by first | rfl | decide) (by decide) rfl (fun ls hl => ?_)
        refine lv_goto (tgt := 2) hx hb dX1_rowOf_24 (by decide) ?_
        refine lv_iload_n hx hb dX1_rowOf_2 rfl (lv_at hl 0 rfl) ?_
        refine lv_iconst (v := 1) hx hb dX1_rowOf_3 (by decide) ?_
        refine lv_iadd hx hb dX1_rowOf_4 ?_
        rw [show ((3 : Int32) + 1) = 4 from by decide]
        refine lv_bipush (v := 9) hx hb dX1_rowOf_5 (by decide) ?_
        refine lv_icmp_ge (tgt := 27) hx hb dX1_rowOf_7 (by decide) (fun h => absurd h (by decide)) (fun _ => ?_)
        refine r_gets X w 6 rfl wf_X1_15 dX1_rowOf_10 ?_
        refine lv_iload_n hx hb dX1_rowOf_13 rfl (lv_at hl 0 rfl) ?_
        refine lv_iconst (v := 1) hx hb dX1_rowOf_14 (by decide) ?_
        refine lv_iadd hx hb dX1_rowOf_15 ?_
        rw [show ((3 : Int32) + 1) = 4 from by decide]
        refine r_tald X w 6 rfl rfl (N := 9) (vin_c rfl) dX1_rowOf_16 ?_
        refine lv_iload_n hx hb dX1_rowOf_17 rfl (lv_at hl 1 rfl) ?_
        refine lv_icmp_gt (tgt := 27) hx hb dX1_rowOf_18 (by decide) (fun c18_4 => ?_) (fun c18_4 => ?_)
        · refine lv_iload_n hx hb dX1_rowOf_27 rfl (lv_at hl 0 rfl) ?_
          refine lv_iconst (v := 4) hx hb dX1_rowOf_28 (by decide) ?_
          refine lv_isub hx hb dX1_rowOf_29 ?_
          rw [show ((3 : Int32) - 4) = (-1) from by decide]
          have hq : fX1_rowOf ce = ((-1)) := by simp only [fX1_rowOf, if_neg c18_1, if_neg c18_2, if_neg c18_3, if_pos c18_4]
          rw [hq]
          exact r_iret X w hr rfl dX1_rowOf_30
        · refine lv_iinc (v := 4) (lv' := [(1, .int 4), (0, .int ce)]) hx hb dX1_rowOf_21 hl (k := 0) rfl (by first | rfl | decide) (by decide) rfl (fun ls hl => ?_)
          refine lv_goto (tgt := 2) hx hb dX1_rowOf_24 (by decide) ?_
          refine lv_iload_n hx hb dX1_rowOf_2 rfl (lv_at hl 0 rfl) ?_
          refine lv_iconst (v := 1) hx hb dX1_rowOf_3 (by decide) ?_
          refine lv_iadd hx hb dX1_rowOf_4 ?_
          rw [show ((4 : Int32) + 1) = 5 from by decide]
          refine lv_bipush (v := 9) hx hb dX1_rowOf_5 (by decide) ?_
          refine lv_icmp_ge (tgt := 27) hx hb dX1_rowOf_7 (by decide) (fun h => absurd h (by decide)) (fun _ => ?_)
          refine r_gets X w 6 rfl wf_X1_15 dX1_rowOf_10 ?_
          refine lv_iload_n hx hb dX1_rowOf_13 rfl (lv_at hl 0 rfl) ?_
          refine lv_iconst (v := 1) hx hb dX1_rowOf_14 (by decide) ?_
          refine lv_iadd hx hb dX1_rowOf_15 ?_
          rw [show ((4 : Int32) + 1) = 5 from by decide]
          refine r_tald X w 6 rfl rfl (N := 9) (vin_c rfl) dX1_rowOf_16 ?_
          refine lv_iload_n hx hb dX1_rowOf_17 rfl (lv_at hl 1 rfl) ?_
          refine lv_icmp_gt (tgt := 27) hx hb dX1_rowOf_18 (by decide) (fun c18_5 => ?_) (fun c18_5 => ?_)
          · refine lv_iload_n hx hb dX1_rowOf_27 rfl (lv_at hl 0 rfl) ?_
            refine lv_iconst (v := 4) hx hb dX1_rowOf_28 (by decide) ?_
            refine lv_isub hx hb dX1_rowOf_29 ?_
            rw [show ((4 : Int32) - 4) = 0 from by decide]
            have hq : fX1_rowOf ce = (0) := by simp only [fX1_rowOf, if_neg c18_1, if_neg c18_2, if_neg c18_3, if_neg c18_4, if_pos c18_5]
            rw [hq]
            exact r_iret X w hr rfl dX1_rowOf_30
          · refine lv_iinc (v := 5) (lv' := [(1, .int 5), (0, .int ce)]) hx hb dX1_rowOf_21 hl (k := 0) rfl (by first | rfl | decide) (by decide) rfl (fun ls hl => ?_)
            refine lv_goto (tgt := 2) hx hb dX1_rowOf_24 (by decide) ?_
            refine lv_iload_n hx hb dX1_rowOf_2 rfl (lv_at hl 0 rfl) ?_
            refine lv_iconst (v := 1) hx hb dX1_rowOf_3 (by decide) ?_
            refine lv_iadd hx hb dX1_rowOf_4 ?_
            rw [show ((5 : Int32) + 1) = 6 from by decide]
            refine lv_bipush (v := 9) hx hb dX1_rowOf_5 (by decide) ?_
            refine lv_icmp_ge (tgt := 27) hx hb dX1_rowOf_7 (by decide) (fun h => absurd h (by decide)) (fun _ => ?_)
            refine r_gets X w 6 rfl wf_X1_15 dX1_rowOf_10 ?_
            refine lv_iload_n hx hb dX1_rowOf_13 rfl (lv_at hl 0 rfl) ?_
            refine lv_iconst (v := 1) hx hb dX1_rowOf_14 (by decide) ?_
            refine lv_iadd hx hb dX1_rowOf_15 ?_
            rw [show ((5 : Int32) + 1) = 6 from by decide]
            refine r_tald X w 6 rfl rfl (N := 9) (vin_c rfl) dX1_rowOf_16 ?_
            refine lv_iload_n hx hb dX1_rowOf_17 rfl (lv_at hl 1 rfl) ?_
            refine lv_icmp_gt (tgt := 27) hx hb dX1_rowOf_18 (by decide) (fun c18_6 => ?_) (fun c18_6 => ?_)
            · refine lv_iload_n hx hb dX1_rowOf_27 rfl (lv_at hl 0 rfl) ?_
              refine lv_iconst (v := 4) hx hb dX1_rowOf_28 (by decide) ?_
              refine lv_isub hx hb dX1_rowOf_29 ?_
              rw [show ((5 : Int32) - 4) = 1 from by decide]
              have hq : fX1_rowOf ce = (1) := by simp only [fX1_rowOf, if_neg c18_1, if_neg c18_2, if_neg c18_3, if_neg c18_4, if_neg c18_5, if_pos c18_6]
              rw [hq]
              exact r_iret X w hr rfl dX1_rowOf_30
            · refine lv_iinc (v := 6) (lv' := [(1, .int 6), (0, .int ce)]) hx hb dX1_rowOf_21 hl (k := 0) rfl (by first | rfl | decide) (by decide) rfl (fun ls hl => ?_)
              refine lv_goto (tgt := 2) hx hb dX1_rowOf_24 (by decide) ?_
              refine lv_iload_n hx hb dX1_rowOf_2 rfl (lv_at hl 0 rfl) ?_
              refine lv_iconst (v := 1) hx hb dX1_rowOf_3 (by decide) ?_
              refine lv_iadd hx hb dX1_rowOf_4 ?_
              rw [show ((6 : Int32) + 1) = 7 from by decide]
              refine lv_bipush (v := 9) hx hb dX1_rowOf_5 (by decide) ?_
              refine lv_icmp_ge (tgt := 27) hx hb dX1_rowOf_7 (by decide) (fun h => absurd h (by decide)) (fun _ => ?_)
              refine r_gets X w 6 rfl wf_X1_15 dX1_rowOf_10 ?_
              refine lv_iload_n hx hb dX1_rowOf_13 rfl (lv_at hl 0 rfl) ?_
              refine lv_iconst (v := 1) hx hb dX1_rowOf_14 (by decide) ?_
              refine lv_iadd hx hb dX1_rowOf_15 ?_
              rw [show ((6 : Int32) + 1) = 7 from by decide]
              refine r_tald X w 6 rfl rfl (N := 9) (vin_c rfl) dX1_rowOf_16 ?_
              refine lv_iload_n hx hb dX1_rowOf_17 rfl (lv_at hl 1 rfl) ?_
              refine lv_icmp_gt (tgt := 27) hx hb dX1_rowOf_18 (by decide) (fun c18_7 => ?_) (fun c18_7 => ?_)
              · refine lv_iload_n hx hb dX1_rowOf_27 rfl (lv_at hl 0 rfl) ?_
                refine lv_iconst (v := 4) hx hb dX1_rowOf_28 (by decide) ?_
                refine lv_isub hx hb dX1_rowOf_29 ?_
                rw [show ((6 : Int32) - 4) = 2 from by decide]
                have hq : fX1_rowOf ce = (2) := by simp only [fX1_rowOf, if_neg c18_1, if_neg c18_2, if_neg c18_3, if_neg c18_4, if_neg c18_5, if_neg c18_6, if_pos c18_7]
                rw [hq]
                exact r_iret X w hr rfl dX1_rowOf_30
              · refine lv_iinc (v := 7) (lv' := [(1, .int 7), (0, .int ce)]) hx hb dX1_rowOf_21 hl (k := 0) rfl (by first | rfl | decide) (by decide) rfl (fun ls hl => ?_)
                refine lv_goto (tgt := 2) hx hb dX1_rowOf_24 (by decide) ?_
                refine lv_iload_n hx hb dX1_rowOf_2 rfl (lv_at hl 0 rfl) ?_
                refine lv_iconst (v := 1) hx hb dX1_rowOf_3 (by decide) ?_
                refine lv_iadd hx hb dX1_rowOf_4 ?_
                rw [show ((7 : Int32) + 1) = 8 from by decide]
                refine lv_bipush (v := 9) hx hb dX1_rowOf_5 (by decide) ?_
                refine lv_icmp_ge (tgt := 27) hx hb dX1_rowOf_7 (by decide) (fun h => absurd h (by decide)) (fun _ => ?_)
                refine r_gets X w 6 rfl wf_X1_15 dX1_rowOf_10 ?_
                refine lv_iload_n hx hb dX1_rowOf_13 rfl (lv_at hl 0 rfl) ?_
                refine lv_iconst (v := 1) hx hb dX1_rowOf_14 (by decide) ?_
                refine lv_iadd hx hb dX1_rowOf_15 ?_
                rw [show ((7 : Int32) + 1) = 8 from by decide]
                refine r_tald X w 6 rfl rfl (N := 9) (vin_c rfl) dX1_rowOf_16 ?_
                refine lv_iload_n hx hb dX1_rowOf_17 rfl (lv_at hl 1 rfl) ?_
                refine lv_icmp_gt (tgt := 27) hx hb dX1_rowOf_18 (by decide) (fun c18_8 => ?_) (fun c18_8 => ?_)
                · refine lv_iload_n hx hb dX1_rowOf_27 rfl (lv_at hl 0 rfl) ?_
                  refine lv_iconst (v := 4) hx hb dX1_rowOf_28 (by decide) ?_
                  refine lv_isub hx hb dX1_rowOf_29 ?_
                  rw [show ((7 : Int32) - 4) = 3 from by decide]
                  have hq : fX1_rowOf ce = (3) := by simp only [fX1_rowOf, if_neg c18_1, if_neg c18_2, if_neg c18_3, if_neg c18_4, if_neg c18_5, if_neg c18_6, if_neg c18_7, if_pos c18_8]
                  rw [hq]
                  exact r_iret X w hr rfl dX1_rowOf_30
                · refine lv_iinc (v := 8) (lv' := [(1, .int 8), (0, .int ce)]) hx hb dX1_rowOf_21 hl (k := 0) rfl (by first | rfl | decide) (by decide) rfl (fun ls hl => ?_)
                  refine lv_goto (tgt := 2) hx hb dX1_rowOf_24 (by decide) ?_
                  refine lv_iload_n hx hb dX1_rowOf_2 rfl (lv_at hl 0 rfl) ?_
                  refine lv_iconst (v := 1) hx hb dX1_rowOf_3 (by decide) ?_
                  refine lv_iadd hx hb dX1_rowOf_4 ?_
                  rw [show ((8 : Int32) + 1) = 9 from by decide]
                  refine lv_bipush (v := 9) hx hb dX1_rowOf_5 (by decide) ?_
                  refine lv_icmp_ge (tgt := 27) hx hb dX1_rowOf_7 (by decide) (fun _ => ?_) (fun h => absurd h (by decide))
                  refine lv_iload_n hx hb dX1_rowOf_27 rfl (lv_at hl 0 rfl) ?_
                  refine lv_iconst (v := 4) hx hb dX1_rowOf_28 (by decide) ?_
                  refine lv_isub hx hb dX1_rowOf_29 ?_
                  rw [show ((8 : Int32) - 4) = 4 from by decide]
                  have hq : fX1_rowOf ce = (4) := by simp only [fX1_rowOf, if_neg c18_1, if_neg c18_2, if_neg c18_3, if_neg c18_4, if_neg c18_5, if_neg c18_6, if_neg c18_7, if_neg c18_8]
                  rw [hq]
                  exact r_iret X w hr rfl dX1_rowOf_30
theorem in_rowOf (ce : Int32) : vp_in (fX1_rowOf ce + 4) 9 := by
  unfold fX1_rowOf
  repeat' split
  all_goals exact vin_c rfl
def fX1_columnOf (ce : Int32) : Int32 := ((ce - (sT 6 ((fX1_rowOf ce) + 4).toNatClampNeg)) + (fX1_firstColumn (fX1_rowOf ce)))
theorem dX1_columnOf_0 : decode cX1_columnOf 0 = .ok (.iload_n 0, 1) := by decide +kernel
theorem dX1_columnOf_1 : decode cX1_columnOf 1 = .ok (.invokestatic 23, 3) := by decide +kernel
theorem dX1_columnOf_4 : decode cX1_columnOf 4 = .ok (.istore_n 1, 1) := by decide +kernel
theorem dX1_columnOf_5 : decode cX1_columnOf 5 = .ok (.iload_n 0, 1) := by decide +kernel
theorem dX1_columnOf_6 : decode cX1_columnOf 6 = .ok (.getstatic 15, 3) := by decide +kernel
theorem dX1_columnOf_9 : decode cX1_columnOf 9 = .ok (.iload_n 1, 1) := by decide +kernel
theorem dX1_columnOf_10 : decode cX1_columnOf 10 = .ok (.iconst 4, 1) := by decide +kernel
theorem dX1_columnOf_11 : decode cX1_columnOf 11 = .ok (.iadd, 1) := by decide +kernel
theorem dX1_columnOf_12 : decode cX1_columnOf 12 = .ok (.iaload, 1) := by decide +kernel
theorem dX1_columnOf_13 : decode cX1_columnOf 13 = .ok (.isub, 1) := by decide +kernel
theorem dX1_columnOf_14 : decode cX1_columnOf 14 = .ok (.iload_n 1, 1) := by decide +kernel
theorem dX1_columnOf_15 : decode cX1_columnOf 15 = .ok (.invokestatic 19, 3) := by decide +kernel
theorem dX1_columnOf_18 : decode cX1_columnOf 18 = .ok (.iadd, 1) := by decide +kernel
theorem dX1_columnOf_19 : decode cX1_columnOf 19 = .ok (.ireturn, 1) := by decide +kernel
theorem ck_X1_23 : CkS RX1 23 yX1_rowOf cX1_rowOf 2 (some .int) 1 := ⟨wm_X1_23, wst_yX1_rowOf, wi_X1, wc_yX1_rowOf, by decide +kernel⟩
set_option maxHeartbeats 4000000 in
set_option maxRecDepth 100000 in
theorem kX1_columnOf (l : Launch) (E : Ev) (ce : Int32) : KQ l yX1_columnOf cX1_columnOf 2 (some .int) 1 21 E [.int ce] [] (QI E [] (fX1_columnOf ce) []) := by
  refine KQ.mk RX1 rfl (by decide +kernel) (Nat.le_of_ble_eq_true rfl) ?_
  intro p e s m below meth c ls X hr w hl
  have hx := X.1
  have hb := X.2.1
  have hl : lv_has ls 2 [(0, .int ce)] := hl
  refine lv_iload_n hx hb dX1_columnOf_0 rfl (lv_at hl 0 rfl) ?_
  refine r_ci w (r_runS (As := [.int ce]) (rest := []) X w (kX1_rowOf l E ce ) ck_X1_23 ⟨Nat.le_of_ble_eq_true rfl, Nat.le_of_ble_eq_true rfl⟩ [] rfl (by decide +kernel) hl.1 (Nat.le_of_ble_eq_true rfl) rfl dX1_columnOf_1 ⟨Nat.le_of_ble_eq_true rfl, Nat.le_of_ble_eq_true rfl⟩) ([]) [] rfl (by decide +kernel) rfl rfl (fun H locs w => ?_)
  refine lv_istore_n (lv' := [(1, .int (fX1_rowOf ce)), (0, .int ce)]) hx hb dX1_columnOf_4 rfl hl (by decide) rfl (fun ls hl => ?_)
  refine lv_iload_n hx hb dX1_columnOf_5 rfl (lv_at hl 1 rfl) ?_
  refine r_gets X w 6 rfl wf_X1_15 dX1_columnOf_6 ?_
  refine lv_iload_n hx hb dX1_columnOf_9 rfl (lv_at hl 0 rfl) ?_
  refine lv_iconst (v := 4) hx hb dX1_columnOf_10 (by decide) ?_
  refine lv_iadd hx hb dX1_columnOf_11 ?_
  refine r_tald X w 6 rfl rfl (N := 9) (in_rowOf ce) dX1_columnOf_12 ?_
  refine lv_isub hx hb dX1_columnOf_13 ?_
  refine lv_iload_n hx hb dX1_columnOf_14 rfl (lv_at hl 0 rfl) ?_
  refine r_ci w (r_runS (As := [.int (fX1_rowOf ce)]) (rest := [.int (ce - (sT 6 ((fX1_rowOf ce) + 4).toNatClampNeg))]) X w (kX1_firstColumn l E (fX1_rowOf ce) ) ck_X1_19 ⟨Nat.le_of_ble_eq_true rfl, Nat.le_of_ble_eq_true rfl⟩ [] rfl (by decide +kernel) hl.1 (Nat.le_of_ble_eq_true rfl) rfl dX1_columnOf_15 ⟨Nat.le_of_ble_eq_true rfl, Nat.le_of_ble_eq_true rfl⟩) ([]) [] rfl (by decide +kernel) rfl rfl (fun H locs w => ?_)
  refine lv_iadd hx hb dX1_columnOf_18 ?_
  have hq : fX1_columnOf ce = ((ce - (sT 6 ((fX1_rowOf ce) + 4).toNatClampNeg)) + (fX1_firstColumn (fX1_rowOf ce))) := rfl
  rw [hq]
  exact r_iret X w hr rfl dX1_columnOf_19
def fX1_stepQ (di : Int32) : Int32 := if (fX1_isDirection di) = 0 then ((0)) else ((sT 3 di.toNatClampNeg))
theorem dX1_stepQ_0 : decode cX1_stepQ 0 = .ok (.iload_n 0, 1) := by decide +kernel
theorem dX1_stepQ_1 : decode cX1_stepQ 1 = .ok (.invokestatic 26, 3) := by decide +kernel
theorem dX1_stepQ_4 : decode cX1_stepQ 4 = .ok (.ifCond .eq 11, 3) := by decide +kernel
theorem dX1_stepQ_7 : decode cX1_stepQ 7 = .ok (.getstatic 29, 3) := by decide +kernel
theorem dX1_stepQ_10 : decode cX1_stepQ 10 = .ok (.iload_n 0, 1) := by decide +kernel
theorem dX1_stepQ_11 : decode cX1_stepQ 11 = .ok (.iaload, 1) := by decide +kernel
theorem dX1_stepQ_12 : decode cX1_stepQ 12 = .ok (.goto 4, 3) := by decide +kernel
theorem dX1_stepQ_15 : decode cX1_stepQ 15 = .ok (.iconst 0, 1) := by decide +kernel
theorem dX1_stepQ_16 : decode cX1_stepQ 16 = .ok (.ireturn, 1) := by decide +kernel
theorem ck_X1_26 : CkS RX1 26 yX1_isDirection cX1_isDirection 1 (some .boolean) 1 := ⟨wm_X1_26, wst_yX1_isDirection, wi_X1, wc_yX1_isDirection, by decide +kernel⟩
set_option maxHeartbeats 4000000 in
set_option maxRecDepth 100000 in
theorem kX1_stepQ (l : Launch) (E : Ev) (di : Int32) : KQ l yX1_stepQ cX1_stepQ 1 (some .int) 1 20 E [.int di] [] (QI E [] (fX1_stepQ di) []) := by
  refine KQ.mk RX1 rfl (by decide +kernel) (Nat.le_of_ble_eq_true rfl) ?_
  intro p e s m below meth c ls X hr w hl
  have hx := X.1
  have hb := X.2.1
  have hl : lv_has ls 1 [(0, .int di)] := hl
  refine lv_iload_n hx hb dX1_stepQ_0 rfl (lv_at hl 0 rfl) ?_
  refine r_ci w (r_runS (As := [.int di]) (rest := []) X w (kX1_isDirection l E di ) ck_X1_26 ⟨Nat.le_of_ble_eq_true rfl, Nat.le_of_ble_eq_true rfl⟩ [] rfl (by decide +kernel) hl.1 (Nat.le_of_ble_eq_true rfl) rfl dX1_stepQ_1 ⟨Nat.le_of_ble_eq_true rfl, Nat.le_of_ble_eq_true rfl⟩) ([]) [] rfl (by decide +kernel) rfl rfl (fun H locs w => ?_)
  refine lv_if_eq (tgt := 15) hx hb dX1_stepQ_4 (by decide) (fun c4_1 => ?_) (fun c4_1 => ?_)
  · refine lv_iconst (v := 0) hx hb dX1_stepQ_15 (by decide) ?_
    have hq : fX1_stepQ di = (0) := by simp only [fX1_stepQ, if_pos c4_1]
    rw [hq]
    exact r_iret X w hr rfl dX1_stepQ_16
  · refine r_gets X w 3 rfl wf_X1_29 dX1_stepQ_7 ?_
    refine lv_iload_n hx hb dX1_stepQ_10 rfl (lv_at hl 0 rfl) ?_
    refine r_tald X w 3 rfl rfl (N := 6) (in_dir c4_1) dX1_stepQ_11 ?_
    refine lv_goto (tgt := 16) hx hb dX1_stepQ_12 (by decide) ?_
    have hq : fX1_stepQ di = (sT 3 di.toNatClampNeg) := by simp only [fX1_stepQ, if_neg c4_1]
    rw [hq]
    exact r_iret X w hr rfl dX1_stepQ_16
def fX1_stepR (di : Int32) : Int32 := if (fX1_isDirection di) = 0 then ((0)) else ((sT 4 di.toNatClampNeg))
theorem dX1_stepR_0 : decode cX1_stepR 0 = .ok (.iload_n 0, 1) := by decide +kernel
theorem dX1_stepR_1 : decode cX1_stepR 1 = .ok (.invokestatic 26, 3) := by decide +kernel
theorem dX1_stepR_4 : decode cX1_stepR 4 = .ok (.ifCond .eq 11, 3) := by decide +kernel
theorem dX1_stepR_7 : decode cX1_stepR 7 = .ok (.getstatic 32, 3) := by decide +kernel
theorem dX1_stepR_10 : decode cX1_stepR 10 = .ok (.iload_n 0, 1) := by decide +kernel
theorem dX1_stepR_11 : decode cX1_stepR 11 = .ok (.iaload, 1) := by decide +kernel
theorem dX1_stepR_12 : decode cX1_stepR 12 = .ok (.goto 4, 3) := by decide +kernel
theorem dX1_stepR_15 : decode cX1_stepR 15 = .ok (.iconst 0, 1) := by decide +kernel
theorem dX1_stepR_16 : decode cX1_stepR 16 = .ok (.ireturn, 1) := by decide +kernel
set_option maxHeartbeats 4000000 in
set_option maxRecDepth 100000 in
theorem kX1_stepR (l : Launch) (E : Ev) (di : Int32) : KQ l yX1_stepR cX1_stepR 1 (some .int) 1 20 E [.int di] [] (QI E [] (fX1_stepR di) []) := by
  refine KQ.mk RX1 rfl (by decide +kernel) (Nat.le_of_ble_eq_true rfl) ?_
  intro p e s m below meth c ls X hr w hl
  have hx := X.1
  have hb := X.2.1
  have hl : lv_has ls 1 [(0, .int di)] := hl
  refine lv_iload_n hx hb dX1_stepR_0 rfl (lv_at hl 0 rfl) ?_
  refine r_ci w (r_runS (As := [.int di]) (rest := []) X w (kX1_isDirection l E di ) ck_X1_26 ⟨Nat.le_of_ble_eq_true rfl, Nat.le_of_ble_eq_true rfl⟩ [] rfl (by decide +kernel) hl.1 (Nat.le_of_ble_eq_true rfl) rfl dX1_stepR_1 ⟨Nat.le_of_ble_eq_true rfl, Nat.le_of_ble_eq_true rfl⟩) ([]) [] rfl (by decide +kernel) rfl rfl (fun H locs w => ?_)
  refine lv_if_eq (tgt := 15) hx hb dX1_stepR_4 (by decide) (fun c4_1 => ?_) (fun c4_1 => ?_)
  · refine lv_iconst (v := 0) hx hb dX1_stepR_15 (by decide) ?_
    have hq : fX1_stepR di = (0) := by simp only [fX1_stepR, if_pos c4_1]
    rw [hq]
    exact r_iret X w hr rfl dX1_stepR_16
  · refine r_gets X w 4 rfl wf_X1_32 dX1_stepR_7 ?_
    refine lv_iload_n hx hb dX1_stepR_10 rfl (lv_at hl 0 rfl) ?_
    refine r_tald X w 4 rfl rfl (N := 6) (in_dir c4_1) dX1_stepR_11 ?_
    refine lv_goto (tgt := 16) hx hb dX1_stepR_12 (by decide) ?_
    have hq : fX1_stepR di = (sT 4 di.toNatClampNeg) := by simp only [fX1_stepR, if_neg c4_1]
    rw [hq]
    exact r_iret X w hr rfl dX1_stepR_16
def fJ9_floorMod_7cf53 (x1 : Int32) (y1 : Int32) : Int32 := if 0 ≤ (x1 ^^^ y1) then ((x1 - x1 / y1 * y1)) else (if (x1 - x1 / y1 * y1) = 0 then ((x1 - x1 / y1 * y1)) else (((x1 - x1 / y1 * y1) + y1)))
theorem dJ9_floorMod_7cf53_0 : decode cJ9_floorMod_7cf53 0 = .ok (.iload_n 0, 1) := by decide +kernel
theorem dJ9_floorMod_7cf53_1 : decode cJ9_floorMod_7cf53 1 = .ok (.iload_n 1, 1) := by decide +kernel
theorem dJ9_floorMod_7cf53_2 : decode cJ9_floorMod_7cf53 2 = .ok (.irem, 1) := by decide +kernel
theorem dJ9_floorMod_7cf53_3 : decode cJ9_floorMod_7cf53 3 = .ok (.istore_n 2, 1) := by decide +kernel
theorem dJ9_floorMod_7cf53_4 : decode cJ9_floorMod_7cf53 4 = .ok (.iload_n 0, 1) := by decide +kernel
theorem dJ9_floorMod_7cf53_5 : decode cJ9_floorMod_7cf53 5 = .ok (.iload_n 1, 1) := by decide +kernel
theorem dJ9_floorMod_7cf53_6 : decode cJ9_floorMod_7cf53 6 = .ok (.ixor, 1) := by decide +kernel
theorem dJ9_floorMod_7cf53_7 : decode cJ9_floorMod_7cf53 7 = .ok (.ifCond .ge 11, 3) := by decide +kernel
theorem dJ9_floorMod_7cf53_10 : decode cJ9_floorMod_7cf53 10 = .ok (.iload_n 2, 1) := by decide +kernel
theorem dJ9_floorMod_7cf53_11 : decode cJ9_floorMod_7cf53 11 = .ok (.ifCond .eq 7, 3) := by decide +kernel
theorem dJ9_floorMod_7cf53_14 : decode cJ9_floorMod_7cf53 14 = .ok (.iload_n 2, 1) := by decide +kernel
theorem dJ9_floorMod_7cf53_15 : decode cJ9_floorMod_7cf53 15 = .ok (.iload_n 1, 1) := by decide +kernel
theorem dJ9_floorMod_7cf53_16 : decode cJ9_floorMod_7cf53 16 = .ok (.iadd, 1) := by decide +kernel
theorem dJ9_floorMod_7cf53_17 : decode cJ9_floorMod_7cf53 17 = .ok (.ireturn, 1) := by decide +kernel
theorem dJ9_floorMod_7cf53_18 : decode cJ9_floorMod_7cf53 18 = .ok (.iload_n 2, 1) := by decide +kernel
theorem dJ9_floorMod_7cf53_19 : decode cJ9_floorMod_7cf53 19 = .ok (.ireturn, 1) := by decide +kernel
set_option maxHeartbeats 4000000 in
set_option maxRecDepth 100000 in
theorem kJ9_floorMod_7cf53 (l : Launch) (E : Ev) (x1 : Int32) (y1 : Int32) (h0 : ¬ y1 = 0) : KQ l yJ9_floorMod_7cf53 cJ9_floorMod_7cf53 3 (some .int) 0 0 E [.int x1, .int y1] [] (QI E [] (fJ9_floorMod_7cf53 x1 y1) []) := by
  refine KQ.mk RJ9 rfl (by decide +kernel) (Nat.le_of_ble_eq_true rfl) ?_
  intro p e s m below meth c ls X hr w hl
  have hx := X.1
  have hb := X.2.1
  have hl : lv_has ls 3 [(0, .int x1), (1, .int y1)] := hl
  refine lv_iload_n hx hb dJ9_floorMod_7cf53_0 rfl (lv_at hl 0 rfl) ?_
  refine lv_iload_n hx hb dJ9_floorMod_7cf53_1 rfl (lv_at hl 1 rfl) ?_
  refine lv_irem hx hb dJ9_floorMod_7cf53_2 h0 ?_
  refine lv_istore_n (lv' := [(2, .int (x1 - x1 / y1 * y1)), (0, .int x1), (1, .int y1)]) hx hb dJ9_floorMod_7cf53_3 rfl hl (by decide) rfl (fun ls hl => ?_)
  refine lv_iload_n hx hb dJ9_floorMod_7cf53_4 rfl (lv_at hl 1 rfl) ?_
  refine lv_iload_n hx hb dJ9_floorMod_7cf53_5 rfl (lv_at hl 2 rfl) ?_
  refine lv_ixor hx hb dJ9_floorMod_7cf53_6 ?_
  refine lv_if_ge (tgt := 18) hx hb dJ9_floorMod_7cf53_7 (by decide) (fun c7_1 => ?_) (fun c7_1 => ?_)
  · refine lv_iload_n hx hb dJ9_floorMod_7cf53_18 rfl (lv_at hl 0 rfl) ?_
    have hq : fJ9_floorMod_7cf53 x1 y1 = (x1 - x1 / y1 * y1) := by simp only [fJ9_floorMod_7cf53, if_pos c7_1]
    rw [hq]
    exact r_iret X w hr rfl dJ9_floorMod_7cf53_19
  · refine lv_iload_n hx hb dJ9_floorMod_7cf53_10 rfl (lv_at hl 0 rfl) ?_
    refine lv_if_eq (tgt := 18) hx hb dJ9_floorMod_7cf53_11 (by decide) (fun c11_2 => ?_) (fun c11_2 => ?_)
    · refine lv_iload_n hx hb dJ9_floorMod_7cf53_18 rfl (lv_at hl 0 rfl) ?_
      have hq : fJ9_floorMod_7cf53 x1 y1 = (x1 - x1 / y1 * y1) := by simp only [fJ9_floorMod_7cf53, if_neg c7_1, if_pos c11_2]
      rw [hq]
      exact r_iret X w hr rfl dJ9_floorMod_7cf53_19
    · refine lv_iload_n hx hb dJ9_floorMod_7cf53_14 rfl (lv_at hl 0 rfl) ?_
      refine lv_iload_n hx hb dJ9_floorMod_7cf53_15 rfl (lv_at hl 2 rfl) ?_
      refine lv_iadd hx hb dJ9_floorMod_7cf53_16 ?_
      have hq : fJ9_floorMod_7cf53 x1 y1 = ((x1 - x1 / y1 * y1) + y1) := by simp only [fJ9_floorMod_7cf53, if_neg c7_1, if_neg c11_2]
      rw [hq]
      exact r_iret X w hr rfl dJ9_floorMod_7cf53_17
def fX1_turned (di : Int32) (si : Int32) : Int32 := ((fJ9_floorMod_7cf53 (di + si) 6))
theorem dX1_turned_0 : decode cX1_turned 0 = .ok (.iload_n 0, 1) := by decide +kernel
theorem dX1_turned_1 : decode cX1_turned 1 = .ok (.iload_n 1, 1) := by decide +kernel
theorem dX1_turned_2 : decode cX1_turned 2 = .ok (.iadd, 1) := by decide +kernel
theorem dX1_turned_3 : decode cX1_turned 3 = .ok (.bipush 6, 2) := by decide +kernel
theorem dX1_turned_5 : decode cX1_turned 5 = .ok (.invokestatic 35, 3) := by decide +kernel
theorem dX1_turned_8 : decode cX1_turned 8 = .ok (.ireturn, 1) := by decide +kernel
theorem ck_X1_35 : CkS RX1 35 yJ9_floorMod_7cf53 cJ9_floorMod_7cf53 3 (some .int) 2 := ⟨wm_X1_35, wst_yJ9_floorMod_7cf53, wi_J9, wc_yJ9_floorMod_7cf53, by decide +kernel⟩
set_option maxHeartbeats 4000000 in
set_option maxRecDepth 100000 in
theorem kX1_turned (l : Launch) (E : Ev) (di : Int32) (si : Int32) : KQ l yX1_turned cX1_turned 2 (some .int) 1 22 E [.int di, .int si] [] (QI E [] (fX1_turned di si) []) := by
  refine KQ.mk RX1 rfl (by decide +kernel) (Nat.le_of_ble_eq_true rfl) ?_
  intro p e s m below meth c ls X hr w hl
  have hx := X.1
  have hb := X.2.1
  have hl : lv_has ls 2 [(0, .int di), (1, .int si)] := hl
  refine lv_iload_n hx hb dX1_turned_0 rfl (lv_at hl 0 rfl) ?_
  refine lv_iload_n hx hb dX1_turned_1 rfl (lv_at hl 1 rfl) ?_
  refine lv_iadd hx hb dX1_turned_2 ?_
  refine lv_bipush (v := 6) hx hb dX1_turned_3 (by decide) ?_
  refine r_ci w (r_runS (As := [.int (di + si), .int 6]) (rest := []) X w (kJ9_floorMod_7cf53 l E (di + si) 6 (by decide)) ck_X1_35 ⟨Nat.le_of_ble_eq_true rfl, Nat.le_of_ble_eq_true rfl⟩ [] rfl (by decide +kernel) hl.1 (Nat.le_of_ble_eq_true rfl) rfl dX1_turned_5 ⟨Nat.le_of_ble_eq_true rfl, Nat.le_of_ble_eq_true rfl⟩) ([]) [] rfl (by decide +kernel) rfl rfl (fun H locs w => ?_)
  have hq : fX1_turned di si = ((fJ9_floorMod_7cf53 (di + si) 6)) := rfl
  rw [hq]
  exact r_iret X w hr rfl dX1_turned_8
def fX1_cornerOf (ce : Int32) : Int32 := if (sT 5 (0 : Int32).toNatClampNeg) = ce then ((0)) else (if (sT 5 (1 : Int32).toNatClampNeg) = ce then ((1)) else (if (sT 5 (2 : Int32).toNatClampNeg) = ce then ((2)) else (if (sT 5 (3 : Int32).toNatClampNeg) = ce then ((3)) else (if (sT 5 (4 : Int32).toNatClampNeg) = ce then ((4)) else (if (sT 5 (5 : Int32).toNatClampNeg) = ce then ((5)) else (((-5))))))))
theorem dX1_cornerOf_0 : decode cX1_cornerOf 0 = .ok (.iconst 0, 1) := by decide +kernel
theorem dX1_cornerOf_1 : decode cX1_cornerOf 1 = .ok (.istore_n 1, 1) := by decide +kernel
theorem dX1_cornerOf_2 : decode cX1_cornerOf 2 = .ok (.iload_n 1, 1) := by decide +kernel
theorem dX1_cornerOf_3 : decode cX1_cornerOf 3 = .ok (.getstatic 41, 3) := by decide +kernel
theorem dX1_cornerOf_6 : decode cX1_cornerOf 6 = .ok (.arraylength, 1) := by decide +kernel
theorem dX1_cornerOf_7 : decode cX1_cornerOf 7 = .ok (.if_icmp .ge 20, 3) := by decide +kernel
theorem dX1_cornerOf_10 : decode cX1_cornerOf 10 = .ok (.getstatic 41, 3) := by decide +kernel
theorem dX1_cornerOf_13 : decode cX1_cornerOf 13 = .ok (.iload_n 1, 1) := by decide +kernel
theorem dX1_cornerOf_14 : decode cX1_cornerOf 14 = .ok (.iaload, 1) := by decide +kernel
theorem dX1_cornerOf_15 : decode cX1_cornerOf 15 = .ok (.iload_n 0, 1) := by decide +kernel
theorem dX1_cornerOf_16 : decode cX1_cornerOf 16 = .ok (.if_icmp .ne 5, 3) := by decide +kernel
theorem dX1_cornerOf_19 : decode cX1_cornerOf 19 = .ok (.iload_n 1, 1) := by decide +kernel
theorem dX1_cornerOf_20 : decode cX1_cornerOf 20 = .ok (.ireturn, 1) := by decide +kernel
theorem dX1_cornerOf_21 : decode cX1_cornerOf 21 = .ok (.iinc 1 1, 3) := by decide +kernel
theorem dX1_cornerOf_24 : decode cX1_cornerOf 24 = .ok (.goto (-22), 3) := by decide +kernel
theorem dX1_cornerOf_27 : decode cX1_cornerOf 27 = .ok (.bipush (-5), 2) := by decide +kernel
theorem dX1_cornerOf_29 : decode cX1_cornerOf 29 = .ok (.ireturn, 1) := by decide +kernel
set_option maxHeartbeats 4000000 in
set_option maxRecDepth 100000 in
theorem kX1_cornerOf (l : Launch) (E : Ev) (ce : Int32) : KQ l yX1_cornerOf cX1_cornerOf 2 (some .int) 0 0 E [.int ce] [] (QI E [] (fX1_cornerOf ce) []) := by
  refine KQ.mk RX1 rfl (by decide +kernel) (Nat.le_of_ble_eq_true rfl) ?_
  intro p e s m below meth c ls X hr w hl
  have hx := X.1
  have hb := X.2.1
  have hl : lv_has ls 2 [(0, .int ce)] := hl
  refine lv_iconst (v := 0) hx hb dX1_cornerOf_0 (by decide) ?_
  refine lv_istore_n (lv' := [(1, .int 0), (0, .int ce)]) hx hb dX1_cornerOf_1 rfl hl (by decide) rfl (fun ls hl => ?_)
  refine lv_iload_n hx hb dX1_cornerOf_2 rfl (lv_at hl 0 rfl) ?_
  refine r_gets X w 5 rfl wf_X1_41 dX1_cornerOf_3 ?_
  refine r_tlen X w 5 rfl (v := 6) rfl dX1_cornerOf_6 ?_
  refine lv_icmp_ge (tgt := 27) hx hb dX1_cornerOf_7 (by decide) (fun h => absurd h (by decide)) (fun _ => ?_)
  refine r_gets X w 5 rfl wf_X1_41 dX1_cornerOf_10 ?_
  refine lv_iload_n hx hb dX1_cornerOf_13 rfl (lv_at hl 0 rfl) ?_
  refine r_tald X w 5 rfl rfl (N := 6) (vin_c rfl) dX1_cornerOf_14 ?_
  refine lv_iload_n hx hb dX1_cornerOf_15 rfl (lv_at hl 1 rfl) ?_
  refine lv_icmp_ne (tgt := 21) hx hb dX1_cornerOf_16 (by decide) (fun c16_1 => ?_) (fun c16_1 => ?_)
  · refine lv_iinc (v := 1) (lv' := [(1, .int 1), (0, .int ce)]) hx hb dX1_cornerOf_21 hl (k := 0) rfl (by first | rfl | decide) (by decide) rfl (fun ls hl => ?_)
    refine lv_goto (tgt := 2) hx hb dX1_cornerOf_24 (by decide) ?_
    refine lv_iload_n hx hb dX1_cornerOf_2 rfl (lv_at hl 0 rfl) ?_
    refine r_gets X w 5 rfl wf_X1_41 dX1_cornerOf_3 ?_
    refine r_tlen X w 5 rfl (v := 6) rfl dX1_cornerOf_6 ?_
    refine lv_icmp_ge (tgt := 27) hx hb dX1_cornerOf_7 (by decide) (fun h => absurd h (by decide)) (fun _ => ?_)
    refine r_gets X w 5 rfl wf_X1_41 dX1_cornerOf_10 ?_
    refine lv_iload_n hx hb dX1_cornerOf_13 rfl (lv_at hl 0 rfl) ?_
    refine r_tald X w 5 rfl rfl (N := 6) (vin_c rfl) dX1_cornerOf_14 ?_
    refine lv_iload_n hx hb dX1_cornerOf_15 rfl (lv_at hl 1 rfl) ?_
    refine lv_icmp_ne (tgt := 21) hx hb dX1_cornerOf_16 (by decide) (fun c16_2 => ?_) (fun c16_2 => ?_)
    · refine lv_iinc (v := 2) (lv' := [(1, .int 2), (0, .int ce)]) hx hb dX1_cornerOf_21 hl (k := 0) rfl (by first | rfl | decide) (by decide) rfl (fun ls hl => ?_)
      refine lv_goto (tgt := 2) hx hb dX1_cornerOf_24 (by decide) ?_
      refine lv_iload_n hx hb dX1_cornerOf_2 rfl (lv_at hl 0 rfl) ?_
      refine r_gets X w 5 rfl wf_X1_41 dX1_cornerOf_3 ?_
      refine r_tlen X w 5 rfl (v := 6) rfl dX1_cornerOf_6 ?_
      refine lv_icmp_ge (tgt := 27) hx hb dX1_cornerOf_7 (by decide) (fun h => absurd h (by decide)) (fun _ => ?_)
      refine r_gets X w 5 rfl wf_X1_41 dX1_cornerOf_10 ?_
      refine lv_iload_n hx hb dX1_cornerOf_13 rfl (lv_at hl 0 rfl) ?_
      refine r_tald X w 5 rfl rfl (N := 6) (vin_c rfl) dX1_cornerOf_14 ?_
      refine lv_iload_n hx hb dX1_cornerOf_15 rfl (lv_at hl 1 rfl) ?_
      refine lv_icmp_ne (tgt := 21) hx hb dX1_cornerOf_16 (by decide) (fun c16_3 => ?_) (fun c16_3 => ?_)
      · refine lv_iinc (v := 3) (lv' := [(1, .int 3), (0, .int ce)]) hx hb dX1_cornerOf_21 hl (k := 0) rfl (by first | rfl | decide) (by decide) rfl (fun ls hl => ?_)
        refine lv_goto (tgt := 2) hx hb dX1_cornerOf_24 (by decide) ?_
        refine lv_iload_n hx hb dX1_cornerOf_2 rfl (lv_at hl 0 rfl) ?_
        refine r_gets X w 5 rfl wf_X1_41 dX1_cornerOf_3 ?_
        refine r_tlen X w 5 rfl (v := 6) rfl dX1_cornerOf_6 ?_
        refine lv_icmp_ge (tgt := 27) hx hb dX1_cornerOf_7 (by decide) (fun h => absurd h (by decide)) (fun _ => ?_)
        refine r_gets X w 5 rfl wf_X1_41 dX1_cornerOf_10 ?_
        refine lv_iload_n hx hb dX1_cornerOf_13 rfl (lv_at hl 0 rfl) ?_
        refine r_tald X w 5 rfl rfl (N := 6) (vin_c rfl) dX1_cornerOf_14 ?_
        refine lv_iload_n hx hb dX1_cornerOf_15 rfl (lv_at hl 1 rfl) ?_
        refine lv_icmp_ne (tgt := 21) hx hb dX1_cornerOf_16 (by decide) (fun c16_4 => ?_) (fun c16_4 => ?_)
        · refine lv_iinc (v := 4) (lv' := [(1, .int 4), (0, .int ce)]) hx hb dX1_cornerOf_21 hl (k := 0) rfl (by first | rfl | decide) (by decide) rfl (fun ls hl => ?_)
          refine lv_goto (tgt := 2) hx hb dX1_cornerOf_24 (by decide) ?_
          refine lv_iload_n hx hb dX1_cornerOf_2 rfl (lv_at hl 0 rfl) ?_
          refine r_gets X w 5 rfl wf_X1_41 dX1_cornerOf_3 ?_
          refine r_tlen X w 5 rfl (v := 6) rfl dX1_cornerOf_6 ?_
          refine lv_icmp_ge (tgt := 27) hx hb dX1_cornerOf_7 (by decide) (fun h => absurd h (by decide)) (fun _ => ?_)
          refine r_gets X w 5 rfl wf_X1_41 dX1_cornerOf_10 ?_
          refine lv_iload_n hx hb dX1_cornerOf_13 rfl (lv_at hl 0 rfl) ?_
          refine r_tald X w 5 rfl rfl (N := 6) (vin_c rfl) dX1_cornerOf_14 ?_
          refine lv_iload_n hx hb dX1_cornerOf_15 rfl (lv_at hl 1 rfl) ?_
          refine lv_icmp_ne (tgt := 21) hx hb dX1_cornerOf_16 (by decide) (fun c16_5 => ?_) (fun c16_5 => ?_)
          · refine lv_iinc (v := 5) (lv' := [(1, .int 5), (0, .int ce)]) hx hb dX1_cornerOf_21 hl (k := 0) rfl (by first | rfl | decide) (by decide) rfl (fun ls hl => ?_)
            refine lv_goto (tgt := 2) hx hb dX1_cornerOf_24 (by decide) ?_
            refine lv_iload_n hx hb dX1_cornerOf_2 rfl (lv_at hl 0 rfl) ?_
            refine r_gets X w 5 rfl wf_X1_41 dX1_cornerOf_3 ?_
            refine r_tlen X w 5 rfl (v := 6) rfl dX1_cornerOf_6 ?_
            refine lv_icmp_ge (tgt := 27) hx hb dX1_cornerOf_7 (by decide) (fun h => absurd h (by decide)) (fun _ => ?_)
            refine r_gets X w 5 rfl wf_X1_41 dX1_cornerOf_10 ?_
            refine lv_iload_n hx hb dX1_cornerOf_13 rfl (lv_at hl 0 rfl) ?_
            refine r_tald X w 5 rfl rfl (N := 6) (vin_c rfl) dX1_cornerOf_14 ?_
            refine lv_iload_n hx hb dX1_cornerOf_15 rfl (lv_at hl 1 rfl) ?_
            refine lv_icmp_ne (tgt := 21) hx hb dX1_cornerOf_16 (by decide) (fun c16_6 => ?_) (fun c16_6 => ?_)
            · refine lv_iinc (v := 6) (lv' := [(1, .int 6), (0, .int ce)]) hx hb dX1_cornerOf_21 hl (k := 0) rfl (by first | rfl | decide) (by decide) rfl (fun ls hl => ?_)
              refine lv_goto (tgt := 2) hx hb dX1_cornerOf_24 (by decide) ?_
              refine lv_iload_n hx hb dX1_cornerOf_2 rfl (lv_at hl 0 rfl) ?_
              refine r_gets X w 5 rfl wf_X1_41 dX1_cornerOf_3 ?_
              refine r_tlen X w 5 rfl (v := 6) rfl dX1_cornerOf_6 ?_
              refine lv_icmp_ge (tgt := 27) hx hb dX1_cornerOf_7 (by decide) (fun _ => ?_) (fun h => absurd h (by decide))
              refine lv_bipush (v := (-5)) hx hb dX1_cornerOf_27 (by decide) ?_
              have hq : fX1_cornerOf ce = ((-5)) := by simp only [fX1_cornerOf, if_neg c16_1, if_neg c16_2, if_neg c16_3, if_neg c16_4, if_neg c16_5, if_neg c16_6]
              rw [hq]
              exact r_iret X w hr rfl dX1_cornerOf_29
            · refine lv_iload_n hx hb dX1_cornerOf_19 rfl (lv_at hl 0 rfl) ?_
              have hq : fX1_cornerOf ce = (5) := by simp only [fX1_cornerOf, if_neg c16_1, if_neg c16_2, if_neg c16_3, if_neg c16_4, if_neg c16_5, if_pos c16_6]
              rw [hq]
              exact r_iret X w hr rfl dX1_cornerOf_20
          · refine lv_iload_n hx hb dX1_cornerOf_19 rfl (lv_at hl 0 rfl) ?_
            have hq : fX1_cornerOf ce = (4) := by simp only [fX1_cornerOf, if_neg c16_1, if_neg c16_2, if_neg c16_3, if_neg c16_4, if_pos c16_5]
            rw [hq]
            exact r_iret X w hr rfl dX1_cornerOf_20
        · refine lv_iload_n hx hb dX1_cornerOf_19 rfl (lv_at hl 0 rfl) ?_
          have hq : fX1_cornerOf ce = (3) := by simp only [fX1_cornerOf, if_neg c16_1, if_neg c16_2, if_neg c16_3, if_pos c16_4]
          rw [hq]
          exact r_iret X w hr rfl dX1_cornerOf_20
      · refine lv_iload_n hx hb dX1_cornerOf_19 rfl (lv_at hl 0 rfl) ?_
        have hq : fX1_cornerOf ce = (2) := by simp only [fX1_cornerOf, if_neg c16_1, if_neg c16_2, if_pos c16_3]
        rw [hq]
        exact r_iret X w hr rfl dX1_cornerOf_20
    · refine lv_iload_n hx hb dX1_cornerOf_19 rfl (lv_at hl 0 rfl) ?_
      have hq : fX1_cornerOf ce = (1) := by simp only [fX1_cornerOf, if_neg c16_1, if_pos c16_2]
      rw [hq]
      exact r_iret X w hr rfl dX1_cornerOf_20
  · refine lv_iload_n hx hb dX1_cornerOf_19 rfl (lv_at hl 0 rfl) ?_
    have hq : fX1_cornerOf ce = (0) := by simp only [fX1_cornerOf, if_pos c16_1]
    rw [hq]
    exact r_iret X w hr rfl dX1_cornerOf_20
def fX1_besideN (q r : Int32) : Nat → Int32
  | 0 => 0
  | k + 1 => if fX1_cellAt (q + sT 3 (nI k).toNatClampNeg) (r + sT 4 (nI k).toNatClampNeg) = (-5) then fX1_besideN q r k else fX1_besideN q r k + 1
def fX1_cellsBeside (ce : Int32) : Int32 := fX1_besideN (fX1_columnOf ce) (fX1_rowOf ce) 6
theorem dX1_cellsBeside_0 : decode cX1_cellsBeside 0 = .ok (.iload_n 0, 1) := by decide +kernel
theorem dX1_cellsBeside_1 : decode cX1_cellsBeside 1 = .ok (.invokestatic 44, 3) := by decide +kernel
theorem dX1_cellsBeside_4 : decode cX1_cellsBeside 4 = .ok (.istore_n 1, 1) := by decide +kernel
theorem dX1_cellsBeside_5 : decode cX1_cellsBeside 5 = .ok (.iload_n 0, 1) := by decide +kernel
theorem dX1_cellsBeside_6 : decode cX1_cellsBeside 6 = .ok (.invokestatic 23, 3) := by decide +kernel
theorem dX1_cellsBeside_9 : decode cX1_cellsBeside 9 = .ok (.istore_n 2, 1) := by decide +kernel
theorem dX1_cellsBeside_10 : decode cX1_cellsBeside 10 = .ok (.iconst 0, 1) := by decide +kernel
theorem dX1_cellsBeside_11 : decode cX1_cellsBeside 11 = .ok (.istore_n 3, 1) := by decide +kernel
theorem dX1_cellsBeside_12 : decode cX1_cellsBeside 12 = .ok (.iconst 0, 1) := by decide +kernel
theorem dX1_cellsBeside_13 : decode cX1_cellsBeside 13 = .ok (.istore 4, 2) := by decide +kernel
theorem dX1_cellsBeside_15 : decode cX1_cellsBeside 15 = .ok (.iload 4, 2) := by decide +kernel
theorem dX1_cellsBeside_17 : decode cX1_cellsBeside 17 = .ok (.bipush 6, 2) := by decide +kernel
theorem dX1_cellsBeside_19 : decode cX1_cellsBeside 19 = .ok (.if_icmp .ge 36, 3) := by decide +kernel
theorem dX1_cellsBeside_22 : decode cX1_cellsBeside 22 = .ok (.iload_n 1, 1) := by decide +kernel
theorem dX1_cellsBeside_23 : decode cX1_cellsBeside 23 = .ok (.getstatic 29, 3) := by decide +kernel
theorem dX1_cellsBeside_26 : decode cX1_cellsBeside 26 = .ok (.iload 4, 2) := by decide +kernel
theorem dX1_cellsBeside_28 : decode cX1_cellsBeside 28 = .ok (.iaload, 1) := by decide +kernel
theorem dX1_cellsBeside_29 : decode cX1_cellsBeside 29 = .ok (.iadd, 1) := by decide +kernel
theorem dX1_cellsBeside_30 : decode cX1_cellsBeside 30 = .ok (.iload_n 2, 1) := by decide +kernel
theorem dX1_cellsBeside_31 : decode cX1_cellsBeside 31 = .ok (.getstatic 32, 3) := by decide +kernel
theorem dX1_cellsBeside_34 : decode cX1_cellsBeside 34 = .ok (.iload 4, 2) := by decide +kernel
theorem dX1_cellsBeside_36 : decode cX1_cellsBeside 36 = .ok (.iaload, 1) := by decide +kernel
theorem dX1_cellsBeside_37 : decode cX1_cellsBeside 37 = .ok (.iadd, 1) := by decide +kernel
theorem dX1_cellsBeside_38 : decode cX1_cellsBeside 38 = .ok (.invokestatic 47, 3) := by decide +kernel
theorem dX1_cellsBeside_41 : decode cX1_cellsBeside 41 = .ok (.bipush (-5), 2) := by decide +kernel
theorem dX1_cellsBeside_43 : decode cX1_cellsBeside 43 = .ok (.if_icmp .eq 6, 3) := by decide +kernel
theorem dX1_cellsBeside_46 : decode cX1_cellsBeside 46 = .ok (.iinc 3 1, 3) := by decide +kernel
theorem dX1_cellsBeside_49 : decode cX1_cellsBeside 49 = .ok (.iinc 4 1, 3) := by decide +kernel
theorem dX1_cellsBeside_52 : decode cX1_cellsBeside 52 = .ok (.goto (-37), 3) := by decide +kernel
theorem dX1_cellsBeside_55 : decode cX1_cellsBeside 55 = .ok (.iload_n 3, 1) := by decide +kernel
theorem dX1_cellsBeside_56 : decode cX1_cellsBeside 56 = .ok (.ireturn, 1) := by decide +kernel
theorem ck_X1_44 : CkS RX1 44 yX1_columnOf cX1_columnOf 2 (some .int) 1 := ⟨wm_X1_44, wst_yX1_columnOf, wi_X1, wc_yX1_columnOf, by decide +kernel⟩
theorem ck_X1_47 : CkS RX1 47 yX1_cellAt cX1_cellAt 2 (some .int) 2 := ⟨wm_X1_47, wst_yX1_cellAt, wi_X1, wc_yX1_cellAt, by decide +kernel⟩
set_option maxHeartbeats 4000000 in
set_option maxRecDepth 100000 in
theorem kX1_cellsBeside (l : Launch) (E : Ev) (ce : Int32) : KQ l yX1_cellsBeside cX1_cellsBeside 5 (some .int) 2 42 E [.int ce] [] (QI E [] (fX1_cellsBeside ce) []) := by
  refine KQ.mk RX1 rfl (by decide +kernel) (Nat.le_of_ble_eq_true rfl) ?_
  intro p e s m below meth c ls X hr w hl
  have hx := X.1
  have hb := X.2.1
  have hl : lv_has ls 5 [(0, .int ce)] := hl
  refine lv_iload_n hx hb dX1_cellsBeside_0 rfl (lv_at hl 0 rfl) ?_
  refine r_ci w (r_runS (As := [.int ce]) (rest := []) X w (kX1_columnOf l E ce ) ck_X1_44 ⟨Nat.le_of_ble_eq_true rfl, Nat.le_of_ble_eq_true rfl⟩ [] rfl (by decide +kernel) hl.1 (Nat.le_of_ble_eq_true rfl) rfl dX1_cellsBeside_1 ⟨Nat.le_of_ble_eq_true rfl, Nat.le_of_ble_eq_true rfl⟩) ([]) [] rfl (by decide +kernel) rfl rfl (fun H locs w => ?_)
  refine lv_istore_n (lv' := [(1, .int (fX1_columnOf ce)), (0, .int ce)]) hx hb dX1_cellsBeside_4 rfl hl (by decide) rfl (fun ls hl => ?_)
  refine lv_iload_n hx hb dX1_cellsBeside_5 rfl (lv_at hl 1 rfl) ?_
  refine r_ci w (r_runS (As := [.int ce]) (rest := []) X w (kX1_rowOf l E ce ) ck_X1_23 ⟨Nat.le_of_ble_eq_true rfl, Nat.le_of_ble_eq_true rfl⟩ [] rfl (by decide +kernel) hl.1 (Nat.le_of_ble_eq_true rfl) rfl dX1_cellsBeside_6 ⟨Nat.le_of_ble_eq_true rfl, Nat.le_of_ble_eq_true rfl⟩) ([]) [] rfl (by decide +kernel) rfl rfl (fun H locs w => ?_)
  refine lv_istore_n (lv' := [(2, .int (fX1_rowOf ce)), (1, .int (fX1_columnOf ce)), (0, .int ce)]) hx hb dX1_cellsBeside_9 rfl hl (by decide) rfl (fun ls hl => ?_)
  refine lv_iconst (v := 0) hx hb dX1_cellsBeside_10 (by decide) ?_
  refine lv_istore_n (lv' := [(3, .int 0), (2, .int (fX1_rowOf ce)), (1, .int (fX1_columnOf ce)), (0, .int ce)]) hx hb dX1_cellsBeside_11 rfl hl (by decide) rfl (fun ls hl => ?_)
  refine lv_iconst (v := 0) hx hb dX1_cellsBeside_12 (by decide) ?_
  refine lv_istore (lv' := [(4, .int 0), (3, .int 0), (2, .int (fX1_rowOf ce)), (1, .int (fX1_columnOf ce)), (0, .int ce)]) hx hb dX1_cellsBeside_13 hl (by decide) rfl (fun ls hl => ?_)
  have loop : ∀ (n k : Nat), k + n = 6 → ∀ (H : Heap) (locs : List Loc), Wd E (hB []) s ([]) H locs → ∀ (ls : Array Slot), lv_has ls 5 [(4, .int (nI k)), (3, .int (fX1_besideN (fX1_columnOf ce) (fX1_rowOf ce) k)), (2, .int (fX1_rowOf ce)), (1, .int (fX1_columnOf ce)), (0, .int ce)] → W p l e { frames := 2, cells := 0, slots := 0, locals := 42 } s m (([.int ce] : List Value)).toArray below meth c H locs 0 0 (MQ below (QI E [] (fX1_cellsBeside ce) []) (([.int ce] : List Value)).toArray s 0 0 (hB [])) (F0 m 15 ls []) := by
    intro n
    induction n with
    | zero =>
      intro k hk_k H locs w ls hl
      obtain rfl : k = 6 := by omega
      refine lv_iload hx hb dX1_cellsBeside_15 (lv_at hl 0 rfl) ?_
      refine lv_bipush (v := 6) hx hb dX1_cellsBeside_17 (by decide) ?_
      refine lv_icmp_ge (tgt := 55) hx hb dX1_cellsBeside_19 (by decide) (fun _ => ?_) (fun h => absurd (by decide : (6 : Int32) ≤ nI 6) h)
      refine lv_iload_n hx hb dX1_cellsBeside_55 rfl (lv_at hl 1 rfl) ?_
      have hq : fX1_cellsBeside ce = (fX1_besideN (fX1_columnOf ce) (fX1_rowOf ce) 6) := rfl
      rw [hq]
      exact r_iret X w hr rfl dX1_cellsBeside_56
    | succ n ih =>
      intro k hk_k H locs w ls hl
      have hkN : k < 6 := by omega
      refine lv_iload hx hb dX1_cellsBeside_15 (lv_at hl 0 rfl) ?_
      refine lv_bipush (v := 6) hx hb dX1_cellsBeside_17 (by decide) ?_
      refine lv_icmp_ge (tgt := 55) hx hb dX1_cellsBeside_19 (by decide) (fun h => absurd h (nI_ge (b := 6) hkN (by decide))) (fun _ => ?_)
      refine lv_iload_n hx hb dX1_cellsBeside_22 rfl (lv_at hl 3 rfl) ?_
      refine r_gets X w 3 rfl wf_X1_29 dX1_cellsBeside_23 ?_
      refine lv_iload hx hb dX1_cellsBeside_26 (lv_at hl 0 rfl) ?_
      refine r_tald X w 3 rfl rfl (N := 6) (vp_in_nI hkN (by decide)) dX1_cellsBeside_28 ?_
      refine lv_iadd hx hb dX1_cellsBeside_29 ?_
      refine lv_iload_n hx hb dX1_cellsBeside_30 rfl (lv_at hl 2 rfl) ?_
      refine r_gets X w 4 rfl wf_X1_32 dX1_cellsBeside_31 ?_
      refine lv_iload hx hb dX1_cellsBeside_34 (lv_at hl 0 rfl) ?_
      refine r_tald X w 4 rfl rfl (N := 6) (vp_in_nI hkN (by decide)) dX1_cellsBeside_36 ?_
      refine lv_iadd hx hb dX1_cellsBeside_37 ?_
      refine r_ci w (r_runS (As := [.int ((fX1_columnOf ce) + (sT 3 (nI k).toNatClampNeg)), .int ((fX1_rowOf ce) + (sT 4 (nI k).toNatClampNeg))]) (rest := []) X w (kX1_cellAt l E ((fX1_columnOf ce) + (sT 3 (nI k).toNatClampNeg)) ((fX1_rowOf ce) + (sT 4 (nI k).toNatClampNeg)) ) ck_X1_47 ⟨Nat.le_of_ble_eq_true rfl, Nat.le_of_ble_eq_true rfl⟩ [] rfl (by decide +kernel) hl.1 (Nat.le_of_ble_eq_true rfl) rfl dX1_cellsBeside_38 ⟨Nat.le_of_ble_eq_true rfl, Nat.le_of_ble_eq_true rfl⟩) ([]) [] rfl (by decide +kernel) rfl rfl (fun H locs w => ?_)
      refine lv_bipush (v := (-5)) hx hb dX1_cellsBeside_41 (by decide) ?_
      refine lv_icmp_eq (tgt := 49) hx hb dX1_cellsBeside_43 (by decide) (fun c43_3 => ?_) (fun c43_3 => ?_)
      · refine lv_iinc (v := (nI k) + 1) (lv' := [(4, .int ((nI k) + 1)), (3, .int (fX1_besideN (fX1_columnOf ce) (fX1_rowOf ce) k)), (2, .int (fX1_rowOf ce)), (1, .int (fX1_columnOf ce)), (0, .int ce)]) hx hb dX1_cellsBeside_49 hl (k := 0) rfl (by first | rfl | decide) (by decide) rfl (fun ls hl => ?_)
        refine lv_goto (tgt := 15) hx hb dX1_cellsBeside_52 (by decide) ?_
        have e0 : nI k + 1 = nI (k + 1) := nI_1 k
        rw [e0] at hl
        have e1 : fX1_besideN (fX1_columnOf ce) (fX1_rowOf ce) k = fX1_besideN (fX1_columnOf ce) (fX1_rowOf ce) (k + 1) := by rw [fX1_besideN, if_pos c43_3]
        rw [e1] at hl
        exact ih (k + 1) (by omega) _ _ w ls (lv_sub hl [0, 1, 2, 3, 4] rfl)
      · refine lv_iinc (v := (fX1_besideN (fX1_columnOf ce) (fX1_rowOf ce) k) + 1) (lv' := [(3, .int ((fX1_besideN (fX1_columnOf ce) (fX1_rowOf ce) k) + 1)), (4, .int (nI k)), (2, .int (fX1_rowOf ce)), (1, .int (fX1_columnOf ce)), (0, .int ce)]) hx hb dX1_cellsBeside_46 hl (k := 1) rfl (by first | rfl | decide) (by decide) rfl (fun ls hl => ?_)
        refine lv_iinc (v := (nI k) + 1) (lv' := [(4, .int ((nI k) + 1)), (3, .int ((fX1_besideN (fX1_columnOf ce) (fX1_rowOf ce) k) + 1)), (2, .int (fX1_rowOf ce)), (1, .int (fX1_columnOf ce)), (0, .int ce)]) hx hb dX1_cellsBeside_49 hl (k := 1) rfl (by first | rfl | decide) (by decide) rfl (fun ls hl => ?_)
        refine lv_goto (tgt := 15) hx hb dX1_cellsBeside_52 (by decide) ?_
        have e0 : nI k + 1 = nI (k + 1) := nI_1 k
        rw [e0] at hl
        have e1 : (fX1_besideN (fX1_columnOf ce) (fX1_rowOf ce) k) + 1 = fX1_besideN (fX1_columnOf ce) (fX1_rowOf ce) (k + 1) := by rw [fX1_besideN, if_neg c43_3]
        rw [e1] at hl
        exact ih (k + 1) (by omega) _ _ w ls (lv_sub hl [0, 1, 2, 3, 4] rfl)
  exact loop 6 0 (by omega) _ _ w ls (lv_sub hl [0, 1, 2, 3, 4] rfl)
