/-! Felt: the cells and how they lie (printed by wip/whole/gen/p05.py) -/
def fX1_isCell (ce : Int32) : Int32 := if ce < 0 then ((0)) else (if 61 ≤ ce then ((0)) else ((1)))
theorem dX1_isCell_0 : decode cX1_isCell 0 = .ok (.iload_n 0, 1) := by decide +kernel
theorem dX1_isCell_1 : decode cX1_isCell 1 = .ok (.ifCond .lt 13, 3) := by decide +kernel
theorem dX1_isCell_4 : decode cX1_isCell 4 = .ok (.iload_n 0, 1) := by decide +kernel
theorem dX1_isCell_5 : decode cX1_isCell 5 = .ok (.bipush 61, 2) := by decide +kernel
theorem dX1_isCell_7 : decode cX1_isCell 7 = .ok (.if_icmp .ge 7, 3) := by decide +kernel
theorem dX1_isCell_10 : decode cX1_isCell 10 = .ok (.iconst 1, 1) := by decide +kernel
theorem dX1_isCell_11 : decode cX1_isCell 11 = .ok (.goto 4, 3) := by decide +kernel
theorem dX1_isCell_14 : decode cX1_isCell 14 = .ok (.iconst 0, 1) := by decide +kernel
theorem dX1_isCell_15 : decode cX1_isCell 15 = .ok (.ireturn, 1) := by decide +kernel
set_option maxHeartbeats 4000000 in
set_option maxRecDepth 100000 in
theorem kX1_isCell (l : Launch) (E : Ev) (ce : Int32) : KQ l yX1_isCell cX1_isCell 1 (some .boolean) 0 0 E [.int ce] [] (QI E [] (fX1_isCell ce) []) := by
  refine KQ.mk RX1 rfl (by decide) (Nat.le_of_ble_eq_true rfl) ?_
  intro p e s m below meth c ls X hr w hl
  have hx := X.1
  have hb := X.2.1
  have hl : lv_has ls 1 [(0, .int ce)] := hl
  refine lv_iload_n hx hb dX1_isCell_0 rfl (lv_at hl 0 rfl) ?_
  refine lv_if_lt (tgt := 14) hx hb dX1_isCell_1 (by decide) (fun c1_1 => ?_) (fun c1_1 => ?_)
  · refine lv_iconst (v := 0) hx hb dX1_isCell_14 (by decide) ?_
    have hq : fX1_isCell ce = (0) := by simp only [fX1_isCell, if_pos c1_1]
    rw [hq]
    exact r_zret X w hr (Or.inl rfl) rfl dX1_isCell_15
  · refine lv_iload_n hx hb dX1_isCell_4 rfl (lv_at hl 0 rfl) ?_
    refine lv_bipush (v := 61) hx hb dX1_isCell_5 (by decide) ?_
    refine lv_icmp_ge (tgt := 14) hx hb dX1_isCell_7 (by decide) (fun c7_2 => ?_) (fun c7_2 => ?_)
    · refine lv_iconst (v := 0) hx hb dX1_isCell_14 (by decide) ?_
      have hq : fX1_isCell ce = (0) := by simp only [fX1_isCell, if_neg c1_1, if_pos c7_2]
      rw [hq]
      exact r_zret X w hr (Or.inl rfl) rfl dX1_isCell_15
    · refine lv_iconst (v := 1) hx hb dX1_isCell_10 (by decide) ?_
      refine lv_goto (tgt := 15) hx hb dX1_isCell_11 (by decide) ?_
      have hq : fX1_isCell ce = (1) := by simp only [fX1_isCell, if_neg c1_1, if_neg c7_2]
      rw [hq]
      exact r_zret X w hr (Or.inr rfl) rfl dX1_isCell_15
theorem zX1_isCell (ce : Int32) : fX1_isCell ce = 0 ∨ fX1_isCell ce = 1 := by
  unfold fX1_isCell
  repeat' split
  all_goals first | exact Or.inl rfl | exact Or.inr rfl | (simp; done) | exact Or.inl rfl
def fX1_isDirection (di : Int32) : Int32 := if di < 0 then ((0)) else (if 6 ≤ di then ((0)) else ((1)))
theorem dX1_isDirection_0 : decode cX1_isDirection 0 = .ok (.iload_n 0, 1) := by decide +kernel
theorem dX1_isDirection_1 : decode cX1_isDirection 1 = .ok (.ifCond .lt 13, 3) := by decide +kernel
theorem dX1_isDirection_4 : decode cX1_isDirection 4 = .ok (.iload_n 0, 1) := by decide +kernel
theorem dX1_isDirection_5 : decode cX1_isDirection 5 = .ok (.bipush 6, 2) := by decide +kernel
theorem dX1_isDirection_7 : decode cX1_isDirection 7 = .ok (.if_icmp .ge 7, 3) := by decide +kernel
theorem dX1_isDirection_10 : decode cX1_isDirection 10 = .ok (.iconst 1, 1) := by decide +kernel
theorem dX1_isDirection_11 : decode cX1_isDirection 11 = .ok (.goto 4, 3) := by decide +kernel
theorem dX1_isDirection_14 : decode cX1_isDirection 14 = .ok (.iconst 0, 1) := by decide +kernel
theorem dX1_isDirection_15 : decode cX1_isDirection 15 = .ok (.ireturn, 1) := by decide +kernel
set_option maxHeartbeats 4000000 in
set_option maxRecDepth 100000 in
theorem kX1_isDirection (l : Launch) (E : Ev) (di : Int32) : KQ l yX1_isDirection cX1_isDirection 1 (some .boolean) 0 0 E [.int di] [] (QI E [] (fX1_isDirection di) []) := by
  refine KQ.mk RX1 rfl (by decide) (Nat.le_of_ble_eq_true rfl) ?_
  intro p e s m below meth c ls X hr w hl
  have hx := X.1
  have hb := X.2.1
  have hl : lv_has ls 1 [(0, .int di)] := hl
  refine lv_iload_n hx hb dX1_isDirection_0 rfl (lv_at hl 0 rfl) ?_
  refine lv_if_lt (tgt := 14) hx hb dX1_isDirection_1 (by decide) (fun c1_1 => ?_) (fun c1_1 => ?_)
  · refine lv_iconst (v := 0) hx hb dX1_isDirection_14 (by decide) ?_
    have hq : fX1_isDirection di = (0) := by simp only [fX1_isDirection, if_pos c1_1]
    rw [hq]
    exact r_zret X w hr (Or.inl rfl) rfl dX1_isDirection_15
  · refine lv_iload_n hx hb dX1_isDirection_4 rfl (lv_at hl 0 rfl) ?_
    refine lv_bipush (v := 6) hx hb dX1_isDirection_5 (by decide) ?_
    refine lv_icmp_ge (tgt := 14) hx hb dX1_isDirection_7 (by decide) (fun c7_2 => ?_) (fun c7_2 => ?_)
    · refine lv_iconst (v := 0) hx hb dX1_isDirection_14 (by decide) ?_
      have hq : fX1_isDirection di = (0) := by simp only [fX1_isDirection, if_neg c1_1, if_pos c7_2]
      rw [hq]
      exact r_zret X w hr (Or.inl rfl) rfl dX1_isDirection_15
    · refine lv_iconst (v := 1) hx hb dX1_isDirection_10 (by decide) ?_
      refine lv_goto (tgt := 15) hx hb dX1_isDirection_11 (by decide) ?_
      have hq : fX1_isDirection di = (1) := by simp only [fX1_isDirection, if_neg c1_1, if_neg c7_2]
      rw [hq]
      exact r_zret X w hr (Or.inr rfl) rfl dX1_isDirection_15
theorem zX1_isDirection (di : Int32) : fX1_isDirection di = 0 ∨ fX1_isDirection di = 1 := by
  unfold fX1_isDirection
  repeat' split
  all_goals first | exact Or.inl rfl | exact Or.inr rfl | (simp; done) | exact Or.inl rfl
def fX1_isOut (co : Int32) : Int32 := if co < (-4) then ((1)) else (if co ≤ 4 then ((0)) else ((1)))
theorem dX1_isOut_0 : decode cX1_isOut 0 = .ok (.iload_n 0, 1) := by decide +kernel
theorem dX1_isOut_1 : decode cX1_isOut 1 = .ok (.bipush (-4), 2) := by decide +kernel
theorem dX1_isOut_3 : decode cX1_isOut 3 = .ok (.if_icmp .lt 8, 3) := by decide +kernel
theorem dX1_isOut_6 : decode cX1_isOut 6 = .ok (.iload_n 0, 1) := by decide +kernel
theorem dX1_isOut_7 : decode cX1_isOut 7 = .ok (.iconst 4, 1) := by decide +kernel
theorem dX1_isOut_8 : decode cX1_isOut 8 = .ok (.if_icmp .le 7, 3) := by decide +kernel
theorem dX1_isOut_11 : decode cX1_isOut 11 = .ok (.iconst 1, 1) := by decide +kernel
theorem dX1_isOut_12 : decode cX1_isOut 12 = .ok (.goto 4, 3) := by decide +kernel
theorem dX1_isOut_15 : decode cX1_isOut 15 = .ok (.iconst 0, 1) := by decide +kernel
theorem dX1_isOut_16 : decode cX1_isOut 16 = .ok (.ireturn, 1) := by decide +kernel
set_option maxHeartbeats 4000000 in
set_option maxRecDepth 100000 in
theorem kX1_isOut (l : Launch) (E : Ev) (co : Int32) : KQ l yX1_isOut cX1_isOut 1 (some .boolean) 0 0 E [.int co] [] (QI E [] (fX1_isOut co) []) := by
  refine KQ.mk RX1 rfl (by decide) (Nat.le_of_ble_eq_true rfl) ?_
  intro p e s m below meth c ls X hr w hl
  have hx := X.1
  have hb := X.2.1
  have hl : lv_has ls 1 [(0, .int co)] := hl
  refine lv_iload_n hx hb dX1_isOut_0 rfl (lv_at hl 0 rfl) ?_
  refine lv_bipush (v := (-4)) hx hb dX1_isOut_1 (by decide) ?_
  refine lv_icmp_lt (tgt := 11) hx hb dX1_isOut_3 (by decide) (fun c3_1 => ?_) (fun c3_1 => ?_)
  · refine lv_iconst (v := 1) hx hb dX1_isOut_11 (by decide) ?_
    refine lv_goto (tgt := 16) hx hb dX1_isOut_12 (by decide) ?_
    have hq : fX1_isOut co = (1) := by simp only [fX1_isOut, if_pos c3_1]
    rw [hq]
    exact r_zret X w hr (Or.inr rfl) rfl dX1_isOut_16
  · refine lv_iload_n hx hb dX1_isOut_6 rfl (lv_at hl 0 rfl) ?_
    refine lv_iconst (v := 4) hx hb dX1_isOut_7 (by decide) ?_
    refine lv_icmp_le (tgt := 15) hx hb dX1_isOut_8 (by decide) (fun c8_2 => ?_) (fun c8_2 => ?_)
    · refine lv_iconst (v := 0) hx hb dX1_isOut_15 (by decide) ?_
      have hq : fX1_isOut co = (0) := by simp only [fX1_isOut, if_neg c3_1, if_pos c8_2]
      rw [hq]
      exact r_zret X w hr (Or.inl rfl) rfl dX1_isOut_16
    · refine lv_iconst (v := 1) hx hb dX1_isOut_11 (by decide) ?_
      refine lv_goto (tgt := 16) hx hb dX1_isOut_12 (by decide) ?_
      have hq : fX1_isOut co = (1) := by simp only [fX1_isOut, if_neg c3_1, if_neg c8_2]
      rw [hq]
      exact r_zret X w hr (Or.inr rfl) rfl dX1_isOut_16
theorem zX1_isOut (co : Int32) : fX1_isOut co = 0 ∨ fX1_isOut co = 1 := by
  unfold fX1_isOut
  repeat' split
  all_goals first | exact Or.inl rfl | exact Or.inr rfl | (simp; done) | exact Or.inl rfl
def fX1_firstColumn (r : Int32) : Int32 := if 0 ≤ r then (((-4))) else (((-4) - r))
theorem dX1_firstColumn_0 : decode cX1_firstColumn 0 = .ok (.iload_n 0, 1) := by decide +kernel
theorem dX1_firstColumn_1 : decode cX1_firstColumn 1 = .ok (.ifCond .ge 10, 3) := by decide +kernel
theorem dX1_firstColumn_4 : decode cX1_firstColumn 4 = .ok (.bipush (-4), 2) := by decide +kernel
theorem dX1_firstColumn_6 : decode cX1_firstColumn 6 = .ok (.iload_n 0, 1) := by decide +kernel
theorem dX1_firstColumn_7 : decode cX1_firstColumn 7 = .ok (.isub, 1) := by decide +kernel
theorem dX1_firstColumn_8 : decode cX1_firstColumn 8 = .ok (.goto 5, 3) := by decide +kernel
theorem dX1_firstColumn_11 : decode cX1_firstColumn 11 = .ok (.bipush (-4), 2) := by decide +kernel
theorem dX1_firstColumn_13 : decode cX1_firstColumn 13 = .ok (.ireturn, 1) := by decide +kernel
set_option maxHeartbeats 4000000 in
set_option maxRecDepth 100000 in
theorem kX1_firstColumn (l : Launch) (E : Ev) (r : Int32) : KQ l yX1_firstColumn cX1_firstColumn 1 (some .int) 0 0 E [.int r] [] (QI E [] (fX1_firstColumn r) []) := by
  refine KQ.mk RX1 rfl (by decide) (Nat.le_of_ble_eq_true rfl) ?_
  intro p e s m below meth c ls X hr w hl
  have hx := X.1
  have hb := X.2.1
  have hl : lv_has ls 1 [(0, .int r)] := hl
  refine lv_iload_n hx hb dX1_firstColumn_0 rfl (lv_at hl 0 rfl) ?_
  refine lv_if_ge (tgt := 11) hx hb dX1_firstColumn_1 (by decide) (fun c1_1 => ?_) (fun c1_1 => ?_)
  · refine lv_bipush (v := (-4)) hx hb dX1_firstColumn_11 (by decide) ?_
    have hq : fX1_firstColumn r = ((-4)) := by simp only [fX1_firstColumn, if_pos c1_1]
    rw [hq]
    exact r_iret X w hr rfl dX1_firstColumn_13
  · refine lv_bipush (v := (-4)) hx hb dX1_firstColumn_4 (by decide) ?_
    refine lv_iload_n hx hb dX1_firstColumn_6 rfl (lv_at hl 0 rfl) ?_
    refine lv_isub hx hb dX1_firstColumn_7 ?_
    refine lv_goto (tgt := 13) hx hb dX1_firstColumn_8 (by decide) ?_
    have hq : fX1_firstColumn r = ((-4) - r) := by simp only [fX1_firstColumn, if_neg c1_1]
    rw [hq]
    exact r_iret X w hr rfl dX1_firstColumn_13
