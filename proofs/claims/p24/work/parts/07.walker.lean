/-! Walker, BallText (printed by wip/whole/gen/p07.py) -/
def fX5_startAt (d : N1) (ce : Int32) (di : Int32) : N1 := (upd (upd (upd d 0 (fX1_columnOf ce)) 1 (fX1_rowOf ce)) 2 di)
theorem dX5_startAt_0 : decode cX5_startAt 0 = .ok (.aload_n 0, 1) := by decide +kernel
theorem dX5_startAt_1 : decode cX5_startAt 1 = .ok (.iload_n 1, 1) := by decide +kernel
theorem dX5_startAt_2 : decode cX5_startAt 2 = .ok (.invokestatic 9, 3) := by decide +kernel
theorem dX5_startAt_5 : decode cX5_startAt 5 = .ok (.putfield 15, 3) := by decide +kernel
theorem dX5_startAt_8 : decode cX5_startAt 8 = .ok (.aload_n 0, 1) := by decide +kernel
theorem dX5_startAt_9 : decode cX5_startAt 9 = .ok (.iload_n 1, 1) := by decide +kernel
theorem dX5_startAt_10 : decode cX5_startAt 10 = .ok (.invokestatic 21, 3) := by decide +kernel
theorem dX5_startAt_13 : decode cX5_startAt 13 = .ok (.putfield 24, 3) := by decide +kernel
theorem dX5_startAt_16 : decode cX5_startAt 16 = .ok (.aload_n 0, 1) := by decide +kernel
theorem dX5_startAt_17 : decode cX5_startAt 17 = .ok (.iload_n 2, 1) := by decide +kernel
theorem dX5_startAt_18 : decode cX5_startAt 18 = .ok (.putfield 27, 3) := by decide +kernel
theorem dX5_startAt_21 : decode cX5_startAt 21 = .ok (.return_, 1) := by decide +kernel
theorem ck_X5_9 : CkS RX5 9 yX1_columnOf cX1_columnOf 2 (some .int) 1 := ⟨wm_X5_9, wst_yX1_columnOf, wi_X1, wc_yX1_columnOf, by decide +kernel⟩
theorem ck_X5_21 : CkS RX5 21 yX1_rowOf cX1_rowOf 2 (some .int) 1 := ⟨wm_X5_21, wst_yX1_rowOf, wi_X1, wc_yX1_rowOf, by decide +kernel⟩
theorem ax_20 {E : Ev} {a0 : Nat} {σ0 : N1} {x : Int32} : (wWk a0 σ0).set 0 (a0, .inr (4, ([.int (σ0 0), .int (σ0 1), .int (σ0 2)] : List Value).set 0 (.int x))) = wWk a0 (upd σ0 0 x) := rfl
theorem ax_21 {E : Ev} {a0 : Nat} {σ0 : N1} {x : Int32} : (wWk a0 σ0).set 0 (a0, .inr (4, ([.int (σ0 0), .int (σ0 1), .int (σ0 2)] : List Value).set 1 (.int x))) = wWk a0 (upd σ0 1 x) := rfl
theorem ax_22 {E : Ev} {a0 : Nat} {σ0 : N1} {x : Int32} : (wWk a0 σ0).set 0 (a0, .inr (4, ([.int (σ0 0), .int (σ0 1), .int (σ0 2)] : List Value).set 2 (.int x))) = wWk a0 (upd σ0 2 x) := rfl
set_option maxHeartbeats 4000000 in
set_option maxRecDepth 100000 in
theorem kX5_startAt (l : Launch) (E : Ev) (j : Nat) (d : N1) (ce : Int32) (di : Int32) : KQ l yX5_startAt cX5_startAt 3 none 2 42 E [.ref j, .int ce, .int di] (wWk j d) (QV E (wWk j d) (wWk j (fX5_startAt d ce di))) := by
  refine KQ.mk RX5 rfl (by decide +kernel) (Nat.le_of_ble_eq_true rfl) ?_
  intro p e s m below meth c ls X hr w hl
  have hx := X.1
  have hb := X.2.1
  have hl : lv_has ls 3 [(0, .ref j), (1, .int ce), (2, .int di)] := hl
  refine lv_aload_n hx hb dX5_startAt_0 rfl (lv_at hl 0 rfl) ?_
  refine lv_iload_n hx hb dX5_startAt_1 rfl (lv_at hl 1 rfl) ?_
  refine r_ci w (r_runS (As := [.int ce]) (rest := [.ref j]) X w (kX1_columnOf l E ce ) ck_X5_9 ⟨Nat.le_of_ble_eq_true rfl, Nat.le_of_ble_eq_true rfl⟩ [] rfl (by decide +kernel) hl.1 (Nat.le_of_ble_eq_true rfl) rfl dX5_startAt_2 ⟨Nat.le_of_ble_eq_true rfl, Nat.le_of_ble_eq_true rfl⟩) (wWk j d) [] rfl (by decide +kernel) rfl rfl (fun H locs w => ?_)
  refine r_put X w (wWk j (upd d 0 (fX1_columnOf ce))) CL5 0 (by decide) wf_X5_15 0 rfl rfl rfl rfl (Nat.le_of_ble_eq_true rfl) (ax_20 (E := E)) dX5_startAt_5 (fun H locs w => ?_)
  refine lv_aload_n hx hb dX5_startAt_8 rfl (lv_at hl 0 rfl) ?_
  refine lv_iload_n hx hb dX5_startAt_9 rfl (lv_at hl 1 rfl) ?_
  refine r_ci w (r_runS (As := [.int ce]) (rest := [.ref j]) X w (kX1_rowOf l E ce ) ck_X5_21 ⟨Nat.le_of_ble_eq_true rfl, Nat.le_of_ble_eq_true rfl⟩ [] rfl (by decide +kernel) hl.1 (Nat.le_of_ble_eq_true rfl) rfl dX5_startAt_10 ⟨Nat.le_of_ble_eq_true rfl, Nat.le_of_ble_eq_true rfl⟩) (wWk j (upd d 0 (fX1_columnOf ce))) [] rfl (by decide +kernel) rfl rfl (fun H locs w => ?_)
  refine r_put X w (wWk j (upd (upd d 0 (fX1_columnOf ce)) 1 (fX1_rowOf ce))) CL5 1 (by decide) wf_X5_24 0 rfl rfl rfl rfl (Nat.le_of_ble_eq_true rfl) (ax_21 (E := E)) dX5_startAt_13 (fun H locs w => ?_)
  refine lv_aload_n hx hb dX5_startAt_16 rfl (lv_at hl 0 rfl) ?_
  refine lv_iload_n hx hb dX5_startAt_17 rfl (lv_at hl 2 rfl) ?_
  refine r_put X w (wWk j (upd (upd (upd d 0 (fX1_columnOf ce)) 1 (fX1_rowOf ce)) 2 di)) CL5 2 (by decide) wf_X5_27 0 rfl rfl rfl rfl (Nat.le_of_ble_eq_true rfl) (ax_22 (E := E)) dX5_startAt_18 (fun H locs w => ?_)
  have hq : fX5_startAt d ce di = (upd (upd (upd d 0 (fX1_columnOf ce)) 1 (fX1_rowOf ce)) 2 di) := rfl
  rw [hq]
  exact r_vret X w hr dX5_startAt_21
def fX5_cellAhead (d : N1) : Int32 := ((fX1_cellAt ((d 0) + (fX1_stepQ (d 2))) ((d 1) + (fX1_stepR (d 2)))))
theorem dX5_cellAhead_0 : decode cX5_cellAhead 0 = .ok (.aload_n 0, 1) := by decide +kernel
theorem dX5_cellAhead_1 : decode cX5_cellAhead 1 = .ok (.getfield 15, 3) := by decide +kernel
theorem dX5_cellAhead_4 : decode cX5_cellAhead 4 = .ok (.aload_n 0, 1) := by decide +kernel
theorem dX5_cellAhead_5 : decode cX5_cellAhead 5 = .ok (.getfield 27, 3) := by decide +kernel
theorem dX5_cellAhead_8 : decode cX5_cellAhead 8 = .ok (.invokestatic 30, 3) := by decide +kernel
theorem dX5_cellAhead_11 : decode cX5_cellAhead 11 = .ok (.iadd, 1) := by decide +kernel
theorem dX5_cellAhead_12 : decode cX5_cellAhead 12 = .ok (.aload_n 0, 1) := by decide +kernel
theorem dX5_cellAhead_13 : decode cX5_cellAhead 13 = .ok (.getfield 24, 3) := by decide +kernel
theorem dX5_cellAhead_16 : decode cX5_cellAhead 16 = .ok (.aload_n 0, 1) := by decide +kernel
theorem dX5_cellAhead_17 : decode cX5_cellAhead 17 = .ok (.getfield 27, 3) := by decide +kernel
theorem dX5_cellAhead_20 : decode cX5_cellAhead 20 = .ok (.invokestatic 33, 3) := by decide +kernel
theorem dX5_cellAhead_23 : decode cX5_cellAhead 23 = .ok (.iadd, 1) := by decide +kernel
theorem dX5_cellAhead_24 : decode cX5_cellAhead 24 = .ok (.invokestatic 36, 3) := by decide +kernel
theorem dX5_cellAhead_27 : decode cX5_cellAhead 27 = .ok (.ireturn, 1) := by decide +kernel
theorem ck_X5_30 : CkS RX5 30 yX1_stepQ cX1_stepQ 1 (some .int) 1 := ⟨wm_X5_30, wst_yX1_stepQ, wi_X1, wc_yX1_stepQ, by decide +kernel⟩
theorem ck_X5_33 : CkS RX5 33 yX1_stepR cX1_stepR 1 (some .int) 1 := ⟨wm_X5_33, wst_yX1_stepR, wi_X1, wc_yX1_stepR, by decide +kernel⟩
theorem ck_X5_36 : CkS RX5 36 yX1_cellAt cX1_cellAt 2 (some .int) 2 := ⟨wm_X5_36, wst_yX1_cellAt, wi_X1, wc_yX1_cellAt, by decide +kernel⟩
set_option maxHeartbeats 4000000 in
set_option maxRecDepth 100000 in
theorem kX5_cellAhead (l : Launch) (E : Ev) (j : Nat) (d : N1) : KQ l yX5_cellAhead cX5_cellAhead 1 (some .int) 2 41 E [.ref j] (wWk j d) (QI E (wWk j d) (fX5_cellAhead d) (wWk j d)) := by
  refine KQ.mk RX5 rfl (by decide +kernel) (Nat.le_of_ble_eq_true rfl) ?_
  intro p e s m below meth c ls X hr w hl
  have hx := X.1
  have hb := X.2.1
  have hl : lv_has ls 1 [(0, .ref j)] := hl
  refine lv_aload_n hx hb dX5_cellAhead_0 rfl (lv_at hl 0 rfl) ?_
  refine r_get X w CL5 0 (by decide) wf_X5_15 0 rfl rfl dX5_cellAhead_1 ?_
  refine lv_aload_n hx hb dX5_cellAhead_4 rfl (lv_at hl 0 rfl) ?_
  refine r_get X w CL5 2 (by decide) wf_X5_27 0 rfl rfl dX5_cellAhead_5 ?_
  refine r_ci w (r_runS (As := [.int (d 2)]) (rest := [.int (d 0)]) X w (kX1_stepQ l E (d 2) ) ck_X5_30 ⟨Nat.le_of_ble_eq_true rfl, Nat.le_of_ble_eq_true rfl⟩ [] rfl (by decide +kernel) hl.1 (Nat.le_of_ble_eq_true rfl) rfl dX5_cellAhead_8 ⟨Nat.le_of_ble_eq_true rfl, Nat.le_of_ble_eq_true rfl⟩) (wWk j d) [] rfl (by decide +kernel) rfl rfl (fun H locs w => ?_)
  refine lv_iadd hx hb dX5_cellAhead_11 ?_
  refine lv_aload_n hx hb dX5_cellAhead_12 rfl (lv_at hl 0 rfl) ?_
  refine r_get X w CL5 1 (by decide) wf_X5_24 0 rfl rfl dX5_cellAhead_13 ?_
  refine lv_aload_n hx hb dX5_cellAhead_16 rfl (lv_at hl 0 rfl) ?_
  refine r_get X w CL5 2 (by decide) wf_X5_27 0 rfl rfl dX5_cellAhead_17 ?_
  refine r_ci w (r_runS (As := [.int (d 2)]) (rest := [.int (d 1), .int ((d 0) + (fX1_stepQ (d 2)))]) X w (kX1_stepR l E (d 2) ) ck_X5_33 ⟨Nat.le_of_ble_eq_true rfl, Nat.le_of_ble_eq_true rfl⟩ [] rfl (by decide +kernel) hl.1 (Nat.le_of_ble_eq_true rfl) rfl dX5_cellAhead_20 ⟨Nat.le_of_ble_eq_true rfl, Nat.le_of_ble_eq_true rfl⟩) (wWk j d) [] rfl (by decide +kernel) rfl rfl (fun H locs w => ?_)
  refine lv_iadd hx hb dX5_cellAhead_23 ?_
  refine r_ci w (r_runS (As := [.int ((d 0) + (fX1_stepQ (d 2))), .int ((d 1) + (fX1_stepR (d 2)))]) (rest := []) X w (kX1_cellAt l E ((d 0) + (fX1_stepQ (d 2))) ((d 1) + (fX1_stepR (d 2))) ) ck_X5_36 ⟨Nat.le_of_ble_eq_true rfl, Nat.le_of_ble_eq_true rfl⟩ [] rfl (by decide +kernel) hl.1 (Nat.le_of_ble_eq_true rfl) rfl dX5_cellAhead_24 ⟨Nat.le_of_ble_eq_true rfl, Nat.le_of_ble_eq_true rfl⟩) (wWk j d) [] rfl (by decide +kernel) rfl rfl (fun H locs w => ?_)
  have hq : fX5_cellAhead d = ((fX1_cellAt ((d 0) + (fX1_stepQ (d 2))) ((d 1) + (fX1_stepR (d 2))))) := rfl
  rw [hq]
  exact r_iret X w hr rfl dX5_cellAhead_27
def fX5_stepAhead (d : N1) : N1 := (upd (upd d 0 ((d 0) + (fX1_stepQ (d 2)))) 1 (((upd d 0 ((d 0) + (fX1_stepQ (d 2)))) 1) + (fX1_stepR ((upd d 0 ((d 0) + (fX1_stepQ (d 2)))) 2))))
theorem dX5_stepAhead_0 : decode cX5_stepAhead 0 = .ok (.aload_n 0, 1) := by decide +kernel
theorem dX5_stepAhead_1 : decode cX5_stepAhead 1 = .ok (.dup, 1) := by decide +kernel
theorem dX5_stepAhead_2 : decode cX5_stepAhead 2 = .ok (.getfield 15, 3) := by decide +kernel
theorem dX5_stepAhead_5 : decode cX5_stepAhead 5 = .ok (.aload_n 0, 1) := by decide +kernel
theorem dX5_stepAhead_6 : decode cX5_stepAhead 6 = .ok (.getfield 27, 3) := by decide +kernel
theorem dX5_stepAhead_9 : decode cX5_stepAhead 9 = .ok (.invokestatic 30, 3) := by decide +kernel
theorem dX5_stepAhead_12 : decode cX5_stepAhead 12 = .ok (.iadd, 1) := by decide +kernel
theorem dX5_stepAhead_13 : decode cX5_stepAhead 13 = .ok (.putfield 15, 3) := by decide +kernel
theorem dX5_stepAhead_16 : decode cX5_stepAhead 16 = .ok (.aload_n 0, 1) := by decide +kernel
theorem dX5_stepAhead_17 : decode cX5_stepAhead 17 = .ok (.dup, 1) := by decide +kernel
theorem dX5_stepAhead_18 : decode cX5_stepAhead 18 = .ok (.getfield 24, 3) := by decide +kernel
theorem dX5_stepAhead_21 : decode cX5_stepAhead 21 = .ok (.aload_n 0, 1) := by decide +kernel
theorem dX5_stepAhead_22 : decode cX5_stepAhead 22 = .ok (.getfield 27, 3) := by decide +kernel
theorem dX5_stepAhead_25 : decode cX5_stepAhead 25 = .ok (.invokestatic 33, 3) := by decide +kernel
theorem dX5_stepAhead_28 : decode cX5_stepAhead 28 = .ok (.iadd, 1) := by decide +kernel
theorem dX5_stepAhead_29 : decode cX5_stepAhead 29 = .ok (.putfield 24, 3) := by decide +kernel
theorem dX5_stepAhead_32 : decode cX5_stepAhead 32 = .ok (.return_, 1) := by decide +kernel
set_option maxHeartbeats 4000000 in
set_option maxRecDepth 100000 in
theorem kX5_stepAhead (l : Launch) (E : Ev) (j : Nat) (d : N1) : KQ l yX5_stepAhead cX5_stepAhead 1 none 2 40 E [.ref j] (wWk j d) (QV E (wWk j d) (wWk j (fX5_stepAhead d))) := by
  refine KQ.mk RX5 rfl (by decide +kernel) (Nat.le_of_ble_eq_true rfl) ?_
  intro p e s m below meth c ls X hr w hl
  have hx := X.1
  have hb := X.2.1
  have hl : lv_has ls 1 [(0, .ref j)] := hl
  refine lv_aload_n hx hb dX5_stepAhead_0 rfl (lv_at hl 0 rfl) ?_
  refine lv_dup hx hb dX5_stepAhead_1 rfl ?_
  refine r_get X w CL5 0 (by decide) wf_X5_15 0 rfl rfl dX5_stepAhead_2 ?_
  refine lv_aload_n hx hb dX5_stepAhead_5 rfl (lv_at hl 0 rfl) ?_
  refine r_get X w CL5 2 (by decide) wf_X5_27 0 rfl rfl dX5_stepAhead_6 ?_
  refine r_ci w (r_runS (As := [.int (d 2)]) (rest := [.int (d 0), .ref j]) X w (kX1_stepQ l E (d 2) ) ck_X5_30 ⟨Nat.le_of_ble_eq_true rfl, Nat.le_of_ble_eq_true rfl⟩ [] rfl (by decide +kernel) hl.1 (Nat.le_of_ble_eq_true rfl) rfl dX5_stepAhead_9 ⟨Nat.le_of_ble_eq_true rfl, Nat.le_of_ble_eq_true rfl⟩) (wWk j d) [] rfl (by decide +kernel) rfl rfl (fun H locs w => ?_)
  refine lv_iadd hx hb dX5_stepAhead_12 ?_
  refine r_put X w (wWk j (upd d 0 ((d 0) + (fX1_stepQ (d 2))))) CL5 0 (by decide) wf_X5_15 0 rfl rfl rfl rfl (Nat.le_of_ble_eq_true rfl) (ax_20 (E := E)) dX5_stepAhead_13 (fun H locs w => ?_)
  refine lv_aload_n hx hb dX5_stepAhead_16 rfl (lv_at hl 0 rfl) ?_
  refine lv_dup hx hb dX5_stepAhead_17 rfl ?_
  refine r_get X w CL5 1 (by decide) wf_X5_24 0 rfl rfl dX5_stepAhead_18 ?_
  refine lv_aload_n hx hb dX5_stepAhead_21 rfl (lv_at hl 0 rfl) ?_
  refine r_get X w CL5 2 (by decide) wf_X5_27 0 rfl rfl dX5_stepAhead_22 ?_
  refine r_ci w (r_runS (As := [.int ((upd d 0 ((d 0) + (fX1_stepQ (d 2)))) 2)]) (rest := [.int ((upd d 0 ((d 0) + (fX1_stepQ (d 2)))) 1), .ref j]) X w (kX1_stepR l E ((upd d 0 ((d 0) + (fX1_stepQ (d 2)))) 2) ) ck_X5_33 ⟨Nat.le_of_ble_eq_true rfl, Nat.le_of_ble_eq_true rfl⟩ [] rfl (by decide +kernel) hl.1 (Nat.le_of_ble_eq_true rfl) rfl dX5_stepAhead_25 ⟨Nat.le_of_ble_eq_true rfl, Nat.le_of_ble_eq_true rfl⟩) (wWk j (upd d 0 ((d 0) + (fX1_stepQ (d 2))))) [] rfl (by decide +kernel) rfl rfl (fun H locs w => ?_)
  refine lv_iadd hx hb dX5_stepAhead_28 ?_
  refine r_put X w (wWk j (upd (upd d 0 ((d 0) + (fX1_stepQ (d 2)))) 1 (((upd d 0 ((d 0) + (fX1_stepQ (d 2)))) 1) + (fX1_stepR ((upd d 0 ((d 0) + (fX1_stepQ (d 2)))) 2))))) CL5 1 (by decide) wf_X5_24 0 rfl rfl rfl rfl (Nat.le_of_ble_eq_true rfl) (ax_21 (E := E)) dX5_stepAhead_29 (fun H locs w => ?_)
  have hq : fX5_stepAhead d = (upd (upd d 0 ((d 0) + (fX1_stepQ (d 2)))) 1 (((upd d 0 ((d 0) + (fX1_stepQ (d 2)))) 1) + (fX1_stepR ((upd d 0 ((d 0) + (fX1_stepQ (d 2)))) 2)))) := rfl
  rw [hq]
  exact r_vret X w hr dX5_stepAhead_32
def fX5_turnAtBank (d : N1) : N1 := if (fX1_isOut ((d 0) + (fX1_stepQ (d 2)))) = 0 then (if (fX1_isOut ((d 1) + (fX1_stepR (d 2)))) = 0 then ((upd d 2 (fX1_turned (-(d 2)) 2))) else (if (fX1_isOut (((d 0) + (fX1_stepQ (d 2))) + ((d 1) + (fX1_stepR (d 2))))) = 0 then ((upd d 2 (fX1_turned (-(d 2)) 0))) else ((upd d 2 (fX1_turned (d 2) 3))))) else (if (fX1_isOut ((d 1) + (fX1_stepR (d 2)))) = 0 then (if (fX1_isOut (((d 0) + (fX1_stepQ (d 2))) + ((d 1) + (fX1_stepR (d 2))))) = 0 then ((upd d 2 (fX1_turned (-(d 2)) 4))) else ((upd d 2 (fX1_turned (d 2) 3)))) else ((upd d 2 (fX1_turned (d 2) 3))))
theorem dX5_turnAtBank_0 : decode cX5_turnAtBank 0 = .ok (.aload_n 0, 1) := by decide +kernel
theorem dX5_turnAtBank_1 : decode cX5_turnAtBank 1 = .ok (.getfield 15, 3) := by decide +kernel
theorem dX5_turnAtBank_4 : decode cX5_turnAtBank 4 = .ok (.aload_n 0, 1) := by decide +kernel
theorem dX5_turnAtBank_5 : decode cX5_turnAtBank 5 = .ok (.getfield 27, 3) := by decide +kernel
theorem dX5_turnAtBank_8 : decode cX5_turnAtBank 8 = .ok (.invokestatic 30, 3) := by decide +kernel
theorem dX5_turnAtBank_11 : decode cX5_turnAtBank 11 = .ok (.iadd, 1) := by decide +kernel
theorem dX5_turnAtBank_12 : decode cX5_turnAtBank 12 = .ok (.istore_n 1, 1) := by decide +kernel
theorem dX5_turnAtBank_13 : decode cX5_turnAtBank 13 = .ok (.aload_n 0, 1) := by decide +kernel
theorem dX5_turnAtBank_14 : decode cX5_turnAtBank 14 = .ok (.getfield 24, 3) := by decide +kernel
theorem dX5_turnAtBank_17 : decode cX5_turnAtBank 17 = .ok (.aload_n 0, 1) := by decide +kernel
theorem dX5_turnAtBank_18 : decode cX5_turnAtBank 18 = .ok (.getfield 27, 3) := by decide +kernel
theorem dX5_turnAtBank_21 : decode cX5_turnAtBank 21 = .ok (.invokestatic 33, 3) := by decide +kernel
theorem dX5_turnAtBank_24 : decode cX5_turnAtBank 24 = .ok (.iadd, 1) := by decide +kernel
theorem dX5_turnAtBank_25 : decode cX5_turnAtBank 25 = .ok (.istore_n 2, 1) := by decide +kernel
theorem dX5_turnAtBank_26 : decode cX5_turnAtBank 26 = .ok (.iload_n 1, 1) := by decide +kernel
theorem dX5_turnAtBank_27 : decode cX5_turnAtBank 27 = .ok (.invokestatic 40, 3) := by decide +kernel
theorem dX5_turnAtBank_30 : decode cX5_turnAtBank 30 = .ok (.istore_n 3, 1) := by decide +kernel
theorem dX5_turnAtBank_31 : decode cX5_turnAtBank 31 = .ok (.iload_n 2, 1) := by decide +kernel
theorem dX5_turnAtBank_32 : decode cX5_turnAtBank 32 = .ok (.invokestatic 40, 3) := by decide +kernel
theorem dX5_turnAtBank_35 : decode cX5_turnAtBank 35 = .ok (.istore 4, 2) := by decide +kernel
theorem dX5_turnAtBank_37 : decode cX5_turnAtBank 37 = .ok (.iload_n 1, 1) := by decide +kernel
theorem dX5_turnAtBank_38 : decode cX5_turnAtBank 38 = .ok (.iload_n 2, 1) := by decide +kernel
theorem dX5_turnAtBank_39 : decode cX5_turnAtBank 39 = .ok (.iadd, 1) := by decide +kernel
theorem dX5_turnAtBank_40 : decode cX5_turnAtBank 40 = .ok (.invokestatic 40, 3) := by decide +kernel
theorem dX5_turnAtBank_43 : decode cX5_turnAtBank 43 = .ok (.istore 5, 2) := by decide +kernel
theorem dX5_turnAtBank_45 : decode cX5_turnAtBank 45 = .ok (.iload_n 3, 1) := by decide +kernel
theorem dX5_turnAtBank_46 : decode cX5_turnAtBank 46 = .ok (.ifCond .eq 8, 3) := by decide +kernel
theorem dX5_turnAtBank_49 : decode cX5_turnAtBank 49 = .ok (.iload 4, 2) := by decide +kernel
theorem dX5_turnAtBank_51 : decode cX5_turnAtBank 51 = .ok (.ifCond .ne 22, 3) := by decide +kernel
theorem dX5_turnAtBank_54 : decode cX5_turnAtBank 54 = .ok (.iload_n 3, 1) := by decide +kernel
theorem dX5_turnAtBank_55 : decode cX5_turnAtBank 55 = .ok (.ifCond .eq 8, 3) := by decide +kernel
theorem dX5_turnAtBank_58 : decode cX5_turnAtBank 58 = .ok (.iload 5, 2) := by decide +kernel
theorem dX5_turnAtBank_60 : decode cX5_turnAtBank 60 = .ok (.ifCond .ne 13, 3) := by decide +kernel
theorem dX5_turnAtBank_63 : decode cX5_turnAtBank 63 = .ok (.iload 4, 2) := by decide +kernel
theorem dX5_turnAtBank_65 : decode cX5_turnAtBank 65 = .ok (.ifCond .eq 12, 3) := by decide +kernel
theorem dX5_turnAtBank_68 : decode cX5_turnAtBank 68 = .ok (.iload 5, 2) := by decide +kernel
theorem dX5_turnAtBank_70 : decode cX5_turnAtBank 70 = .ok (.ifCond .eq 7, 3) := by decide +kernel
theorem dX5_turnAtBank_73 : decode cX5_turnAtBank 73 = .ok (.iconst 1, 1) := by decide +kernel
theorem dX5_turnAtBank_74 : decode cX5_turnAtBank 74 = .ok (.goto 4, 3) := by decide +kernel
theorem dX5_turnAtBank_77 : decode cX5_turnAtBank 77 = .ok (.iconst 0, 1) := by decide +kernel
theorem dX5_turnAtBank_78 : decode cX5_turnAtBank 78 = .ok (.istore 6, 2) := by decide +kernel
theorem dX5_turnAtBank_80 : decode cX5_turnAtBank 80 = .ok (.iload 6, 2) := by decide +kernel
theorem dX5_turnAtBank_82 : decode cX5_turnAtBank 82 = .ok (.ifCond .eq 18, 3) := by decide +kernel
theorem dX5_turnAtBank_85 : decode cX5_turnAtBank 85 = .ok (.aload_n 0, 1) := by decide +kernel
theorem dX5_turnAtBank_86 : decode cX5_turnAtBank 86 = .ok (.aload_n 0, 1) := by decide +kernel
theorem dX5_turnAtBank_87 : decode cX5_turnAtBank 87 = .ok (.getfield 27, 3) := by decide +kernel
theorem dX5_turnAtBank_90 : decode cX5_turnAtBank 90 = .ok (.iconst 3, 1) := by decide +kernel
theorem dX5_turnAtBank_91 : decode cX5_turnAtBank 91 = .ok (.invokestatic 44, 3) := by decide +kernel
theorem dX5_turnAtBank_94 : decode cX5_turnAtBank 94 = .ok (.putfield 27, 3) := by decide +kernel
theorem dX5_turnAtBank_97 : decode cX5_turnAtBank 97 = .ok (.goto 39, 3) := by decide +kernel
theorem dX5_turnAtBank_100 : decode cX5_turnAtBank 100 = .ok (.iload_n 3, 1) := by decide +kernel
theorem dX5_turnAtBank_101 : decode cX5_turnAtBank 101 = .ok (.ifCond .eq 7, 3) := by decide +kernel
theorem dX5_turnAtBank_104 : decode cX5_turnAtBank 104 = .ok (.iconst 2, 1) := by decide +kernel
theorem dX5_turnAtBank_105 : decode cX5_turnAtBank 105 = .ok (.goto 13, 3) := by decide +kernel
theorem dX5_turnAtBank_108 : decode cX5_turnAtBank 108 = .ok (.iload 4, 2) := by decide +kernel
theorem dX5_turnAtBank_110 : decode cX5_turnAtBank 110 = .ok (.ifCond .eq 7, 3) := by decide +kernel
theorem dX5_turnAtBank_113 : decode cX5_turnAtBank 113 = .ok (.iconst 0, 1) := by decide +kernel
theorem dX5_turnAtBank_114 : decode cX5_turnAtBank 114 = .ok (.goto 4, 3) := by decide +kernel
theorem dX5_turnAtBank_117 : decode cX5_turnAtBank 117 = .ok (.iconst 1, 1) := by decide +kernel
theorem dX5_turnAtBank_118 : decode cX5_turnAtBank 118 = .ok (.istore 7, 2) := by decide +kernel
theorem dX5_turnAtBank_120 : decode cX5_turnAtBank 120 = .ok (.aload_n 0, 1) := by decide +kernel
theorem dX5_turnAtBank_121 : decode cX5_turnAtBank 121 = .ok (.aload_n 0, 1) := by decide +kernel
theorem dX5_turnAtBank_122 : decode cX5_turnAtBank 122 = .ok (.getfield 27, 3) := by decide +kernel
theorem dX5_turnAtBank_125 : decode cX5_turnAtBank 125 = .ok (.ineg, 1) := by decide +kernel
theorem dX5_turnAtBank_126 : decode cX5_turnAtBank 126 = .ok (.iconst 2, 1) := by decide +kernel
theorem dX5_turnAtBank_127 : decode cX5_turnAtBank 127 = .ok (.iload 7, 2) := by decide +kernel
theorem dX5_turnAtBank_129 : decode cX5_turnAtBank 129 = .ok (.imul, 1) := by decide +kernel
theorem dX5_turnAtBank_130 : decode cX5_turnAtBank 130 = .ok (.invokestatic 44, 3) := by decide +kernel
theorem dX5_turnAtBank_133 : decode cX5_turnAtBank 133 = .ok (.putfield 27, 3) := by decide +kernel
theorem dX5_turnAtBank_136 : decode cX5_turnAtBank 136 = .ok (.return_, 1) := by decide +kernel
theorem ck_X5_40 : CkS RX5 40 yX1_isOut cX1_isOut 1 (some .boolean) 1 := ⟨wm_X5_40, wst_yX1_isOut, wi_X1, wc_yX1_isOut, by decide +kernel⟩
theorem ck_X5_44 : CkS RX5 44 yX1_turned cX1_turned 2 (some .int) 2 := ⟨wm_X5_44, wst_yX1_turned, wi_X1, wc_yX1_turned, by decide +kernel⟩
set_option maxHeartbeats 4000000 in
set_option maxRecDepth 100000 in
theorem kX5_turnAtBank (l : Launch) (E : Ev) (j : Nat) (d : N1) : KQ l yX5_turnAtBank cX5_turnAtBank 8 none 2 43 E [.ref j] (wWk j d) (QV E (wWk j d) (wWk j (fX5_turnAtBank d))) := by
  refine KQ.mk RX5 rfl (by decide +kernel) (Nat.le_of_ble_eq_true rfl) ?_
  intro p e s m below meth c ls X hr w hl
  have hx := X.1
  have hb := X.2.1
  have hl : lv_has ls 8 [(0, .ref j)] := hl
  refine lv_aload_n hx hb dX5_turnAtBank_0 rfl (lv_at hl 0 rfl) ?_
  refine r_get X w CL5 0 (by decide) wf_X5_15 0 rfl rfl dX5_turnAtBank_1 ?_
  refine lv_aload_n hx hb dX5_turnAtBank_4 rfl (lv_at hl 0 rfl) ?_
  refine r_get X w CL5 2 (by decide) wf_X5_27 0 rfl rfl dX5_turnAtBank_5 ?_
  refine r_ci w (r_runS (As := [.int (d 2)]) (rest := [.int (d 0)]) X w (kX1_stepQ l E (d 2) ) ck_X5_30 ⟨Nat.le_of_ble_eq_true rfl, Nat.le_of_ble_eq_true rfl⟩ [] rfl (by decide +kernel) hl.1 (Nat.le_of_ble_eq_true rfl) rfl dX5_turnAtBank_8 ⟨Nat.le_of_ble_eq_true rfl, Nat.le_of_ble_eq_true rfl⟩) (wWk j d) [] rfl (by decide +kernel) rfl rfl (fun H locs w => ?_)
  refine lv_iadd hx hb dX5_turnAtBank_11 ?_
  refine lv_istore_n (lv' := [(1, .int ((d 0) + (fX1_stepQ (d 2)))), (0, .ref j)]) hx hb dX5_turnAtBank_12 rfl hl (by decide) rfl (fun ls hl => ?_)
  refine lv_aload_n hx hb dX5_turnAtBank_13 rfl (lv_at hl 1 rfl) ?_
  refine r_get X w CL5 1 (by decide) wf_X5_24 0 rfl rfl dX5_turnAtBank_14 ?_
  refine lv_aload_n hx hb dX5_turnAtBank_17 rfl (lv_at hl 1 rfl) ?_
  refine r_get X w CL5 2 (by decide) wf_X5_27 0 rfl rfl dX5_turnAtBank_18 ?_
  refine r_ci w (r_runS (As := [.int (d 2)]) (rest := [.int (d 1)]) X w (kX1_stepR l E (d 2) ) ck_X5_33 ⟨Nat.le_of_ble_eq_true rfl, Nat.le_of_ble_eq_true rfl⟩ [] rfl (by decide +kernel) hl.1 (Nat.le_of_ble_eq_true rfl) rfl dX5_turnAtBank_21 ⟨Nat.le_of_ble_eq_true rfl, Nat.le_of_ble_eq_true rfl⟩) (wWk j d) [] rfl (by decide +kernel) rfl rfl (fun H locs w => ?_)
  refine lv_iadd hx hb dX5_turnAtBank_24 ?_
  refine lv_istore_n (lv' := [(2, .int ((d 1) + (fX1_stepR (d 2)))), (1, .int ((d 0) + (fX1_stepQ (d 2)))), (0, .ref j)]) hx hb dX5_turnAtBank_25 rfl hl (by decide) rfl (fun ls hl => ?_)
  refine lv_iload_n hx hb dX5_turnAtBank_26 rfl (lv_at hl 1 rfl) ?_
  refine r_ci w (r_runS (As := [.int ((d 0) + (fX1_stepQ (d 2)))]) (rest := []) X w (kX1_isOut l E ((d 0) + (fX1_stepQ (d 2))) ) ck_X5_40 ⟨Nat.le_of_ble_eq_true rfl, Nat.le_of_ble_eq_true rfl⟩ [] rfl (by decide +kernel) hl.1 (Nat.le_of_ble_eq_true rfl) rfl dX5_turnAtBank_27 ⟨Nat.le_of_ble_eq_true rfl, Nat.le_of_ble_eq_true rfl⟩) (wWk j d) [] rfl (by decide +kernel) rfl rfl (fun H locs w => ?_)
  refine lv_istore_n (lv' := [(3, .int (fX1_isOut ((d 0) + (fX1_stepQ (d 2))))), (2, .int ((d 1) + (fX1_stepR (d 2)))), (1, .int ((d 0) + (fX1_stepQ (d 2)))), (0, .ref j)]) hx hb dX5_turnAtBank_30 rfl hl (by decide) rfl (fun ls hl => ?_)
  refine lv_iload_n hx hb dX5_turnAtBank_31 rfl (lv_at hl 1 rfl) ?_
  refine r_ci w (r_runS (As := [.int ((d 1) + (fX1_stepR (d 2)))]) (rest := []) X w (kX1_isOut l E ((d 1) + (fX1_stepR (d 2))) ) ck_X5_40 ⟨Nat.le_of_ble_eq_true rfl, Nat.le_of_ble_eq_true rfl⟩ [] rfl (by decide +kernel) hl.1 (Nat.le_of_ble_eq_true rfl) rfl dX5_turnAtBank_32 ⟨Nat.le_of_ble_eq_true rfl, Nat.le_of_ble_eq_true rfl⟩) (wWk j d) [] rfl (by decide +kernel) rfl rfl (fun H locs w => ?_)
  refine lv_istore (lv' := [(4, .int (fX1_isOut ((d 1) + (fX1_stepR (d 2))))), (3, .int (fX1_isOut ((d 0) + (fX1_stepQ (d 2))))), (2, .int ((d 1) + (fX1_stepR (d 2)))), (1, .int ((d 0) + (fX1_stepQ (d 2)))), (0, .ref j)]) hx hb dX5_turnAtBank_35 hl (by decide) rfl (fun ls hl => ?_)
  refine lv_iload_n hx hb dX5_turnAtBank_37 rfl (lv_at hl 3 rfl) ?_
  refine lv_iload_n hx hb dX5_turnAtBank_38 rfl (lv_at hl 2 rfl) ?_
  refine lv_iadd hx hb dX5_turnAtBank_39 ?_
  refine r_ci w (r_runS (As := [.int (((d 0) + (fX1_stepQ (d 2))) + ((d 1) + (fX1_stepR (d 2))))]) (rest := []) X w (kX1_isOut l E (((d 0) + (fX1_stepQ (d 2))) + ((d 1) + (fX1_stepR (d 2)))) ) ck_X5_40 ⟨Nat.le_of_ble_eq_true rfl, Nat.le_of_ble_eq_true rfl⟩ [] rfl (by decide +kernel) hl.1 (Nat.le_of_ble_eq_true rfl) rfl dX5_turnAtBank_40 ⟨Nat.le_of_ble_eq_true rfl, Nat.le_of_ble_eq_true rfl⟩) (wWk j d) [] rfl (by decide +kernel) rfl rfl (fun H locs w => ?_)
  refine lv_istore (lv' := [(5, .int (fX1_isOut (((d 0) + (fX1_stepQ (d 2))) + ((d 1) + (fX1_stepR (d 2)))))), (4, .int (fX1_isOut ((d 1) + (fX1_stepR (d 2))))), (3, .int (fX1_isOut ((d 0) + (fX1_stepQ (d 2))))), (2, .int ((d 1) + (fX1_stepR (d 2)))), (1, .int ((d 0) + (fX1_stepQ (d 2)))), (0, .ref j)]) hx hb dX5_turnAtBank_43 hl (by decide) rfl (fun ls hl => ?_)
  refine lv_iload_n hx hb dX5_turnAtBank_45 rfl (lv_at hl 2 rfl) ?_
  refine lv_if_eq (tgt := 54) hx hb dX5_turnAtBank_46 (by decide) (fun c46_1 => ?_) (fun c46_1 => ?_)
  · refine lv_iload_n hx hb dX5_turnAtBank_54 rfl (lv_at hl 2 rfl) ?_
    refine lv_if_eq (tgt := 63) hx hb dX5_turnAtBank_55 (by decide) (fun _ => ?_) (fun h => absurd c46_1 h)
    refine lv_iload hx hb dX5_turnAtBank_63 (lv_at hl 1 rfl) ?_
    refine lv_if_eq (tgt := 77) hx hb dX5_turnAtBank_65 (by decide) (fun c65_2 => ?_) (fun c65_2 => ?_)
    · refine lv_iconst (v := 0) hx hb dX5_turnAtBank_77 (by decide) ?_
      refine lv_istore (lv' := [(6, .int 0), (5, .int (fX1_isOut (((d 0) + (fX1_stepQ (d 2))) + ((d 1) + (fX1_stepR (d 2)))))), (4, .int (fX1_isOut ((d 1) + (fX1_stepR (d 2))))), (3, .int (fX1_isOut ((d 0) + (fX1_stepQ (d 2))))), (2, .int ((d 1) + (fX1_stepR (d 2)))), (1, .int ((d 0) + (fX1_stepQ (d 2)))), (0, .ref j)]) hx hb dX5_turnAtBank_78 hl (by decide) rfl (fun ls hl => ?_)
      refine lv_iload hx hb dX5_turnAtBank_80 (lv_at hl 0 rfl) ?_
      refine lv_if_eq (tgt := 100) hx hb dX5_turnAtBank_82 (by decide) (fun _ => ?_) (fun h => absurd h (by decide))
      refine lv_iload_n hx hb dX5_turnAtBank_100 rfl (lv_at hl 3 rfl) ?_
      refine lv_if_eq (tgt := 108) hx hb dX5_turnAtBank_101 (by decide) (fun _ => ?_) (fun h => absurd c46_1 h)
      refine lv_iload hx hb dX5_turnAtBank_108 (lv_at hl 2 rfl) ?_
      refine lv_if_eq (tgt := 117) hx hb dX5_turnAtBank_110 (by decide) (fun _ => ?_) (fun h => absurd c65_2 h)
      refine lv_iconst (v := 1) hx hb dX5_turnAtBank_117 (by decide) ?_
      refine lv_istore (lv' := [(7, .int 1), (6, .int 0), (5, .int (fX1_isOut (((d 0) + (fX1_stepQ (d 2))) + ((d 1) + (fX1_stepR (d 2)))))), (4, .int (fX1_isOut ((d 1) + (fX1_stepR (d 2))))), (3, .int (fX1_isOut ((d 0) + (fX1_stepQ (d 2))))), (2, .int ((d 1) + (fX1_stepR (d 2)))), (1, .int ((d 0) + (fX1_stepQ (d 2)))), (0, .ref j)]) hx hb dX5_turnAtBank_118 hl (by decide) rfl (fun ls hl => ?_)
      refine lv_aload_n hx hb dX5_turnAtBank_120 rfl (lv_at hl 7 rfl) ?_
      refine lv_aload_n hx hb dX5_turnAtBank_121 rfl (lv_at hl 7 rfl) ?_
      refine r_get X w CL5 2 (by decide) wf_X5_27 0 rfl rfl dX5_turnAtBank_122 ?_
      refine lv_ineg hx hb dX5_turnAtBank_125 ?_
      refine lv_iconst (v := 2) hx hb dX5_turnAtBank_126 (by decide) ?_
      refine lv_iload hx hb dX5_turnAtBank_127 (lv_at hl 0 rfl) ?_
      refine lv_imul hx hb dX5_turnAtBank_129 ?_
      rw [show ((2 : Int32) * 1) = 2 from by decide]
      refine r_ci w (r_runS (As := [.int (-(d 2)), .int 2]) (rest := [.ref j]) X w (kX1_turned l E (-(d 2)) 2 ) ck_X5_44 ⟨Nat.le_of_ble_eq_true rfl, Nat.le_of_ble_eq_true rfl⟩ [] rfl (by decide +kernel) hl.1 (Nat.le_of_ble_eq_true rfl) rfl dX5_turnAtBank_130 ⟨Nat.le_of_ble_eq_true rfl, Nat.le_of_ble_eq_true rfl⟩) (wWk j d) [] rfl (by decide +kernel) rfl rfl (fun H locs w => ?_)
      refine r_put X w (wWk j (upd d 2 (fX1_turned (-(d 2)) 2))) CL5 2 (by decide) wf_X5_27 0 rfl rfl rfl rfl (Nat.le_of_ble_eq_true rfl) (ax_22 (E := E)) dX5_turnAtBank_133 (fun H locs w => ?_)
      have hq : fX5_turnAtBank d = (upd d 2 (fX1_turned (-(d 2)) 2)) := by simp only [fX5_turnAtBank, if_pos c46_1, if_pos c65_2]
      rw [hq]
      exact r_vret X w hr dX5_turnAtBank_136
    · refine lv_iload hx hb dX5_turnAtBank_68 (lv_at hl 0 rfl) ?_
      refine lv_if_eq (tgt := 77) hx hb dX5_turnAtBank_70 (by decide) (fun c70_3 => ?_) (fun c70_3 => ?_)
      · refine lv_iconst (v := 0) hx hb dX5_turnAtBank_77 (by decide) ?_
        refine lv_istore (lv' := [(6, .int 0), (5, .int (fX1_isOut (((d 0) + (fX1_stepQ (d 2))) + ((d 1) + (fX1_stepR (d 2)))))), (4, .int (fX1_isOut ((d 1) + (fX1_stepR (d 2))))), (3, .int (fX1_isOut ((d 0) + (fX1_stepQ (d 2))))), (2, .int ((d 1) + (fX1_stepR (d 2)))), (1, .int ((d 0) + (fX1_stepQ (d 2)))), (0, .ref j)]) hx hb dX5_turnAtBank_78 hl (by decide) rfl (fun ls hl => ?_)
        refine lv_iload hx hb dX5_turnAtBank_80 (lv_at hl 0 rfl) ?_
        refine lv_if_eq (tgt := 100) hx hb dX5_turnAtBank_82 (by decide) (fun _ => ?_) (fun h => absurd h (by decide))
        refine lv_iload_n hx hb dX5_turnAtBank_100 rfl (lv_at hl 3 rfl) ?_
        refine lv_if_eq (tgt := 108) hx hb dX5_turnAtBank_101 (by decide) (fun _ => ?_) (fun h => absurd c46_1 h)
        refine lv_iload hx hb dX5_turnAtBank_108 (lv_at hl 2 rfl) ?_
        refine lv_if_eq (tgt := 117) hx hb dX5_turnAtBank_110 (by decide) (fun h => absurd h c65_2) (fun _ => ?_)
        refine lv_iconst (v := 0) hx hb dX5_turnAtBank_113 (by decide) ?_
        refine lv_goto (tgt := 118) hx hb dX5_turnAtBank_114 (by decide) ?_
        refine lv_istore (lv' := [(7, .int 0), (6, .int 0), (5, .int (fX1_isOut (((d 0) + (fX1_stepQ (d 2))) + ((d 1) + (fX1_stepR (d 2)))))), (4, .int (fX1_isOut ((d 1) + (fX1_stepR (d 2))))), (3, .int (fX1_isOut ((d 0) + (fX1_stepQ (d 2))))), (2, .int ((d 1) + (fX1_stepR (d 2)))), (1, .int ((d 0) + (fX1_stepQ (d 2)))), (0, .ref j)]) hx hb dX5_turnAtBank_118 hl (by decide) rfl (fun ls hl => ?_)
        refine lv_aload_n hx hb dX5_turnAtBank_120 rfl (lv_at hl 7 rfl) ?_
        refine lv_aload_n hx hb dX5_turnAtBank_121 rfl (lv_at hl 7 rfl) ?_
        refine r_get X w CL5 2 (by decide) wf_X5_27 0 rfl rfl dX5_turnAtBank_122 ?_
        refine lv_ineg hx hb dX5_turnAtBank_125 ?_
        refine lv_iconst (v := 2) hx hb dX5_turnAtBank_126 (by decide) ?_
        refine lv_iload hx hb dX5_turnAtBank_127 (lv_at hl 0 rfl) ?_
        refine lv_imul hx hb dX5_turnAtBank_129 ?_
        rw [show ((2 : Int32) * 0) = 0 from by decide]
        refine r_ci w (r_runS (As := [.int (-(d 2)), .int 0]) (rest := [.ref j]) X w (kX1_turned l E (-(d 2)) 0 ) ck_X5_44 ⟨Nat.le_of_ble_eq_true rfl, Nat.le_of_ble_eq_true rfl⟩ [] rfl (by decide +kernel) hl.1 (Nat.le_of_ble_eq_true rfl) rfl dX5_turnAtBank_130 ⟨Nat.le_of_ble_eq_true rfl, Nat.le_of_ble_eq_true rfl⟩) (wWk j d) [] rfl (by decide +kernel) rfl rfl (fun H locs w => ?_)
        refine r_put X w (wWk j (upd d 2 (fX1_turned (-(d 2)) 0))) CL5 2 (by decide) wf_X5_27 0 rfl rfl rfl rfl (Nat.le_of_ble_eq_true rfl) (ax_22 (E := E)) dX5_turnAtBank_133 (fun H locs w => ?_)
        have hq : fX5_turnAtBank d = (upd d 2 (fX1_turned (-(d 2)) 0)) := by simp only [fX5_turnAtBank, if_pos c46_1, if_neg c65_2, if_pos c70_3]
        rw [hq]
        exact r_vret X w hr dX5_turnAtBank_136
      · refine lv_iconst (v := 1) hx hb dX5_turnAtBank_73 (by decide) ?_
        refine lv_goto (tgt := 78) hx hb dX5_turnAtBank_74 (by decide) ?_
        refine lv_istore (lv' := [(6, .int 1), (5, .int (fX1_isOut (((d 0) + (fX1_stepQ (d 2))) + ((d 1) + (fX1_stepR (d 2)))))), (4, .int (fX1_isOut ((d 1) + (fX1_stepR (d 2))))), (3, .int (fX1_isOut ((d 0) + (fX1_stepQ (d 2))))), (2, .int ((d 1) + (fX1_stepR (d 2)))), (1, .int ((d 0) + (fX1_stepQ (d 2)))), (0, .ref j)]) hx hb dX5_turnAtBank_78 hl (by decide) rfl (fun ls hl => ?_)
        refine lv_iload hx hb dX5_turnAtBank_80 (lv_at hl 0 rfl) ?_
        refine lv_if_eq (tgt := 100) hx hb dX5_turnAtBank_82 (by decide) (fun h => absurd h (by decide)) (fun _ => ?_)
        refine lv_aload_n hx hb dX5_turnAtBank_85 rfl (lv_at hl 6 rfl) ?_
        refine lv_aload_n hx hb dX5_turnAtBank_86 rfl (lv_at hl 6 rfl) ?_
        refine r_get X w CL5 2 (by decide) wf_X5_27 0 rfl rfl dX5_turnAtBank_87 ?_
        refine lv_iconst (v := 3) hx hb dX5_turnAtBank_90 (by decide) ?_
        refine r_ci w (r_runS (As := [.int (d 2), .int 3]) (rest := [.ref j]) X w (kX1_turned l E (d 2) 3 ) ck_X5_44 ⟨Nat.le_of_ble_eq_true rfl, Nat.le_of_ble_eq_true rfl⟩ [] rfl (by decide +kernel) hl.1 (Nat.le_of_ble_eq_true rfl) rfl dX5_turnAtBank_91 ⟨Nat.le_of_ble_eq_true rfl, Nat.le_of_ble_eq_true rfl⟩) (wWk j d) [] rfl (by decide +kernel) rfl rfl (fun H locs w => ?_)
        refine r_put X w (wWk j (upd d 2 (fX1_turned (d 2) 3))) CL5 2 (by decide) wf_X5_27 0 rfl rfl rfl rfl (Nat.le_of_ble_eq_true rfl) (ax_22 (E := E)) dX5_turnAtBank_94 (fun H locs w => ?_)
        refine lv_goto (tgt := 136) hx hb dX5_turnAtBank_97 (by decide) ?_
        have hq : fX5_turnAtBank d = (upd d 2 (fX1_turned (d 2) 3)) := by simp only [fX5_turnAtBank, if_pos c46_1, if_neg c65_2, if_neg c70_3]
        rw [hq]
        exact r_vret X w hr dX5_turnAtBank_136
  · refine lv_iload hx hb dX5_turnAtBank_49 (lv_at hl 1 rfl) ?_
    refine lv_if_ne (tgt := 73) hx hb dX5_turnAtBank_51 (by decide) (fun c51_4 => ?_) (fun c51_4 => ?_)
    · refine lv_iconst (v := 1) hx hb dX5_turnAtBank_73 (by decide) ?_
      refine lv_goto (tgt := 78) hx hb dX5_turnAtBank_74 (by decide) ?_
      refine lv_istore (lv' := [(6, .int 1), (5, .int (fX1_isOut (((d 0) + (fX1_stepQ (d 2))) + ((d 1) + (fX1_stepR (d 2)))))), (4, .int (fX1_isOut ((d 1) + (fX1_stepR (d 2))))), (3, .int (fX1_isOut ((d 0) + (fX1_stepQ (d 2))))), (2, .int ((d 1) + (fX1_stepR (d 2)))), (1, .int ((d 0) + (fX1_stepQ (d 2)))), (0, .ref j)]) hx hb dX5_turnAtBank_78 hl (by decide) rfl (fun ls hl => ?_)
      refine lv_iload hx hb dX5_turnAtBank_80 (lv_at hl 0 rfl) ?_
      refine lv_if_eq (tgt := 100) hx hb dX5_turnAtBank_82 (by decide) (fun h => absurd h (by decide)) (fun _ => ?_)
      refine lv_aload_n hx hb dX5_turnAtBank_85 rfl (lv_at hl 6 rfl) ?_
      refine lv_aload_n hx hb dX5_turnAtBank_86 rfl (lv_at hl 6 rfl) ?_
      refine r_get X w CL5 2 (by decide) wf_X5_27 0 rfl rfl dX5_turnAtBank_87 ?_
      refine lv_iconst (v := 3) hx hb dX5_turnAtBank_90 (by decide) ?_
      refine r_ci w (r_runS (As := [.int (d 2), .int 3]) (rest := [.ref j]) X w (kX1_turned l E (d 2) 3 ) ck_X5_44 ⟨Nat.le_of_ble_eq_true rfl, Nat.le_of_ble_eq_true rfl⟩ [] rfl (by decide +kernel) hl.1 (Nat.le_of_ble_eq_true rfl) rfl dX5_turnAtBank_91 ⟨Nat.le_of_ble_eq_true rfl, Nat.le_of_ble_eq_true rfl⟩) (wWk j d) [] rfl (by decide +kernel) rfl rfl (fun H locs w => ?_)
      refine r_put X w (wWk j (upd d 2 (fX1_turned (d 2) 3))) CL5 2 (by decide) wf_X5_27 0 rfl rfl rfl rfl (Nat.le_of_ble_eq_true rfl) (ax_22 (E := E)) dX5_turnAtBank_94 (fun H locs w => ?_)
      refine lv_goto (tgt := 136) hx hb dX5_turnAtBank_97 (by decide) ?_
      have hq : fX5_turnAtBank d = (upd d 2 (fX1_turned (d 2) 3)) := by simp only [fX5_turnAtBank, if_neg c46_1, if_neg c51_4]
      rw [hq]
      exact r_vret X w hr dX5_turnAtBank_136
    · refine lv_iload_n hx hb dX5_turnAtBank_54 rfl (lv_at hl 2 rfl) ?_
      refine lv_if_eq (tgt := 63) hx hb dX5_turnAtBank_55 (by decide) (fun h => absurd h c46_1) (fun _ => ?_)
      refine lv_iload hx hb dX5_turnAtBank_58 (lv_at hl 0 rfl) ?_
      refine lv_if_ne (tgt := 73) hx hb dX5_turnAtBank_60 (by decide) (fun c60_5 => ?_) (fun c60_5 => ?_)
      · refine lv_iconst (v := 1) hx hb dX5_turnAtBank_73 (by decide) ?_
        refine lv_goto (tgt := 78) hx hb dX5_turnAtBank_74 (by decide) ?_
        refine lv_istore (lv' := [(6, .int 1), (5, .int (fX1_isOut (((d 0) + (fX1_stepQ (d 2))) + ((d 1) + (fX1_stepR (d 2)))))), (4, .int (fX1_isOut ((d 1) + (fX1_stepR (d 2))))), (3, .int (fX1_isOut ((d 0) + (fX1_stepQ (d 2))))), (2, .int ((d 1) + (fX1_stepR (d 2)))), (1, .int ((d 0) + (fX1_stepQ (d 2)))), (0, .ref j)]) hx hb dX5_turnAtBank_78 hl (by decide) rfl (fun ls hl => ?_)
        refine lv_iload hx hb dX5_turnAtBank_80 (lv_at hl 0 rfl) ?_
        refine lv_if_eq (tgt := 100) hx hb dX5_turnAtBank_82 (by decide) (fun h => absurd h (by decide)) (fun _ => ?_)
        refine lv_aload_n hx hb dX5_turnAtBank_85 rfl (lv_at hl 6 rfl) ?_
        refine lv_aload_n hx hb dX5_turnAtBank_86 rfl (lv_at hl 6 rfl) ?_
        refine r_get X w CL5 2 (by decide) wf_X5_27 0 rfl rfl dX5_turnAtBank_87 ?_
        refine lv_iconst (v := 3) hx hb dX5_turnAtBank_90 (by decide) ?_
        refine r_ci w (r_runS (As := [.int (d 2), .int 3]) (rest := [.ref j]) X w (kX1_turned l E (d 2) 3 ) ck_X5_44 ⟨Nat.le_of_ble_eq_true rfl, Nat.le_of_ble_eq_true rfl⟩ [] rfl (by decide +kernel) hl.1 (Nat.le_of_ble_eq_true rfl) rfl dX5_turnAtBank_91 ⟨Nat.le_of_ble_eq_true rfl, Nat.le_of_ble_eq_true rfl⟩) (wWk j d) [] rfl (by decide +kernel) rfl rfl (fun H locs w => ?_)
        refine r_put X w (wWk j (upd d 2 (fX1_turned (d 2) 3))) CL5 2 (by decide) wf_X5_27 0 rfl rfl rfl rfl (Nat.le_of_ble_eq_true rfl) (ax_22 (E := E)) dX5_turnAtBank_94 (fun H locs w => ?_)
        refine lv_goto (tgt := 136) hx hb dX5_turnAtBank_97 (by decide) ?_
        have hq : fX5_turnAtBank d = (upd d 2 (fX1_turned (d 2) 3)) := by simp only [fX5_turnAtBank, if_neg c46_1, if_pos c51_4, if_neg c60_5]
        rw [hq]
        exact r_vret X w hr dX5_turnAtBank_136
      · refine lv_iload hx hb dX5_turnAtBank_63 (lv_at hl 1 rfl) ?_
        refine lv_if_eq (tgt := 77) hx hb dX5_turnAtBank_65 (by decide) (fun _ => ?_) (fun h => absurd c51_4 h)
        refine lv_iconst (v := 0) hx hb dX5_turnAtBank_77 (by decide) ?_
        refine lv_istore (lv' := [(6, .int 0), (5, .int (fX1_isOut (((d 0) + (fX1_stepQ (d 2))) + ((d 1) + (fX1_stepR (d 2)))))), (4, .int (fX1_isOut ((d 1) + (fX1_stepR (d 2))))), (3, .int (fX1_isOut ((d 0) + (fX1_stepQ (d 2))))), (2, .int ((d 1) + (fX1_stepR (d 2)))), (1, .int ((d 0) + (fX1_stepQ (d 2)))), (0, .ref j)]) hx hb dX5_turnAtBank_78 hl (by decide) rfl (fun ls hl => ?_)
        refine lv_iload hx hb dX5_turnAtBank_80 (lv_at hl 0 rfl) ?_
        refine lv_if_eq (tgt := 100) hx hb dX5_turnAtBank_82 (by decide) (fun _ => ?_) (fun h => absurd h (by decide))
        refine lv_iload_n hx hb dX5_turnAtBank_100 rfl (lv_at hl 3 rfl) ?_
        refine lv_if_eq (tgt := 108) hx hb dX5_turnAtBank_101 (by decide) (fun h => absurd h c46_1) (fun _ => ?_)
        refine lv_iconst (v := 2) hx hb dX5_turnAtBank_104 (by decide) ?_
        refine lv_goto (tgt := 118) hx hb dX5_turnAtBank_105 (by decide) ?_
        refine lv_istore (lv' := [(7, .int 2), (6, .int 0), (5, .int (fX1_isOut (((d 0) + (fX1_stepQ (d 2))) + ((d 1) + (fX1_stepR (d 2)))))), (4, .int (fX1_isOut ((d 1) + (fX1_stepR (d 2))))), (3, .int (fX1_isOut ((d 0) + (fX1_stepQ (d 2))))), (2, .int ((d 1) + (fX1_stepR (d 2)))), (1, .int ((d 0) + (fX1_stepQ (d 2)))), (0, .ref j)]) hx hb dX5_turnAtBank_118 hl (by decide) rfl (fun ls hl => ?_)
        refine lv_aload_n hx hb dX5_turnAtBank_120 rfl (lv_at hl 7 rfl) ?_
        refine lv_aload_n hx hb dX5_turnAtBank_121 rfl (lv_at hl 7 rfl) ?_
        refine r_get X w CL5 2 (by decide) wf_X5_27 0 rfl rfl dX5_turnAtBank_122 ?_
        refine lv_ineg hx hb dX5_turnAtBank_125 ?_
        refine lv_iconst (v := 2) hx hb dX5_turnAtBank_126 (by decide) ?_
        refine lv_iload hx hb dX5_turnAtBank_127 (lv_at hl 0 rfl) ?_
        refine lv_imul hx hb dX5_turnAtBank_129 ?_
        rw [show ((2 : Int32) * 2) = 4 from by decide]
        refine r_ci w (r_runS (As := [.int (-(d 2)), .int 4]) (rest := [.ref j]) X w (kX1_turned l E (-(d 2)) 4 ) ck_X5_44 ⟨Nat.le_of_ble_eq_true rfl, Nat.le_of_ble_eq_true rfl⟩ [] rfl (by decide +kernel) hl.1 (Nat.le_of_ble_eq_true rfl) rfl dX5_turnAtBank_130 ⟨Nat.le_of_ble_eq_true rfl, Nat.le_of_ble_eq_true rfl⟩) (wWk j d) [] rfl (by decide +kernel) rfl rfl (fun H locs w => ?_)
        refine r_put X w (wWk j (upd d 2 (fX1_turned (-(d 2)) 4))) CL5 2 (by decide) wf_X5_27 0 rfl rfl rfl rfl (Nat.le_of_ble_eq_true rfl) (ax_22 (E := E)) dX5_turnAtBank_133 (fun H locs w => ?_)
        have hq : fX5_turnAtBank d = (upd d 2 (fX1_turned (-(d 2)) 4)) := by simp only [fX5_turnAtBank, if_neg c46_1, if_pos c51_4, if_pos c60_5]
        rw [hq]
        exact r_vret X w hr dX5_turnAtBank_136
def fX5_turnOnIfOpen (d : N1) : N1 := if (fX1_cellAt ((d 0) + (fX1_stepQ (fX1_turned (d 2) 1))) ((d 1) + (fX1_stepR (fX1_turned (d 2) 1)))) = (-5) then ((d)) else ((upd d 2 (fX1_turned (d 2) 1)))
theorem dX5_turnOnIfOpen_0 : decode cX5_turnOnIfOpen 0 = .ok (.aload_n 0, 1) := by decide +kernel
theorem dX5_turnOnIfOpen_1 : decode cX5_turnOnIfOpen 1 = .ok (.getfield 27, 3) := by decide +kernel
theorem dX5_turnOnIfOpen_4 : decode cX5_turnOnIfOpen 4 = .ok (.iconst 1, 1) := by decide +kernel
theorem dX5_turnOnIfOpen_5 : decode cX5_turnOnIfOpen 5 = .ok (.invokestatic 44, 3) := by decide +kernel
theorem dX5_turnOnIfOpen_8 : decode cX5_turnOnIfOpen 8 = .ok (.istore_n 1, 1) := by decide +kernel
theorem dX5_turnOnIfOpen_9 : decode cX5_turnOnIfOpen 9 = .ok (.aload_n 0, 1) := by decide +kernel
theorem dX5_turnOnIfOpen_10 : decode cX5_turnOnIfOpen 10 = .ok (.getfield 15, 3) := by decide +kernel
theorem dX5_turnOnIfOpen_13 : decode cX5_turnOnIfOpen 13 = .ok (.iload_n 1, 1) := by decide +kernel
theorem dX5_turnOnIfOpen_14 : decode cX5_turnOnIfOpen 14 = .ok (.invokestatic 30, 3) := by decide +kernel
theorem dX5_turnOnIfOpen_17 : decode cX5_turnOnIfOpen 17 = .ok (.iadd, 1) := by decide +kernel
theorem dX5_turnOnIfOpen_18 : decode cX5_turnOnIfOpen 18 = .ok (.aload_n 0, 1) := by decide +kernel
theorem dX5_turnOnIfOpen_19 : decode cX5_turnOnIfOpen 19 = .ok (.getfield 24, 3) := by decide +kernel
theorem dX5_turnOnIfOpen_22 : decode cX5_turnOnIfOpen 22 = .ok (.iload_n 1, 1) := by decide +kernel
theorem dX5_turnOnIfOpen_23 : decode cX5_turnOnIfOpen 23 = .ok (.invokestatic 33, 3) := by decide +kernel
theorem dX5_turnOnIfOpen_26 : decode cX5_turnOnIfOpen 26 = .ok (.iadd, 1) := by decide +kernel
theorem dX5_turnOnIfOpen_27 : decode cX5_turnOnIfOpen 27 = .ok (.invokestatic 36, 3) := by decide +kernel
theorem dX5_turnOnIfOpen_30 : decode cX5_turnOnIfOpen 30 = .ok (.bipush (-5), 2) := by decide +kernel
theorem dX5_turnOnIfOpen_32 : decode cX5_turnOnIfOpen 32 = .ok (.if_icmp .eq 8, 3) := by decide +kernel
theorem dX5_turnOnIfOpen_35 : decode cX5_turnOnIfOpen 35 = .ok (.aload_n 0, 1) := by decide +kernel
theorem dX5_turnOnIfOpen_36 : decode cX5_turnOnIfOpen 36 = .ok (.iload_n 1, 1) := by decide +kernel
theorem dX5_turnOnIfOpen_37 : decode cX5_turnOnIfOpen 37 = .ok (.putfield 27, 3) := by decide +kernel
theorem dX5_turnOnIfOpen_40 : decode cX5_turnOnIfOpen 40 = .ok (.return_, 1) := by decide +kernel
set_option maxHeartbeats 4000000 in
set_option maxRecDepth 100000 in
theorem kX5_turnOnIfOpen (l : Launch) (E : Ev) (j : Nat) (d : N1) : KQ l yX5_turnOnIfOpen cX5_turnOnIfOpen 2 none 2 43 E [.ref j] (wWk j d) (QV E (wWk j d) (wWk j (fX5_turnOnIfOpen d))) := by
  refine KQ.mk RX5 rfl (by decide +kernel) (Nat.le_of_ble_eq_true rfl) ?_
  intro p e s m below meth c ls X hr w hl
  have hx := X.1
  have hb := X.2.1
  have hl : lv_has ls 2 [(0, .ref j)] := hl
  refine lv_aload_n hx hb dX5_turnOnIfOpen_0 rfl (lv_at hl 0 rfl) ?_
  refine r_get X w CL5 2 (by decide) wf_X5_27 0 rfl rfl dX5_turnOnIfOpen_1 ?_
  refine lv_iconst (v := 1) hx hb dX5_turnOnIfOpen_4 (by decide) ?_
  refine r_ci w (r_runS (As := [.int (d 2), .int 1]) (rest := []) X w (kX1_turned l E (d 2) 1 ) ck_X5_44 ⟨Nat.le_of_ble_eq_true rfl, Nat.le_of_ble_eq_true rfl⟩ [] rfl (by decide +kernel) hl.1 (Nat.le_of_ble_eq_true rfl) rfl dX5_turnOnIfOpen_5 ⟨Nat.le_of_ble_eq_true rfl, Nat.le_of_ble_eq_true rfl⟩) (wWk j d) [] rfl (by decide +kernel) rfl rfl (fun H locs w => ?_)
  refine lv_istore_n (lv' := [(1, .int (fX1_turned (d 2) 1)), (0, .ref j)]) hx hb dX5_turnOnIfOpen_8 rfl hl (by decide) rfl (fun ls hl => ?_)
  refine lv_aload_n hx hb dX5_turnOnIfOpen_9 rfl (lv_at hl 1 rfl) ?_
  refine r_get X w CL5 0 (by decide) wf_X5_15 0 rfl rfl dX5_turnOnIfOpen_10 ?_
  refine lv_iload_n hx hb dX5_turnOnIfOpen_13 rfl (lv_at hl 0 rfl) ?_
  refine r_ci w (r_runS (As := [.int (fX1_turned (d 2) 1)]) (rest := [.int (d 0)]) X w (kX1_stepQ l E (fX1_turned (d 2) 1) ) ck_X5_30 ⟨Nat.le_of_ble_eq_true rfl, Nat.le_of_ble_eq_true rfl⟩ [] rfl (by decide +kernel) hl.1 (Nat.le_of_ble_eq_true rfl) rfl dX5_turnOnIfOpen_14 ⟨Nat.le_of_ble_eq_true rfl, Nat.le_of_ble_eq_true rfl⟩) (wWk j d) [] rfl (by decide +kernel) rfl rfl (fun H locs w => ?_)
  refine lv_iadd hx hb dX5_turnOnIfOpen_17 ?_
  refine lv_aload_n hx hb dX5_turnOnIfOpen_18 rfl (lv_at hl 1 rfl) ?_
  refine r_get X w CL5 1 (by decide) wf_X5_24 0 rfl rfl dX5_turnOnIfOpen_19 ?_
  refine lv_iload_n hx hb dX5_turnOnIfOpen_22 rfl (lv_at hl 0 rfl) ?_
  refine r_ci w (r_runS (As := [.int (fX1_turned (d 2) 1)]) (rest := [.int (d 1), .int ((d 0) + (fX1_stepQ (fX1_turned (d 2) 1)))]) X w (kX1_stepR l E (fX1_turned (d 2) 1) ) ck_X5_33 ⟨Nat.le_of_ble_eq_true rfl, Nat.le_of_ble_eq_true rfl⟩ [] rfl (by decide +kernel) hl.1 (Nat.le_of_ble_eq_true rfl) rfl dX5_turnOnIfOpen_23 ⟨Nat.le_of_ble_eq_true rfl, Nat.le_of_ble_eq_true rfl⟩) (wWk j d) [] rfl (by decide +kernel) rfl rfl (fun H locs w => ?_)
  refine lv_iadd hx hb dX5_turnOnIfOpen_26 ?_
  refine r_ci w (r_runS (As := [.int ((d 0) + (fX1_stepQ (fX1_turned (d 2) 1))), .int ((d 1) + (fX1_stepR (fX1_turned (d 2) 1)))]) (rest := []) X w (kX1_cellAt l E ((d 0) + (fX1_stepQ (fX1_turned (d 2) 1))) ((d 1) + (fX1_stepR (fX1_turned (d 2) 1))) ) ck_X5_36 ⟨Nat.le_of_ble_eq_true rfl, Nat.le_of_ble_eq_true rfl⟩ [] rfl (by decide +kernel) hl.1 (Nat.le_of_ble_eq_true rfl) rfl dX5_turnOnIfOpen_27 ⟨Nat.le_of_ble_eq_true rfl, Nat.le_of_ble_eq_true rfl⟩) (wWk j d) [] rfl (by decide +kernel) rfl rfl (fun H locs w => ?_)
  refine lv_bipush (v := (-5)) hx hb dX5_turnOnIfOpen_30 (by decide) ?_
  refine lv_icmp_eq (tgt := 40) hx hb dX5_turnOnIfOpen_32 (by decide) (fun c32_1 => ?_) (fun c32_1 => ?_)
  · have hq : fX5_turnOnIfOpen d = (d) := by simp only [fX5_turnOnIfOpen, if_pos c32_1]
    rw [hq]
    exact r_vret X w hr dX5_turnOnIfOpen_40
  · refine lv_aload_n hx hb dX5_turnOnIfOpen_35 rfl (lv_at hl 1 rfl) ?_
    refine lv_iload_n hx hb dX5_turnOnIfOpen_36 rfl (lv_at hl 0 rfl) ?_
    refine r_put X w (wWk j (upd d 2 (fX1_turned (d 2) 1))) CL5 2 (by decide) wf_X5_27 0 rfl rfl rfl rfl (Nat.le_of_ble_eq_true rfl) (ax_22 (E := E)) dX5_turnOnIfOpen_37 (fun H locs w => ?_)
    have hq : fX5_turnOnIfOpen d = (upd d 2 (fX1_turned (d 2) 1)) := by simp only [fX5_turnOnIfOpen, if_neg c32_1]
    rw [hq]
    exact r_vret X w hr dX5_turnOnIfOpen_40
/-- some steps, banks turned at -/
def wkN (d : N1) : Nat → N1
  | 0 => d
  | k + 1 => if fX5_cellAhead (wkN d k) = (-5) then fX5_stepAhead (fX5_turnAtBank (wkN d k)) else fX5_stepAhead (wkN d k)
def fX5_walk (d : N1) (N : Nat) : N1 := wkN d N
theorem dX5_walk_0 : decode cX5_walk 0 = .ok (.iconst 0, 1) := by decide +kernel
theorem dX5_walk_1 : decode cX5_walk 1 = .ok (.istore_n 2, 1) := by decide +kernel
theorem dX5_walk_2 : decode cX5_walk 2 = .ok (.iload_n 2, 1) := by decide +kernel
theorem dX5_walk_3 : decode cX5_walk 3 = .ok (.iload_n 1, 1) := by decide +kernel
theorem dX5_walk_4 : decode cX5_walk 4 = .ok (.if_icmp .ge 26, 3) := by decide +kernel
theorem dX5_walk_7 : decode cX5_walk 7 = .ok (.aload_n 0, 1) := by decide +kernel
theorem dX5_walk_8 : decode cX5_walk 8 = .ok (.invokevirtual 47, 3) := by decide +kernel
theorem dX5_walk_11 : decode cX5_walk 11 = .ok (.bipush (-5), 2) := by decide +kernel
theorem dX5_walk_13 : decode cX5_walk 13 = .ok (.if_icmp .ne 7, 3) := by decide +kernel
theorem dX5_walk_16 : decode cX5_walk 16 = .ok (.aload_n 0, 1) := by decide +kernel
theorem dX5_walk_17 : decode cX5_walk 17 = .ok (.invokevirtual 51, 3) := by decide +kernel
theorem dX5_walk_20 : decode cX5_walk 20 = .ok (.aload_n 0, 1) := by decide +kernel
theorem dX5_walk_21 : decode cX5_walk 21 = .ok (.invokevirtual 54, 3) := by decide +kernel
theorem dX5_walk_24 : decode cX5_walk 24 = .ok (.iinc 2 1, 3) := by decide +kernel
theorem dX5_walk_27 : decode cX5_walk 27 = .ok (.goto (-25), 3) := by decide +kernel
theorem dX5_walk_30 : decode cX5_walk 30 = .ok (.return_, 1) := by decide +kernel
theorem ck_X5_47 : CkV RX5 47 RX5 yX5_cellAhead cX5_cellAhead 1 (some .int) 0 := ⟨wm_X5_47, wim_yX5_cellAhead, wse_yX5_cellAhead, wi_X5, wc_yX5_cellAhead, by decide +kernel⟩
theorem ck_X5_51 : CkV RX5 51 RX5 yX5_turnAtBank cX5_turnAtBank 8 none 0 := ⟨wm_X5_51, wim_yX5_turnAtBank, wse_yX5_turnAtBank, wi_X5, wc_yX5_turnAtBank, by decide +kernel⟩
theorem ck_X5_54 : CkV RX5 54 RX5 yX5_stepAhead cX5_stepAhead 1 none 0 := ⟨wm_X5_54, wim_yX5_stepAhead, wse_yX5_stepAhead, wi_X5, wc_yX5_stepAhead, by decide +kernel⟩
theorem hc_23 {E : Ev} {a0 : Nat} {σ0 : N1} : ([0] : List Nat).map (fun i => (wWk a0 σ0)[i]?) = (wWk a0 σ0).map some := rfl
theorem ha_23 {E : Ev} {a0 : Nat} {σ0 : N1} {τ0_0 : N1} : (wWk a0 τ0_0).map Prod.fst = (wWk a0 σ0).map Prod.fst := rfl
theorem hw_23 {E : Ev} {a0 : Nat} {σ0 : N1} {τ0_0 : N1} : wput (wWk a0 σ0) [0] (wWk a0 τ0_0) = wWk a0 τ0_0 := rfl
set_option maxHeartbeats 4000000 in
set_option maxRecDepth 100000 in
theorem kX5_walk (l : Launch) (E : Ev) (j : Nat) (d : N1) (N : Nat) (hN : N < 2 ^ 31) : KQ l yX5_walk cX5_walk 3 none 3 70 E [.ref j, .int (nI N)] (wWk j d) (QV E (wWk j d) (wWk j (fX5_walk d N))) := by
  refine KQ.mk RX5 rfl (by decide +kernel) (Nat.le_of_ble_eq_true rfl) ?_
  intro p e s m below meth c ls X hr w hl
  have hx := X.1
  have hb := X.2.1
  have hl : lv_has ls 3 [(0, .ref j), (1, .int (nI N))] := hl
  refine lv_iconst (v := 0) hx hb dX5_walk_0 (by decide) ?_
  refine lv_istore_n (lv' := [(2, .int 0), (0, .ref j), (1, .int (nI N))]) hx hb dX5_walk_1 rfl hl (by decide) rfl (fun ls hl => ?_)
  have loop : ∀ (n k : Nat), k + n = N → ∀ (H : Heap) (locs : List Loc), Wd E (hB (wWk j d)) s (wWk j (wkN d k)) H locs → ∀ (ls : Array Slot), lv_has ls 3 [(2, .int (nI k)), (0, .ref j), (1, .int (nI N))] → W p l e { frames := 3, cells := 0, slots := 0, locals := 70 } s m (([.ref j, .int (nI N)] : List Value)).toArray below meth c H locs 0 0 (MQ below (QV E (wWk j d) (wWk j (fX5_walk d N))) (([.ref j, .int (nI N)] : List Value)).toArray s 0 0 (hB (wWk j d))) (F0 m 2 ls []) := by
    intro n
    induction n with
    | zero =>
      intro k hk_k H locs w ls hl
      obtain rfl : N = k := by omega
      refine lv_iload_n hx hb dX5_walk_2 rfl (lv_at hl 0 rfl) ?_
      refine lv_iload_n hx hb dX5_walk_3 rfl (lv_at hl 2 rfl) ?_
      refine lv_icmp_ge (tgt := 30) hx hb dX5_walk_4 (by decide) (fun _ => ?_) (fun h => absurd (nI_le (Nat.le_refl N) hN) h)
      have hq : fX5_walk d N = (wkN d N) := rfl
      rw [hq]
      exact r_vret X w hr dX5_walk_30
    | succ n ih =>
      intro k hk_k H locs w ls hl
      have hkN : k < N := by omega
      refine lv_iload_n hx hb dX5_walk_2 rfl (lv_at hl 0 rfl) ?_
      refine lv_iload_n hx hb dX5_walk_3 rfl (lv_at hl 2 rfl) ?_
      refine lv_icmp_ge (tgt := 30) hx hb dX5_walk_4 (by decide) (fun h => absurd h (nI_ge hkN hN)) (fun _ => ?_)
      refine lv_aload_n hx hb dX5_walk_7 rfl (lv_at hl 1 rfl) ?_
      refine r_ci w (r_runV (As := []) (rest := []) X w (kX5_cellAhead l E j (wkN d k) ) ck_X5_47 ⟨Nat.le_of_ble_eq_true rfl, Nat.le_of_ble_eq_true rfl⟩ [0] (hc_23 (E := E)) (by decide +kernel) (k0 := 0) CL5 rfl hl.1 (Nat.le_of_ble_eq_true rfl) rfl dX5_walk_8 ⟨Nat.le_of_ble_eq_true rfl, Nat.le_of_ble_eq_true rfl⟩) (wWk j (wkN d k)) [0] (hc_23 (E := E)) (by decide +kernel) (ha_23 (E := E)) (hw_23 (E := E)) (fun H locs w => ?_)
      refine lv_bipush (v := (-5)) hx hb dX5_walk_11 (by decide) ?_
      refine lv_icmp_ne (tgt := 20) hx hb dX5_walk_13 (by decide) (fun c13_3 => ?_) (fun c13_3 => ?_)
      · refine lv_aload_n hx hb dX5_walk_20 rfl (lv_at hl 1 rfl) ?_
        refine r_cv w (r_runV (As := []) (rest := []) X w (kX5_stepAhead l E j (wkN d k) ) ck_X5_54 ⟨Nat.le_of_ble_eq_true rfl, Nat.le_of_ble_eq_true rfl⟩ [0] (hc_23 (E := E)) (by decide +kernel) (k0 := 0) CL5 rfl hl.1 (Nat.le_of_ble_eq_true rfl) rfl dX5_walk_21 ⟨Nat.le_of_ble_eq_true rfl, Nat.le_of_ble_eq_true rfl⟩) (wWk j (fX5_stepAhead (wkN d k))) [0] (hc_23 (E := E)) (by decide +kernel) (ha_23 (E := E)) (hw_23 (E := E)) (fun H locs w => ?_)
        refine lv_iinc (v := (nI k) + 1) (lv' := [(2, .int ((nI k) + 1)), (0, .ref j), (1, .int (nI N))]) hx hb dX5_walk_24 hl (k := 0) rfl (by first | rfl | decide) (by decide) rfl (fun ls hl => ?_)
        refine lv_goto (tgt := 2) hx hb dX5_walk_27 (by decide) ?_
        have e0 : nI k + 1 = nI (k + 1) := nI_1 k
        rw [e0] at hl
        have e1 : (fX5_stepAhead (wkN d k)) = wkN d (k + 1) := by rw [wkN, if_neg c13_3]
        rw [e1] at w
        exact ih (k + 1) (by omega) _ _ w ls (lv_sub hl [0, 1, 2] rfl)
      · refine lv_aload_n hx hb dX5_walk_16 rfl (lv_at hl 1 rfl) ?_
        refine r_cv w (r_runV (As := []) (rest := []) X w (kX5_turnAtBank l E j (wkN d k) ) ck_X5_51 ⟨Nat.le_of_ble_eq_true rfl, Nat.le_of_ble_eq_true rfl⟩ [0] (hc_23 (E := E)) (by decide +kernel) (k0 := 0) CL5 rfl hl.1 (Nat.le_of_ble_eq_true rfl) rfl dX5_walk_17 ⟨Nat.le_of_ble_eq_true rfl, Nat.le_of_ble_eq_true rfl⟩) (wWk j (fX5_turnAtBank (wkN d k))) [0] (hc_23 (E := E)) (by decide +kernel) (ha_23 (E := E)) (hw_23 (E := E)) (fun H locs w => ?_)
        refine lv_aload_n hx hb dX5_walk_20 rfl (lv_at hl 1 rfl) ?_
        refine r_cv w (r_runV (As := []) (rest := []) X w (kX5_stepAhead l E j (fX5_turnAtBank (wkN d k)) ) ck_X5_54 ⟨Nat.le_of_ble_eq_true rfl, Nat.le_of_ble_eq_true rfl⟩ [0] (hc_23 (E := E)) (by decide +kernel) (k0 := 0) CL5 rfl hl.1 (Nat.le_of_ble_eq_true rfl) rfl dX5_walk_21 ⟨Nat.le_of_ble_eq_true rfl, Nat.le_of_ble_eq_true rfl⟩) (wWk j (fX5_stepAhead (fX5_turnAtBank (wkN d k)))) [0] (hc_23 (E := E)) (by decide +kernel) (ha_23 (E := E)) (hw_23 (E := E)) (fun H locs w => ?_)
        refine lv_iinc (v := (nI k) + 1) (lv' := [(2, .int ((nI k) + 1)), (0, .ref j), (1, .int (nI N))]) hx hb dX5_walk_24 hl (k := 0) rfl (by first | rfl | decide) (by decide) rfl (fun ls hl => ?_)
        refine lv_goto (tgt := 2) hx hb dX5_walk_27 (by decide) ?_
        have e0 : nI k + 1 = nI (k + 1) := nI_1 k
        rw [e0] at hl
        have e1 : (fX5_stepAhead (fX5_turnAtBank (wkN d k))) = wkN d (k + 1) := by rw [wkN, if_pos c13_3]
        rw [e1] at w
        exact ih (k + 1) (by omega) _ _ w ls (lv_sub hl [0, 1, 2] rfl)
  exact loop N 0 (by omega) _ _ w ls (lv_sub hl [0, 1, 2] rfl)
def fX0_append (t : N2) (ch : Int32) : Int32 × N2 := if (t 3 0) < 0 then ((0, t)) else (if (t 3 0) < 60 then ((1, u2 (u2 t 0 (t 3 0).toNatClampNeg ch) 3 0 (((u2 t 0 (t 3 0).toNatClampNeg ch) 3 0) + 1))) else ((0, t)))
theorem dX0_append_0 : decode cX0_append 0 = .ok (.aload_n 0, 1) := by decide +kernel
theorem dX0_append_1 : decode cX0_append 1 = .ok (.getfield 22, 3) := by decide +kernel
theorem dX0_append_4 : decode cX0_append 4 = .ok (.ifCond .lt 12, 3) := by decide +kernel
theorem dX0_append_7 : decode cX0_append 7 = .ok (.aload_n 0, 1) := by decide +kernel
theorem dX0_append_8 : decode cX0_append 8 = .ok (.getfield 22, 3) := by decide +kernel
theorem dX0_append_11 : decode cX0_append 11 = .ok (.bipush 60, 2) := by decide +kernel
theorem dX0_append_13 : decode cX0_append 13 = .ok (.if_icmp .lt 5, 3) := by decide +kernel
theorem dX0_append_16 : decode cX0_append 16 = .ok (.iconst 0, 1) := by decide +kernel
theorem dX0_append_17 : decode cX0_append 17 = .ok (.ireturn, 1) := by decide +kernel
theorem dX0_append_18 : decode cX0_append 18 = .ok (.aload_n 0, 1) := by decide +kernel
theorem dX0_append_19 : decode cX0_append 19 = .ok (.getfield 11, 3) := by decide +kernel
theorem dX0_append_22 : decode cX0_append 22 = .ok (.aload_n 0, 1) := by decide +kernel
theorem dX0_append_23 : decode cX0_append 23 = .ok (.getfield 22, 3) := by decide +kernel
theorem dX0_append_26 : decode cX0_append 26 = .ok (.iload_n 1, 1) := by decide +kernel
theorem dX0_append_27 : decode cX0_append 27 = .ok (.castore, 1) := by decide +kernel
theorem dX0_append_28 : decode cX0_append 28 = .ok (.aload_n 0, 1) := by decide +kernel
theorem dX0_append_29 : decode cX0_append 29 = .ok (.dup, 1) := by decide +kernel
theorem dX0_append_30 : decode cX0_append 30 = .ok (.getfield 22, 3) := by decide +kernel
theorem dX0_append_33 : decode cX0_append 33 = .ok (.iconst 1, 1) := by decide +kernel
theorem dX0_append_34 : decode cX0_append 34 = .ok (.iadd, 1) := by decide +kernel
theorem dX0_append_35 : decode cX0_append 35 = .ok (.putfield 22, 3) := by decide +kernel
theorem dX0_append_38 : decode cX0_append 38 = .ok (.iconst 1, 1) := by decide +kernel
theorem dX0_append_39 : decode cX0_append 39 = .ok (.ireturn, 1) := by decide +kernel
theorem ax_24 {E : Ev} {a0 : Nat → Nat} {σ0 : N2} {i x : Int32} : (wTx E a0 σ0).set 1 (a0 1, .inl (E.2.1.2.1, 60, .inl (upd (σ0 0) i.toNatClampNeg x))) = wTx E a0 (u2 σ0 0 i.toNatClampNeg x) := rfl
theorem ax_25 {E : Ev} {a0 : Nat → Nat} {σ0 : N2} {x : Int32} : (wTx E a0 σ0).set 0 (a0 0, .inr (0, ([.ref (a0 1), .int (σ0 3 0), .ref (a0 2), .ref (a0 3), .int (σ0 3 1), .int (σ0 3 2), .int (σ0 3 3)] : List Value).set 1 (.int x))) = wTx E a0 (u2 σ0 3 0 x) := rfl
set_option maxHeartbeats 4000000 in
set_option maxRecDepth 100000 in
theorem kX0_append (l : Launch) (E : Ev) (a : Nat → Nat) (t : N2) (ch : Int32) (hc : vp_nar .char ch = ch) : KQ l yX0_append cX0_append 2 (some .boolean) 0 0 E [.ref (a 0), .int ch] (wTx E a t) (QI E (wTx E a t) (fX0_append t ch).1 (wTx E a ((fX0_append t ch).2))) := by
  refine KQ.mk RX0 rfl (by decide +kernel) (Nat.le_of_ble_eq_true rfl) ?_
  intro p e s m below meth c ls X hr w hl
  have hx := X.1
  have hb := X.2.1
  have hl : lv_has ls 2 [(0, .ref (a 0)), (1, .int ch)] := hl
  refine lv_aload_n hx hb dX0_append_0 rfl (lv_at hl 0 rfl) ?_
  refine r_get X w CL0 1 (by decide) wf_X0_22 0 rfl rfl dX0_append_1 ?_
  refine lv_if_lt (tgt := 16) hx hb dX0_append_4 (by decide) (fun c4_1 => ?_) (fun c4_1 => ?_)
  · refine lv_iconst (v := 0) hx hb dX0_append_16 (by decide) ?_
    have hq : fX0_append t ch = (0, t) := by simp only [fX0_append, if_pos c4_1]
    obtain ⟨h0_, h1_⟩ := tup2 hq
    rw [h0_, h1_]
    exact r_zret X w hr (Or.inl rfl) rfl dX0_append_17
  · refine lv_aload_n hx hb dX0_append_7 rfl (lv_at hl 0 rfl) ?_
    refine r_get X w CL0 1 (by decide) wf_X0_22 0 rfl rfl dX0_append_8 ?_
    refine lv_bipush (v := 60) hx hb dX0_append_11 (by decide) ?_
    refine lv_icmp_lt (tgt := 18) hx hb dX0_append_13 (by decide) (fun c13_2 => ?_) (fun c13_2 => ?_)
    · refine lv_aload_n hx hb dX0_append_18 rfl (lv_at hl 0 rfl) ?_
      refine r_get X w CL0 0 (by decide) wf_X0_11 0 rfl rfl dX0_append_19 ?_
      refine lv_aload_n hx hb dX0_append_22 rfl (lv_at hl 0 rfl) ?_
      refine r_get X w CL0 1 (by decide) wf_X0_22 0 rfl rfl dX0_append_23 ?_
      refine lv_iload_n hx hb dX0_append_26 rfl (lv_at hl 1 rfl) ?_
      refine r_cast X w (wTx E a (u2 t 0 (t 3 0).toNatClampNeg ch)) 1 rfl (vin_lt 60 rfl c4_1 c13_2) hc (ax_24 (E := E)) dX0_append_27 (fun H locs w => ?_)
      refine lv_aload_n hx hb dX0_append_28 rfl (lv_at hl 0 rfl) ?_
      refine lv_dup hx hb dX0_append_29 rfl ?_
      refine r_get X w CL0 1 (by decide) wf_X0_22 0 rfl rfl dX0_append_30 ?_
      refine lv_iconst (v := 1) hx hb dX0_append_33 (by decide) ?_
      refine lv_iadd hx hb dX0_append_34 ?_
      refine r_put X w (wTx E a (u2 (u2 t 0 (t 3 0).toNatClampNeg ch) 3 0 (((u2 t 0 (t 3 0).toNatClampNeg ch) 3 0) + 1))) CL0 1 (by decide) wf_X0_22 0 rfl rfl rfl rfl (Nat.le_of_ble_eq_true rfl) (ax_25 (E := E)) dX0_append_35 (fun H locs w => ?_)
      refine lv_iconst (v := 1) hx hb dX0_append_38 (by decide) ?_
      have hq : fX0_append t ch = (1, u2 (u2 t 0 (t 3 0).toNatClampNeg ch) 3 0 (((u2 t 0 (t 3 0).toNatClampNeg ch) 3 0) + 1)) := by simp only [fX0_append, if_neg c4_1, if_pos c13_2]
      obtain ⟨h0_, h1_⟩ := tup2 hq
      rw [h0_, h1_]
      exact r_zret X w hr (Or.inr rfl) rfl dX0_append_39
    · refine lv_iconst (v := 0) hx hb dX0_append_16 (by decide) ?_
      have hq : fX0_append t ch = (0, t) := by simp only [fX0_append, if_neg c4_1, if_neg c13_2]
      obtain ⟨h0_, h1_⟩ := tup2 hq
      rw [h0_, h1_]
      exact r_zret X w hr (Or.inl rfl) rfl dX0_append_17
theorem zX0_append (t : N2) (ch : Int32) : (fX0_append t ch).1 = 0 ∨ (fX0_append t ch).1 = 1 := by
  unfold fX0_append
  repeat' split
  all_goals first | exact Or.inl rfl | exact Or.inr rfl | (simp; done) | exact Or.inl rfl
def fX0_cellOfBall (t : N2) (i : Int32) : Int32 := if i < 0 then (((-5))) else (if 16 ≤ i then (((-5))) else ((t 1 i.toNatClampNeg)))
theorem dX0_cellOfBall_0 : decode cX0_cellOfBall 0 = .ok (.iload_n 1, 1) := by decide +kernel
theorem dX0_cellOfBall_1 : decode cX0_cellOfBall 1 = .ok (.ifCond .lt 18, 3) := by decide +kernel
theorem dX0_cellOfBall_4 : decode cX0_cellOfBall 4 = .ok (.iload_n 1, 1) := by decide +kernel
theorem dX0_cellOfBall_5 : decode cX0_cellOfBall 5 = .ok (.bipush 16, 2) := by decide +kernel
theorem dX0_cellOfBall_7 : decode cX0_cellOfBall 7 = .ok (.if_icmp .ge 12, 3) := by decide +kernel
theorem dX0_cellOfBall_10 : decode cX0_cellOfBall 10 = .ok (.aload_n 0, 1) := by decide +kernel
theorem dX0_cellOfBall_11 : decode cX0_cellOfBall 11 = .ok (.getfield 15, 3) := by decide +kernel
theorem dX0_cellOfBall_14 : decode cX0_cellOfBall 14 = .ok (.iload_n 1, 1) := by decide +kernel
theorem dX0_cellOfBall_15 : decode cX0_cellOfBall 15 = .ok (.iaload, 1) := by decide +kernel
theorem dX0_cellOfBall_16 : decode cX0_cellOfBall 16 = .ok (.goto 5, 3) := by decide +kernel
theorem dX0_cellOfBall_19 : decode cX0_cellOfBall 19 = .ok (.bipush (-5), 2) := by decide +kernel
theorem dX0_cellOfBall_21 : decode cX0_cellOfBall 21 = .ok (.ireturn, 1) := by decide +kernel
set_option maxHeartbeats 4000000 in
set_option maxRecDepth 100000 in
theorem kX0_cellOfBall (l : Launch) (E : Ev) (a : Nat → Nat) (t : N2) (i : Int32) : KQ l yX0_cellOfBall cX0_cellOfBall 2 (some .int) 0 0 E [.ref (a 0), .int i] (wTx E a t) (QI E (wTx E a t) (fX0_cellOfBall t i) (wTx E a t)) := by
  refine KQ.mk RX0 rfl (by decide +kernel) (Nat.le_of_ble_eq_true rfl) ?_
  intro p e s m below meth c ls X hr w hl
  have hx := X.1
  have hb := X.2.1
  have hl : lv_has ls 2 [(0, .ref (a 0)), (1, .int i)] := hl
  refine lv_iload_n hx hb dX0_cellOfBall_0 rfl (lv_at hl 1 rfl) ?_
  refine lv_if_lt (tgt := 19) hx hb dX0_cellOfBall_1 (by decide) (fun c1_1 => ?_) (fun c1_1 => ?_)
  · refine lv_bipush (v := (-5)) hx hb dX0_cellOfBall_19 (by decide) ?_
    have hq : fX0_cellOfBall t i = ((-5)) := by simp only [fX0_cellOfBall, if_pos c1_1]
    rw [hq]
    exact r_iret X w hr rfl dX0_cellOfBall_21
  · refine lv_iload_n hx hb dX0_cellOfBall_4 rfl (lv_at hl 1 rfl) ?_
    refine lv_bipush (v := 16) hx hb dX0_cellOfBall_5 (by decide) ?_
    refine lv_icmp_ge (tgt := 19) hx hb dX0_cellOfBall_7 (by decide) (fun c7_2 => ?_) (fun c7_2 => ?_)
    · refine lv_bipush (v := (-5)) hx hb dX0_cellOfBall_19 (by decide) ?_
      have hq : fX0_cellOfBall t i = ((-5)) := by simp only [fX0_cellOfBall, if_neg c1_1, if_pos c7_2]
      rw [hq]
      exact r_iret X w hr rfl dX0_cellOfBall_21
    · refine lv_aload_n hx hb dX0_cellOfBall_10 rfl (lv_at hl 0 rfl) ?_
      refine r_get X w CL0 2 (by decide) wf_X0_15 0 rfl rfl dX0_cellOfBall_11 ?_
      refine lv_iload_n hx hb dX0_cellOfBall_14 rfl (lv_at hl 1 rfl) ?_
      refine r_iald X w 2 rfl (vin_ge 16 rfl c1_1 c7_2) dX0_cellOfBall_15 ?_
      refine lv_goto (tgt := 21) hx hb dX0_cellOfBall_16 (by decide) ?_
      have hq : fX0_cellOfBall t i = (t 1 i.toNatClampNeg) := by simp only [fX0_cellOfBall, if_neg c1_1, if_neg c7_2]
      rw [hq]
      exact r_iret X w hr rfl dX0_cellOfBall_21
def fX0_valueOfBall (t : N2) (i : Int32) : Int32 := if i < 0 then ((0)) else (if 16 ≤ i then ((0)) else ((t 2 i.toNatClampNeg)))
theorem dX0_valueOfBall_0 : decode cX0_valueOfBall 0 = .ok (.iload_n 1, 1) := by decide +kernel
theorem dX0_valueOfBall_1 : decode cX0_valueOfBall 1 = .ok (.ifCond .lt 18, 3) := by decide +kernel
theorem dX0_valueOfBall_4 : decode cX0_valueOfBall 4 = .ok (.iload_n 1, 1) := by decide +kernel
theorem dX0_valueOfBall_5 : decode cX0_valueOfBall 5 = .ok (.bipush 16, 2) := by decide +kernel
theorem dX0_valueOfBall_7 : decode cX0_valueOfBall 7 = .ok (.if_icmp .ge 12, 3) := by decide +kernel
theorem dX0_valueOfBall_10 : decode cX0_valueOfBall 10 = .ok (.aload_n 0, 1) := by decide +kernel
theorem dX0_valueOfBall_11 : decode cX0_valueOfBall 11 = .ok (.getfield 19, 3) := by decide +kernel
theorem dX0_valueOfBall_14 : decode cX0_valueOfBall 14 = .ok (.iload_n 1, 1) := by decide +kernel
theorem dX0_valueOfBall_15 : decode cX0_valueOfBall 15 = .ok (.iaload, 1) := by decide +kernel
theorem dX0_valueOfBall_16 : decode cX0_valueOfBall 16 = .ok (.goto 4, 3) := by decide +kernel
theorem dX0_valueOfBall_19 : decode cX0_valueOfBall 19 = .ok (.iconst 0, 1) := by decide +kernel
theorem dX0_valueOfBall_20 : decode cX0_valueOfBall 20 = .ok (.ireturn, 1) := by decide +kernel
set_option maxHeartbeats 4000000 in
set_option maxRecDepth 100000 in
theorem kX0_valueOfBall (l : Launch) (E : Ev) (a : Nat → Nat) (t : N2) (i : Int32) : KQ l yX0_valueOfBall cX0_valueOfBall 2 (some .int) 0 0 E [.ref (a 0), .int i] (wTx E a t) (QI E (wTx E a t) (fX0_valueOfBall t i) (wTx E a t)) := by
  refine KQ.mk RX0 rfl (by decide +kernel) (Nat.le_of_ble_eq_true rfl) ?_
  intro p e s m below meth c ls X hr w hl
  have hx := X.1
  have hb := X.2.1
  have hl : lv_has ls 2 [(0, .ref (a 0)), (1, .int i)] := hl
  refine lv_iload_n hx hb dX0_valueOfBall_0 rfl (lv_at hl 1 rfl) ?_
  refine lv_if_lt (tgt := 19) hx hb dX0_valueOfBall_1 (by decide) (fun c1_1 => ?_) (fun c1_1 => ?_)
  · refine lv_iconst (v := 0) hx hb dX0_valueOfBall_19 (by decide) ?_
    have hq : fX0_valueOfBall t i = (0) := by simp only [fX0_valueOfBall, if_pos c1_1]
    rw [hq]
    exact r_iret X w hr rfl dX0_valueOfBall_20
  · refine lv_iload_n hx hb dX0_valueOfBall_4 rfl (lv_at hl 1 rfl) ?_
    refine lv_bipush (v := 16) hx hb dX0_valueOfBall_5 (by decide) ?_
    refine lv_icmp_ge (tgt := 19) hx hb dX0_valueOfBall_7 (by decide) (fun c7_2 => ?_) (fun c7_2 => ?_)
    · refine lv_iconst (v := 0) hx hb dX0_valueOfBall_19 (by decide) ?_
      have hq : fX0_valueOfBall t i = (0) := by simp only [fX0_valueOfBall, if_neg c1_1, if_pos c7_2]
      rw [hq]
      exact r_iret X w hr rfl dX0_valueOfBall_20
    · refine lv_aload_n hx hb dX0_valueOfBall_10 rfl (lv_at hl 0 rfl) ?_
      refine r_get X w CL0 3 (by decide) wf_X0_19 0 rfl rfl dX0_valueOfBall_11 ?_
      refine lv_iload_n hx hb dX0_valueOfBall_14 rfl (lv_at hl 1 rfl) ?_
      refine r_iald X w 3 rfl (vin_ge 16 rfl c1_1 c7_2) dX0_valueOfBall_15 ?_
      refine lv_goto (tgt := 20) hx hb dX0_valueOfBall_16 (by decide) ?_
      have hq : fX0_valueOfBall t i = (t 2 i.toNatClampNeg) := by simp only [fX0_valueOfBall, if_neg c1_1, if_neg c7_2]
      rw [hq]
      exact r_iret X w hr rfl dX0_valueOfBall_20
def fX0_beginsNumber (t : N2) (ch : Int32) (lw : Int32) (np : Int32) : Int32 × N2 := if ch < lw then ((0, t)) else (if ch ≤ 57 then ((1, u2 (u2 t 3 3 (ch - 48)) 3 2 np)) else ((0, t)))
theorem dX0_beginsNumber_0 : decode cX0_beginsNumber 0 = .ok (.iload_n 1, 1) := by decide +kernel
theorem dX0_beginsNumber_1 : decode cX0_beginsNumber 1 = .ok (.iload_n 2, 1) := by decide +kernel
theorem dX0_beginsNumber_2 : decode cX0_beginsNumber 2 = .ok (.if_icmp .lt 9, 3) := by decide +kernel
theorem dX0_beginsNumber_5 : decode cX0_beginsNumber 5 = .ok (.iload_n 1, 1) := by decide +kernel
theorem dX0_beginsNumber_6 : decode cX0_beginsNumber 6 = .ok (.bipush 57, 2) := by decide +kernel
theorem dX0_beginsNumber_8 : decode cX0_beginsNumber 8 = .ok (.if_icmp .le 5, 3) := by decide +kernel
theorem dX0_beginsNumber_11 : decode cX0_beginsNumber 11 = .ok (.iconst 0, 1) := by decide +kernel
theorem dX0_beginsNumber_12 : decode cX0_beginsNumber 12 = .ok (.ireturn, 1) := by decide +kernel
theorem dX0_beginsNumber_13 : decode cX0_beginsNumber 13 = .ok (.aload_n 0, 1) := by decide +kernel
theorem dX0_beginsNumber_14 : decode cX0_beginsNumber 14 = .ok (.iload_n 1, 1) := by decide +kernel
theorem dX0_beginsNumber_15 : decode cX0_beginsNumber 15 = .ok (.bipush 48, 2) := by decide +kernel
theorem dX0_beginsNumber_17 : decode cX0_beginsNumber 17 = .ok (.isub, 1) := by decide +kernel
theorem dX0_beginsNumber_18 : decode cX0_beginsNumber 18 = .ok (.putfield 51, 3) := by decide +kernel
theorem dX0_beginsNumber_21 : decode cX0_beginsNumber 21 = .ok (.aload_n 0, 1) := by decide +kernel
theorem dX0_beginsNumber_22 : decode cX0_beginsNumber 22 = .ok (.iload_n 3, 1) := by decide +kernel
theorem dX0_beginsNumber_23 : decode cX0_beginsNumber 23 = .ok (.putfield 29, 3) := by decide +kernel
theorem dX0_beginsNumber_26 : decode cX0_beginsNumber 26 = .ok (.iconst 1, 1) := by decide +kernel
theorem dX0_beginsNumber_27 : decode cX0_beginsNumber 27 = .ok (.ireturn, 1) := by decide +kernel
theorem ax_26 {E : Ev} {a0 : Nat → Nat} {σ0 : N2} {x : Int32} : (wTx E a0 σ0).set 0 (a0 0, .inr (0, ([.ref (a0 1), .int (σ0 3 0), .ref (a0 2), .ref (a0 3), .int (σ0 3 1), .int (σ0 3 2), .int (σ0 3 3)] : List Value).set 6 (.int x))) = wTx E a0 (u2 σ0 3 3 x) := rfl
theorem ax_27 {E : Ev} {a0 : Nat → Nat} {σ0 : N2} {x : Int32} : (wTx E a0 σ0).set 0 (a0 0, .inr (0, ([.ref (a0 1), .int (σ0 3 0), .ref (a0 2), .ref (a0 3), .int (σ0 3 1), .int (σ0 3 2), .int (σ0 3 3)] : List Value).set 5 (.int x))) = wTx E a0 (u2 σ0 3 2 x) := rfl
set_option maxHeartbeats 4000000 in
set_option maxRecDepth 100000 in
theorem kX0_beginsNumber (l : Launch) (E : Ev) (a : Nat → Nat) (t : N2) (ch : Int32) (lw : Int32) (np : Int32) : KQ l yX0_beginsNumber cX0_beginsNumber 4 (some .boolean) 0 0 E [.ref (a 0), .int ch, .int lw, .int np] (wTx E a t) (QI E (wTx E a t) (fX0_beginsNumber t ch lw np).1 (wTx E a ((fX0_beginsNumber t ch lw np).2))) := by
  refine KQ.mk RX0 rfl (by decide +kernel) (Nat.le_of_ble_eq_true rfl) ?_
  intro p e s m below meth c ls X hr w hl
  have hx := X.1
  have hb := X.2.1
  have hl : lv_has ls 4 [(0, .ref (a 0)), (1, .int ch), (2, .int lw), (3, .int np)] := hl
  refine lv_iload_n hx hb dX0_beginsNumber_0 rfl (lv_at hl 1 rfl) ?_
  refine lv_iload_n hx hb dX0_beginsNumber_1 rfl (lv_at hl 2 rfl) ?_
  refine lv_icmp_lt (tgt := 11) hx hb dX0_beginsNumber_2 (by decide) (fun c2_1 => ?_) (fun c2_1 => ?_)
  · refine lv_iconst (v := 0) hx hb dX0_beginsNumber_11 (by decide) ?_
    have hq : fX0_beginsNumber t ch lw np = (0, t) := by simp only [fX0_beginsNumber, if_pos c2_1]
    obtain ⟨h0_, h1_⟩ := tup2 hq
    rw [h0_, h1_]
    exact r_zret X w hr (Or.inl rfl) rfl dX0_beginsNumber_12
  · refine lv_iload_n hx hb dX0_beginsNumber_5 rfl (lv_at hl 1 rfl) ?_
    refine lv_bipush (v := 57) hx hb dX0_beginsNumber_6 (by decide) ?_
    refine lv_icmp_le (tgt := 13) hx hb dX0_beginsNumber_8 (by decide) (fun c8_2 => ?_) (fun c8_2 => ?_)
    · refine lv_aload_n hx hb dX0_beginsNumber_13 rfl (lv_at hl 0 rfl) ?_
      refine lv_iload_n hx hb dX0_beginsNumber_14 rfl (lv_at hl 1 rfl) ?_
      refine lv_bipush (v := 48) hx hb dX0_beginsNumber_15 (by decide) ?_
      refine lv_isub hx hb dX0_beginsNumber_17 ?_
      refine r_put X w (wTx E a (u2 t 3 3 (ch - 48))) CL0 6 (by decide) wf_X0_51 0 rfl rfl rfl rfl (Nat.le_of_ble_eq_true rfl) (ax_26 (E := E)) dX0_beginsNumber_18 (fun H locs w => ?_)
      refine lv_aload_n hx hb dX0_beginsNumber_21 rfl (lv_at hl 0 rfl) ?_
      refine lv_iload_n hx hb dX0_beginsNumber_22 rfl (lv_at hl 3 rfl) ?_
      refine r_put X w (wTx E a (u2 (u2 t 3 3 (ch - 48)) 3 2 np)) CL0 5 (by decide) wf_X0_29 0 rfl rfl rfl rfl (Nat.le_of_ble_eq_true rfl) (ax_27 (E := E)) dX0_beginsNumber_23 (fun H locs w => ?_)
      refine lv_iconst (v := 1) hx hb dX0_beginsNumber_26 (by decide) ?_
      have hq : fX0_beginsNumber t ch lw np = (1, u2 (u2 t 3 3 (ch - 48)) 3 2 np) := by simp only [fX0_beginsNumber, if_neg c2_1, if_pos c8_2]
      obtain ⟨h0_, h1_⟩ := tup2 hq
      rw [h0_, h1_]
      exact r_zret X w hr (Or.inr rfl) rfl dX0_beginsNumber_27
    · refine lv_iconst (v := 0) hx hb dX0_beginsNumber_11 (by decide) ?_
      have hq : fX0_beginsNumber t ch lw np = (0, t) := by simp only [fX0_beginsNumber, if_neg c2_1, if_neg c8_2]
      obtain ⟨h0_, h1_⟩ := tup2 hq
      rw [h0_, h1_]
      exact r_zret X w hr (Or.inl rfl) rfl dX0_beginsNumber_12
theorem zX0_beginsNumber (t : N2) (ch : Int32) (lw : Int32) (np : Int32) : (fX0_beginsNumber t ch lw np).1 = 0 ∨ (fX0_beginsNumber t ch lw np).1 = 1 := by
  unfold fX0_beginsNumber
  repeat' split
  all_goals first | exact Or.inl rfl | exact Or.inr rfl | (simp; done) | exact Or.inl rfl
def fX0_growsNumber (t : N2) (ch : Int32) (hi : Int32) : Int32 × N2 := if ch < 48 then ((0, t)) else (if 57 < ch then ((0, t)) else (if (t 3 3) = 0 then ((0, t)) else (if (((t 3 3) * 10) + (ch - 48)) ≤ hi then ((1, u2 t 3 3 (((t 3 3) * 10) + (ch - 48)))) else ((0, t)))))
theorem dX0_growsNumber_0 : decode cX0_growsNumber 0 = .ok (.iload_n 1, 1) := by decide +kernel
theorem dX0_growsNumber_1 : decode cX0_growsNumber 1 = .ok (.bipush 48, 2) := by decide +kernel
theorem dX0_growsNumber_3 : decode cX0_growsNumber 3 = .ok (.if_icmp .lt 16, 3) := by decide +kernel
theorem dX0_growsNumber_6 : decode cX0_growsNumber 6 = .ok (.iload_n 1, 1) := by decide +kernel
theorem dX0_growsNumber_7 : decode cX0_growsNumber 7 = .ok (.bipush 57, 2) := by decide +kernel
theorem dX0_growsNumber_9 : decode cX0_growsNumber 9 = .ok (.if_icmp .gt 10, 3) := by decide +kernel
theorem dX0_growsNumber_12 : decode cX0_growsNumber 12 = .ok (.aload_n 0, 1) := by decide +kernel
theorem dX0_growsNumber_13 : decode cX0_growsNumber 13 = .ok (.getfield 51, 3) := by decide +kernel
theorem dX0_growsNumber_16 : decode cX0_growsNumber 16 = .ok (.ifCond .ne 5, 3) := by decide +kernel
theorem dX0_growsNumber_19 : decode cX0_growsNumber 19 = .ok (.iconst 0, 1) := by decide +kernel
theorem dX0_growsNumber_20 : decode cX0_growsNumber 20 = .ok (.ireturn, 1) := by decide +kernel
theorem dX0_growsNumber_21 : decode cX0_growsNumber 21 = .ok (.aload_n 0, 1) := by decide +kernel
theorem dX0_growsNumber_22 : decode cX0_growsNumber 22 = .ok (.getfield 51, 3) := by decide +kernel
theorem dX0_growsNumber_25 : decode cX0_growsNumber 25 = .ok (.bipush 10, 2) := by decide +kernel
theorem dX0_growsNumber_27 : decode cX0_growsNumber 27 = .ok (.imul, 1) := by decide +kernel
theorem dX0_growsNumber_28 : decode cX0_growsNumber 28 = .ok (.iload_n 1, 1) := by decide +kernel
theorem dX0_growsNumber_29 : decode cX0_growsNumber 29 = .ok (.bipush 48, 2) := by decide +kernel
theorem dX0_growsNumber_31 : decode cX0_growsNumber 31 = .ok (.isub, 1) := by decide +kernel
theorem dX0_growsNumber_32 : decode cX0_growsNumber 32 = .ok (.iadd, 1) := by decide +kernel
theorem dX0_growsNumber_33 : decode cX0_growsNumber 33 = .ok (.istore_n 3, 1) := by decide +kernel
theorem dX0_growsNumber_34 : decode cX0_growsNumber 34 = .ok (.iload_n 3, 1) := by decide +kernel
theorem dX0_growsNumber_35 : decode cX0_growsNumber 35 = .ok (.iload_n 2, 1) := by decide +kernel
theorem dX0_growsNumber_36 : decode cX0_growsNumber 36 = .ok (.if_icmp .le 5, 3) := by decide +kernel
theorem dX0_growsNumber_39 : decode cX0_growsNumber 39 = .ok (.iconst 0, 1) := by decide +kernel
theorem dX0_growsNumber_40 : decode cX0_growsNumber 40 = .ok (.ireturn, 1) := by decide +kernel
theorem dX0_growsNumber_41 : decode cX0_growsNumber 41 = .ok (.aload_n 0, 1) := by decide +kernel
theorem dX0_growsNumber_42 : decode cX0_growsNumber 42 = .ok (.iload_n 3, 1) := by decide +kernel
theorem dX0_growsNumber_43 : decode cX0_growsNumber 43 = .ok (.putfield 51, 3) := by decide +kernel
theorem dX0_growsNumber_46 : decode cX0_growsNumber 46 = .ok (.iconst 1, 1) := by decide +kernel
theorem dX0_growsNumber_47 : decode cX0_growsNumber 47 = .ok (.ireturn, 1) := by decide +kernel
set_option maxHeartbeats 4000000 in
set_option maxRecDepth 100000 in
theorem kX0_growsNumber (l : Launch) (E : Ev) (a : Nat → Nat) (t : N2) (ch : Int32) (hi : Int32) : KQ l yX0_growsNumber cX0_growsNumber 4 (some .boolean) 0 0 E [.ref (a 0), .int ch, .int hi] (wTx E a t) (QI E (wTx E a t) (fX0_growsNumber t ch hi).1 (wTx E a ((fX0_growsNumber t ch hi).2))) := by
  refine KQ.mk RX0 rfl (by decide +kernel) (Nat.le_of_ble_eq_true rfl) ?_
  intro p e s m below meth c ls X hr w hl
  have hx := X.1
  have hb := X.2.1
  have hl : lv_has ls 4 [(0, .ref (a 0)), (1, .int ch), (2, .int hi)] := hl
  refine lv_iload_n hx hb dX0_growsNumber_0 rfl (lv_at hl 1 rfl) ?_
  refine lv_bipush (v := 48) hx hb dX0_growsNumber_1 (by decide) ?_
  refine lv_icmp_lt (tgt := 19) hx hb dX0_growsNumber_3 (by decide) (fun c3_1 => ?_) (fun c3_1 => ?_)
  · refine lv_iconst (v := 0) hx hb dX0_growsNumber_19 (by decide) ?_
    have hq : fX0_growsNumber t ch hi = (0, t) := by simp only [fX0_growsNumber, if_pos c3_1]
    obtain ⟨h0_, h1_⟩ := tup2 hq
    rw [h0_, h1_]
    exact r_zret X w hr (Or.inl rfl) rfl dX0_growsNumber_20
  · refine lv_iload_n hx hb dX0_growsNumber_6 rfl (lv_at hl 1 rfl) ?_
    refine lv_bipush (v := 57) hx hb dX0_growsNumber_7 (by decide) ?_
    refine lv_icmp_gt (tgt := 19) hx hb dX0_growsNumber_9 (by decide) (fun c9_2 => ?_) (fun c9_2 => ?_)
    · refine lv_iconst (v := 0) hx hb dX0_growsNumber_19 (by decide) ?_
      have hq : fX0_growsNumber t ch hi = (0, t) := by simp only [fX0_growsNumber, if_neg c3_1, if_pos c9_2]
      obtain ⟨h0_, h1_⟩ := tup2 hq
      rw [h0_, h1_]
      exact r_zret X w hr (Or.inl rfl) rfl dX0_growsNumber_20
    · refine lv_aload_n hx hb dX0_growsNumber_12 rfl (lv_at hl 0 rfl) ?_
      refine r_get X w CL0 6 (by decide) wf_X0_51 0 rfl rfl dX0_growsNumber_13 ?_
      refine lv_if_ne (tgt := 21) hx hb dX0_growsNumber_16 (by decide) (fun c16_3 => ?_) (fun c16_3 => ?_)
      · refine lv_aload_n hx hb dX0_growsNumber_21 rfl (lv_at hl 0 rfl) ?_
        refine r_get X w CL0 6 (by decide) wf_X0_51 0 rfl rfl dX0_growsNumber_22 ?_
        refine lv_bipush (v := 10) hx hb dX0_growsNumber_25 (by decide) ?_
        refine lv_imul hx hb dX0_growsNumber_27 ?_
        refine lv_iload_n hx hb dX0_growsNumber_28 rfl (lv_at hl 1 rfl) ?_
        refine lv_bipush (v := 48) hx hb dX0_growsNumber_29 (by decide) ?_
        refine lv_isub hx hb dX0_growsNumber_31 ?_
        refine lv_iadd hx hb dX0_growsNumber_32 ?_
        refine lv_istore_n (lv' := [(3, .int (((t 3 3) * 10) + (ch - 48))), (0, .ref (a 0)), (1, .int ch), (2, .int hi)]) hx hb dX0_growsNumber_33 rfl hl (by decide) rfl (fun ls hl => ?_)
        refine lv_iload_n hx hb dX0_growsNumber_34 rfl (lv_at hl 0 rfl) ?_
        refine lv_iload_n hx hb dX0_growsNumber_35 rfl (lv_at hl 3 rfl) ?_
        refine lv_icmp_le (tgt := 41) hx hb dX0_growsNumber_36 (by decide) (fun c36_4 => ?_) (fun c36_4 => ?_)
        · refine lv_aload_n hx hb dX0_growsNumber_41 rfl (lv_at hl 1 rfl) ?_
          refine lv_iload_n hx hb dX0_growsNumber_42 rfl (lv_at hl 0 rfl) ?_
          refine r_put X w (wTx E a (u2 t 3 3 (((t 3 3) * 10) + (ch - 48)))) CL0 6 (by decide) wf_X0_51 0 rfl rfl rfl rfl (Nat.le_of_ble_eq_true rfl) (ax_26 (E := E)) dX0_growsNumber_43 (fun H locs w => ?_)
          refine lv_iconst (v := 1) hx hb dX0_growsNumber_46 (by decide) ?_
          have hq : fX0_growsNumber t ch hi = (1, u2 t 3 3 (((t 3 3) * 10) + (ch - 48))) := by simp only [fX0_growsNumber, if_neg c3_1, if_neg c9_2, if_neg c16_3, if_pos c36_4]
          obtain ⟨h0_, h1_⟩ := tup2 hq
          rw [h0_, h1_]
          exact r_zret X w hr (Or.inr rfl) rfl dX0_growsNumber_47
        · refine lv_iconst (v := 0) hx hb dX0_growsNumber_39 (by decide) ?_
          have hq : fX0_growsNumber t ch hi = (0, t) := by simp only [fX0_growsNumber, if_neg c3_1, if_neg c9_2, if_neg c16_3, if_neg c36_4]
          obtain ⟨h0_, h1_⟩ := tup2 hq
          rw [h0_, h1_]
          exact r_zret X w hr (Or.inl rfl) rfl dX0_growsNumber_40
      · refine lv_iconst (v := 0) hx hb dX0_growsNumber_19 (by decide) ?_
        have hq : fX0_growsNumber t ch hi = (0, t) := by simp only [fX0_growsNumber, if_neg c3_1, if_neg c9_2, if_pos c16_3]
        obtain ⟨h0_, h1_⟩ := tup2 hq
        rw [h0_, h1_]
        exact r_zret X w hr (Or.inl rfl) rfl dX0_growsNumber_20
theorem zX0_growsNumber (t : N2) (ch : Int32) (hi : Int32) : (fX0_growsNumber t ch hi).1 = 0 ∨ (fX0_growsNumber t ch hi).1 = 1 := by
  unfold fX0_growsNumber
  repeat' split
  all_goals first | exact Or.inl rfl | exact Or.inr rfl | (simp; done) | exact Or.inl rfl
def fX0_endsCell (t : N2) : Int32 × N2 := if (t 3 1) < 0 then ((0, t)) else (if (t 3 1) < 16 then ((1, u2 (u2 t 1 (t 3 1).toNatClampNeg (t 3 3)) 3 2 2)) else ((0, t)))
theorem dX0_endsCell_0 : decode cX0_endsCell 0 = .ok (.aload_n 0, 1) := by decide +kernel
theorem dX0_endsCell_1 : decode cX0_endsCell 1 = .ok (.getfield 26, 3) := by decide +kernel
theorem dX0_endsCell_4 : decode cX0_endsCell 4 = .ok (.ifCond .lt 12, 3) := by decide +kernel
theorem dX0_endsCell_7 : decode cX0_endsCell 7 = .ok (.aload_n 0, 1) := by decide +kernel
theorem dX0_endsCell_8 : decode cX0_endsCell 8 = .ok (.getfield 26, 3) := by decide +kernel
theorem dX0_endsCell_11 : decode cX0_endsCell 11 = .ok (.bipush 16, 2) := by decide +kernel
theorem dX0_endsCell_13 : decode cX0_endsCell 13 = .ok (.if_icmp .lt 5, 3) := by decide +kernel
theorem dX0_endsCell_16 : decode cX0_endsCell 16 = .ok (.iconst 0, 1) := by decide +kernel
theorem dX0_endsCell_17 : decode cX0_endsCell 17 = .ok (.ireturn, 1) := by decide +kernel
theorem dX0_endsCell_18 : decode cX0_endsCell 18 = .ok (.aload_n 0, 1) := by decide +kernel
theorem dX0_endsCell_19 : decode cX0_endsCell 19 = .ok (.getfield 15, 3) := by decide +kernel
theorem dX0_endsCell_22 : decode cX0_endsCell 22 = .ok (.aload_n 0, 1) := by decide +kernel
theorem dX0_endsCell_23 : decode cX0_endsCell 23 = .ok (.getfield 26, 3) := by decide +kernel
theorem dX0_endsCell_26 : decode cX0_endsCell 26 = .ok (.aload_n 0, 1) := by decide +kernel
theorem dX0_endsCell_27 : decode cX0_endsCell 27 = .ok (.getfield 51, 3) := by decide +kernel
theorem dX0_endsCell_30 : decode cX0_endsCell 30 = .ok (.iastore, 1) := by decide +kernel
theorem dX0_endsCell_31 : decode cX0_endsCell 31 = .ok (.aload_n 0, 1) := by decide +kernel
theorem dX0_endsCell_32 : decode cX0_endsCell 32 = .ok (.iconst 2, 1) := by decide +kernel
theorem dX0_endsCell_33 : decode cX0_endsCell 33 = .ok (.putfield 29, 3) := by decide +kernel
theorem dX0_endsCell_36 : decode cX0_endsCell 36 = .ok (.iconst 1, 1) := by decide +kernel
theorem dX0_endsCell_37 : decode cX0_endsCell 37 = .ok (.ireturn, 1) := by decide +kernel
theorem ax_28 {E : Ev} {a0 : Nat → Nat} {σ0 : N2} {i x : Int32} : (wTx E a0 σ0).set 2 (a0 2, .inl (E.2.1.1, 16, .inl (upd (σ0 1) i.toNatClampNeg x))) = wTx E a0 (u2 σ0 1 i.toNatClampNeg x) := rfl
set_option maxHeartbeats 4000000 in
set_option maxRecDepth 100000 in
theorem kX0_endsCell (l : Launch) (E : Ev) (a : Nat → Nat) (t : N2) : KQ l yX0_endsCell cX0_endsCell 1 (some .boolean) 0 0 E [.ref (a 0)] (wTx E a t) (QI E (wTx E a t) (fX0_endsCell t).1 (wTx E a ((fX0_endsCell t).2))) := by
  refine KQ.mk RX0 rfl (by decide +kernel) (Nat.le_of_ble_eq_true rfl) ?_
  intro p e s m below meth c ls X hr w hl
  have hx := X.1
  have hb := X.2.1
  have hl : lv_has ls 1 [(0, .ref (a 0))] := hl
  refine lv_aload_n hx hb dX0_endsCell_0 rfl (lv_at hl 0 rfl) ?_
  refine r_get X w CL0 4 (by decide) wf_X0_26 0 rfl rfl dX0_endsCell_1 ?_
  refine lv_if_lt (tgt := 16) hx hb dX0_endsCell_4 (by decide) (fun c4_1 => ?_) (fun c4_1 => ?_)
  · refine lv_iconst (v := 0) hx hb dX0_endsCell_16 (by decide) ?_
    have hq : fX0_endsCell t = (0, t) := by simp only [fX0_endsCell, if_pos c4_1]
    obtain ⟨h0_, h1_⟩ := tup2 hq
    rw [h0_, h1_]
    exact r_zret X w hr (Or.inl rfl) rfl dX0_endsCell_17
  · refine lv_aload_n hx hb dX0_endsCell_7 rfl (lv_at hl 0 rfl) ?_
    refine r_get X w CL0 4 (by decide) wf_X0_26 0 rfl rfl dX0_endsCell_8 ?_
    refine lv_bipush (v := 16) hx hb dX0_endsCell_11 (by decide) ?_
    refine lv_icmp_lt (tgt := 18) hx hb dX0_endsCell_13 (by decide) (fun c13_2 => ?_) (fun c13_2 => ?_)
    · refine lv_aload_n hx hb dX0_endsCell_18 rfl (lv_at hl 0 rfl) ?_
      refine r_get X w CL0 2 (by decide) wf_X0_15 0 rfl rfl dX0_endsCell_19 ?_
      refine lv_aload_n hx hb dX0_endsCell_22 rfl (lv_at hl 0 rfl) ?_
      refine r_get X w CL0 4 (by decide) wf_X0_26 0 rfl rfl dX0_endsCell_23 ?_
      refine lv_aload_n hx hb dX0_endsCell_26 rfl (lv_at hl 0 rfl) ?_
      refine r_get X w CL0 6 (by decide) wf_X0_51 0 rfl rfl dX0_endsCell_27 ?_
      refine r_iast X w (wTx E a (u2 t 1 (t 3 1).toNatClampNeg (t 3 3))) 2 rfl (vin_lt 16 rfl c4_1 c13_2) (ax_28 (E := E)) dX0_endsCell_30 (fun H locs w => ?_)
      refine lv_aload_n hx hb dX0_endsCell_31 rfl (lv_at hl 0 rfl) ?_
      refine lv_iconst (v := 2) hx hb dX0_endsCell_32 (by decide) ?_
      refine r_put X w (wTx E a (u2 (u2 t 1 (t 3 1).toNatClampNeg (t 3 3)) 3 2 2)) CL0 5 (by decide) wf_X0_29 0 rfl rfl rfl rfl (Nat.le_of_ble_eq_true rfl) (ax_27 (E := E)) dX0_endsCell_33 (fun H locs w => ?_)
      refine lv_iconst (v := 1) hx hb dX0_endsCell_36 (by decide) ?_
      have hq : fX0_endsCell t = (1, u2 (u2 t 1 (t 3 1).toNatClampNeg (t 3 3)) 3 2 2) := by simp only [fX0_endsCell, if_neg c4_1, if_pos c13_2]
      obtain ⟨h0_, h1_⟩ := tup2 hq
      rw [h0_, h1_]
      exact r_zret X w hr (Or.inr rfl) rfl dX0_endsCell_37
    · refine lv_iconst (v := 0) hx hb dX0_endsCell_16 (by decide) ?_
      have hq : fX0_endsCell t = (0, t) := by simp only [fX0_endsCell, if_neg c4_1, if_neg c13_2]
      obtain ⟨h0_, h1_⟩ := tup2 hq
      rw [h0_, h1_]
      exact r_zret X w hr (Or.inl rfl) rfl dX0_endsCell_17
theorem zX0_endsCell (t : N2) : (fX0_endsCell t).1 = 0 ∨ (fX0_endsCell t).1 = 1 := by
  unfold fX0_endsCell
  repeat' split
  all_goals first | exact Or.inl rfl | exact Or.inr rfl | (simp; done) | exact Or.inl rfl
def fX0_endBall (t : N2) : Int32 × N2 := if (t 3 1) < 0 then ((0, t)) else (if (t 3 1) < 16 then ((1, u2 (u2 (u2 t 2 (t 3 1).toNatClampNeg (t 3 3)) 3 1 (((u2 t 2 (t 3 1).toNatClampNeg (t 3 3)) 3 1) + 1)) 3 2 0)) else ((0, t)))
theorem dX0_endBall_0 : decode cX0_endBall 0 = .ok (.aload_n 0, 1) := by decide +kernel
theorem dX0_endBall_1 : decode cX0_endBall 1 = .ok (.getfield 26, 3) := by decide +kernel
theorem dX0_endBall_4 : decode cX0_endBall 4 = .ok (.ifCond .lt 12, 3) := by decide +kernel
theorem dX0_endBall_7 : decode cX0_endBall 7 = .ok (.aload_n 0, 1) := by decide +kernel
theorem dX0_endBall_8 : decode cX0_endBall 8 = .ok (.getfield 26, 3) := by decide +kernel
theorem dX0_endBall_11 : decode cX0_endBall 11 = .ok (.bipush 16, 2) := by decide +kernel
theorem dX0_endBall_13 : decode cX0_endBall 13 = .ok (.if_icmp .lt 5, 3) := by decide +kernel
theorem dX0_endBall_16 : decode cX0_endBall 16 = .ok (.iconst 0, 1) := by decide +kernel
theorem dX0_endBall_17 : decode cX0_endBall 17 = .ok (.ireturn, 1) := by decide +kernel
theorem dX0_endBall_18 : decode cX0_endBall 18 = .ok (.aload_n 0, 1) := by decide +kernel
theorem dX0_endBall_19 : decode cX0_endBall 19 = .ok (.getfield 19, 3) := by decide +kernel
theorem dX0_endBall_22 : decode cX0_endBall 22 = .ok (.aload_n 0, 1) := by decide +kernel
theorem dX0_endBall_23 : decode cX0_endBall 23 = .ok (.getfield 26, 3) := by decide +kernel
theorem dX0_endBall_26 : decode cX0_endBall 26 = .ok (.aload_n 0, 1) := by decide +kernel
theorem dX0_endBall_27 : decode cX0_endBall 27 = .ok (.getfield 51, 3) := by decide +kernel
theorem dX0_endBall_30 : decode cX0_endBall 30 = .ok (.iastore, 1) := by decide +kernel
theorem dX0_endBall_31 : decode cX0_endBall 31 = .ok (.aload_n 0, 1) := by decide +kernel
theorem dX0_endBall_32 : decode cX0_endBall 32 = .ok (.dup, 1) := by decide +kernel
theorem dX0_endBall_33 : decode cX0_endBall 33 = .ok (.getfield 26, 3) := by decide +kernel
theorem dX0_endBall_36 : decode cX0_endBall 36 = .ok (.iconst 1, 1) := by decide +kernel
theorem dX0_endBall_37 : decode cX0_endBall 37 = .ok (.iadd, 1) := by decide +kernel
theorem dX0_endBall_38 : decode cX0_endBall 38 = .ok (.putfield 26, 3) := by decide +kernel
theorem dX0_endBall_41 : decode cX0_endBall 41 = .ok (.aload_n 0, 1) := by decide +kernel
theorem dX0_endBall_42 : decode cX0_endBall 42 = .ok (.iconst 0, 1) := by decide +kernel
theorem dX0_endBall_43 : decode cX0_endBall 43 = .ok (.putfield 29, 3) := by decide +kernel
theorem dX0_endBall_46 : decode cX0_endBall 46 = .ok (.iconst 1, 1) := by decide +kernel
theorem dX0_endBall_47 : decode cX0_endBall 47 = .ok (.ireturn, 1) := by decide +kernel
theorem ax_29 {E : Ev} {a0 : Nat → Nat} {σ0 : N2} {i x : Int32} : (wTx E a0 σ0).set 3 (a0 3, .inl (E.2.1.1, 16, .inl (upd (σ0 2) i.toNatClampNeg x))) = wTx E a0 (u2 σ0 2 i.toNatClampNeg x) := rfl
theorem ax_30 {E : Ev} {a0 : Nat → Nat} {σ0 : N2} {x : Int32} : (wTx E a0 σ0).set 0 (a0 0, .inr (0, ([.ref (a0 1), .int (σ0 3 0), .ref (a0 2), .ref (a0 3), .int (σ0 3 1), .int (σ0 3 2), .int (σ0 3 3)] : List Value).set 4 (.int x))) = wTx E a0 (u2 σ0 3 1 x) := rfl
set_option maxHeartbeats 4000000 in
set_option maxRecDepth 100000 in
theorem kX0_endBall (l : Launch) (E : Ev) (a : Nat → Nat) (t : N2) : KQ l yX0_endBall cX0_endBall 1 (some .boolean) 0 0 E [.ref (a 0)] (wTx E a t) (QI E (wTx E a t) (fX0_endBall t).1 (wTx E a ((fX0_endBall t).2))) := by
  refine KQ.mk RX0 rfl (by decide +kernel) (Nat.le_of_ble_eq_true rfl) ?_
  intro p e s m below meth c ls X hr w hl
  have hx := X.1
  have hb := X.2.1
  have hl : lv_has ls 1 [(0, .ref (a 0))] := hl
  refine lv_aload_n hx hb dX0_endBall_0 rfl (lv_at hl 0 rfl) ?_
  refine r_get X w CL0 4 (by decide) wf_X0_26 0 rfl rfl dX0_endBall_1 ?_
  refine lv_if_lt (tgt := 16) hx hb dX0_endBall_4 (by decide) (fun c4_1 => ?_) (fun c4_1 => ?_)
  · refine lv_iconst (v := 0) hx hb dX0_endBall_16 (by decide) ?_
    have hq : fX0_endBall t = (0, t) := by simp only [fX0_endBall, if_pos c4_1]
    obtain ⟨h0_, h1_⟩ := tup2 hq
    rw [h0_, h1_]
    exact r_zret X w hr (Or.inl rfl) rfl dX0_endBall_17
  · refine lv_aload_n hx hb dX0_endBall_7 rfl (lv_at hl 0 rfl) ?_
    refine r_get X w CL0 4 (by decide) wf_X0_26 0 rfl rfl dX0_endBall_8 ?_
    refine lv_bipush (v := 16) hx hb dX0_endBall_11 (by decide) ?_
    refine lv_icmp_lt (tgt := 18) hx hb dX0_endBall_13 (by decide) (fun c13_2 => ?_) (fun c13_2 => ?_)
    · refine lv_aload_n hx hb dX0_endBall_18 rfl (lv_at hl 0 rfl) ?_
      refine r_get X w CL0 3 (by decide) wf_X0_19 0 rfl rfl dX0_endBall_19 ?_
      refine lv_aload_n hx hb dX0_endBall_22 rfl (lv_at hl 0 rfl) ?_
      refine r_get X w CL0 4 (by decide) wf_X0_26 0 rfl rfl dX0_endBall_23 ?_
      refine lv_aload_n hx hb dX0_endBall_26 rfl (lv_at hl 0 rfl) ?_
      refine r_get X w CL0 6 (by decide) wf_X0_51 0 rfl rfl dX0_endBall_27 ?_
      refine r_iast X w (wTx E a (u2 t 2 (t 3 1).toNatClampNeg (t 3 3))) 3 rfl (vin_lt 16 rfl c4_1 c13_2) (ax_29 (E := E)) dX0_endBall_30 (fun H locs w => ?_)
      refine lv_aload_n hx hb dX0_endBall_31 rfl (lv_at hl 0 rfl) ?_
      refine lv_dup hx hb dX0_endBall_32 rfl ?_
      refine r_get X w CL0 4 (by decide) wf_X0_26 0 rfl rfl dX0_endBall_33 ?_
      refine lv_iconst (v := 1) hx hb dX0_endBall_36 (by decide) ?_
      refine lv_iadd hx hb dX0_endBall_37 ?_
      refine r_put X w (wTx E a (u2 (u2 t 2 (t 3 1).toNatClampNeg (t 3 3)) 3 1 (((u2 t 2 (t 3 1).toNatClampNeg (t 3 3)) 3 1) + 1))) CL0 4 (by decide) wf_X0_26 0 rfl rfl rfl rfl (Nat.le_of_ble_eq_true rfl) (ax_30 (E := E)) dX0_endBall_38 (fun H locs w => ?_)
      refine lv_aload_n hx hb dX0_endBall_41 rfl (lv_at hl 0 rfl) ?_
      refine lv_iconst (v := 0) hx hb dX0_endBall_42 (by decide) ?_
      refine r_put X w (wTx E a (u2 (u2 (u2 t 2 (t 3 1).toNatClampNeg (t 3 3)) 3 1 (((u2 t 2 (t 3 1).toNatClampNeg (t 3 3)) 3 1) + 1)) 3 2 0)) CL0 5 (by decide) wf_X0_29 0 rfl rfl rfl rfl (Nat.le_of_ble_eq_true rfl) (ax_27 (E := E)) dX0_endBall_43 (fun H locs w => ?_)
      refine lv_iconst (v := 1) hx hb dX0_endBall_46 (by decide) ?_
      have hq : fX0_endBall t = (1, u2 (u2 (u2 t 2 (t 3 1).toNatClampNeg (t 3 3)) 3 1 (((u2 t 2 (t 3 1).toNatClampNeg (t 3 3)) 3 1) + 1)) 3 2 0) := by simp only [fX0_endBall, if_neg c4_1, if_pos c13_2]
      obtain ⟨h0_, h1_⟩ := tup2 hq
      rw [h0_, h1_]
      exact r_zret X w hr (Or.inr rfl) rfl dX0_endBall_47
    · refine lv_iconst (v := 0) hx hb dX0_endBall_16 (by decide) ?_
      have hq : fX0_endBall t = (0, t) := by simp only [fX0_endBall, if_neg c4_1, if_neg c13_2]
      obtain ⟨h0_, h1_⟩ := tup2 hq
      rw [h0_, h1_]
      exact r_zret X w hr (Or.inl rfl) rfl dX0_endBall_17
theorem zX0_endBall (t : N2) : (fX0_endBall t).1 = 0 ∨ (fX0_endBall t).1 = 1 := by
  unfold fX0_endBall
  repeat' split
  all_goals first | exact Or.inl rfl | exact Or.inr rfl | (simp; done) | exact Or.inl rfl
def fX0_takes (t : N2) (ch : Int32) : Int32 × N2 := if (t 3 2) = 0 then (((fX0_beginsNumber t ch 48 1).1, (fX0_beginsNumber t ch 48 1).2)) else (if (t 3 2) = 1 then (if ch = 58 then (((fX0_endsCell t).1, (fX0_endsCell t).2)) else (((fX0_growsNumber t ch 60).1, (fX0_growsNumber t ch 60).2))) else (if (t 3 2) = 2 then (((fX0_beginsNumber t ch 49 3).1, (fX0_beginsNumber t ch 49 3).2)) else (if ch = 59 then (((fX0_endBall t).1, (fX0_endBall t).2)) else (((fX0_growsNumber t ch 20).1, (fX0_growsNumber t ch 20).2)))))
theorem dX0_takes_0 : decode cX0_takes 0 = .ok (.aload_n 0, 1) := by decide +kernel
theorem dX0_takes_1 : decode cX0_takes 1 = .ok (.getfield 29, 3) := by decide +kernel
theorem dX0_takes_4 : decode cX0_takes 4 = .ok (.tableswitch 67 0 2 #[28, 37, 58], 28) := by decide +kernel
theorem dX0_takes_32 : decode cX0_takes 32 = .ok (.aload_n 0, 1) := by decide +kernel
theorem dX0_takes_33 : decode cX0_takes 33 = .ok (.iload_n 1, 1) := by decide +kernel
theorem dX0_takes_34 : decode cX0_takes 34 = .ok (.bipush 48, 2) := by decide +kernel
theorem dX0_takes_36 : decode cX0_takes 36 = .ok (.iconst 1, 1) := by decide +kernel
theorem dX0_takes_37 : decode cX0_takes 37 = .ok (.invokevirtual 40, 3) := by decide +kernel
theorem dX0_takes_40 : decode cX0_takes 40 = .ok (.ireturn, 1) := by decide +kernel
theorem dX0_takes_41 : decode cX0_takes 41 = .ok (.iload_n 1, 1) := by decide +kernel
theorem dX0_takes_42 : decode cX0_takes 42 = .ok (.bipush 58, 2) := by decide +kernel
theorem dX0_takes_44 : decode cX0_takes 44 = .ok (.if_icmp .ne 10, 3) := by decide +kernel
theorem dX0_takes_47 : decode cX0_takes 47 = .ok (.aload_n 0, 1) := by decide +kernel
theorem dX0_takes_48 : decode cX0_takes 48 = .ok (.invokevirtual 44, 3) := by decide +kernel
theorem dX0_takes_51 : decode cX0_takes 51 = .ok (.goto 10, 3) := by decide +kernel
theorem dX0_takes_54 : decode cX0_takes 54 = .ok (.aload_n 0, 1) := by decide +kernel
theorem dX0_takes_55 : decode cX0_takes 55 = .ok (.iload_n 1, 1) := by decide +kernel
theorem dX0_takes_56 : decode cX0_takes 56 = .ok (.bipush 60, 2) := by decide +kernel
theorem dX0_takes_58 : decode cX0_takes 58 = .ok (.invokevirtual 47, 3) := by decide +kernel
theorem dX0_takes_61 : decode cX0_takes 61 = .ok (.ireturn, 1) := by decide +kernel
theorem dX0_takes_62 : decode cX0_takes 62 = .ok (.aload_n 0, 1) := by decide +kernel
theorem dX0_takes_63 : decode cX0_takes 63 = .ok (.iload_n 1, 1) := by decide +kernel
theorem dX0_takes_64 : decode cX0_takes 64 = .ok (.bipush 49, 2) := by decide +kernel
theorem dX0_takes_66 : decode cX0_takes 66 = .ok (.iconst 3, 1) := by decide +kernel
theorem dX0_takes_67 : decode cX0_takes 67 = .ok (.invokevirtual 40, 3) := by decide +kernel
theorem dX0_takes_70 : decode cX0_takes 70 = .ok (.ireturn, 1) := by decide +kernel
theorem dX0_takes_71 : decode cX0_takes 71 = .ok (.iload_n 1, 1) := by decide +kernel
theorem dX0_takes_72 : decode cX0_takes 72 = .ok (.bipush 59, 2) := by decide +kernel
theorem dX0_takes_74 : decode cX0_takes 74 = .ok (.if_icmp .ne 10, 3) := by decide +kernel
theorem dX0_takes_77 : decode cX0_takes 77 = .ok (.aload_n 0, 1) := by decide +kernel
theorem dX0_takes_78 : decode cX0_takes 78 = .ok (.invokevirtual 36, 3) := by decide +kernel
theorem dX0_takes_81 : decode cX0_takes 81 = .ok (.goto 10, 3) := by decide +kernel
theorem dX0_takes_84 : decode cX0_takes 84 = .ok (.aload_n 0, 1) := by decide +kernel
theorem dX0_takes_85 : decode cX0_takes 85 = .ok (.iload_n 1, 1) := by decide +kernel
theorem dX0_takes_86 : decode cX0_takes 86 = .ok (.bipush 20, 2) := by decide +kernel
theorem dX0_takes_88 : decode cX0_takes 88 = .ok (.invokevirtual 47, 3) := by decide +kernel
theorem dX0_takes_91 : decode cX0_takes 91 = .ok (.ireturn, 1) := by decide +kernel
theorem ck_X0_36 : CkV RX0 36 RX0 yX0_endBall cX0_endBall 1 (some .boolean) 0 := ⟨wm_X0_36, wim_yX0_endBall, wse_yX0_endBall, wi_X0, wc_yX0_endBall, by decide +kernel⟩
theorem ck_X0_40 : CkV RX0 40 RX0 yX0_beginsNumber cX0_beginsNumber 4 (some .boolean) 3 := ⟨wm_X0_40, wim_yX0_beginsNumber, wse_yX0_beginsNumber, wi_X0, wc_yX0_beginsNumber, by decide +kernel⟩
theorem ck_X0_44 : CkV RX0 44 RX0 yX0_endsCell cX0_endsCell 1 (some .boolean) 0 := ⟨wm_X0_44, wim_yX0_endsCell, wse_yX0_endsCell, wi_X0, wc_yX0_endsCell, by decide +kernel⟩
theorem ck_X0_47 : CkV RX0 47 RX0 yX0_growsNumber cX0_growsNumber 4 (some .boolean) 2 := ⟨wm_X0_47, wim_yX0_growsNumber, wse_yX0_growsNumber, wi_X0, wc_yX0_growsNumber, by decide +kernel⟩
theorem hc_31 {E : Ev} {a0 : Nat → Nat} {σ0 : N2} : ([0, 1, 2, 3] : List Nat).map (fun i => (wTx E a0 σ0)[i]?) = (wTx E a0 σ0).map some := rfl
theorem ha_31 {E : Ev} {a0 : Nat → Nat} {σ0 : N2} {τ0_0 : N2} : (wTx E a0 τ0_0).map Prod.fst = (wTx E a0 σ0).map Prod.fst := rfl
theorem hw_31 {E : Ev} {a0 : Nat → Nat} {σ0 : N2} {τ0_0 : N2} : wput (wTx E a0 σ0) [0, 1, 2, 3] (wTx E a0 τ0_0) = wTx E a0 τ0_0 := rfl
set_option maxHeartbeats 4000000 in
set_option maxRecDepth 100000 in
theorem kX0_takes (l : Launch) (E : Ev) (a : Nat → Nat) (t : N2) (ch : Int32) : KQ l yX0_takes cX0_takes 2 (some .boolean) 1 23 E [.ref (a 0), .int ch] (wTx E a t) (QI E (wTx E a t) (fX0_takes t ch).1 (wTx E a ((fX0_takes t ch).2))) := by
  refine KQ.mk RX0 rfl (by decide +kernel) (Nat.le_of_ble_eq_true rfl) ?_
  intro p e s m below meth c ls X hr w hl
  have hx := X.1
  have hb := X.2.1
  have hl : lv_has ls 2 [(0, .ref (a 0)), (1, .int ch)] := hl
  refine lv_aload_n hx hb dX0_takes_0 rfl (lv_at hl 0 rfl) ?_
  refine r_get X w CL0 5 (by decide) wf_X0_29 0 rfl rfl dX0_takes_1 ?_
  by_cases c4_1 : (t 3 2) = 0
  · refine lv_tableIn (off := 28) (tgt := 32) hx hb dX0_takes_4 (by rw [c4_1]; decide) (by rw [c4_1]; decide) (by rw [c4_1]; rfl) (by decide) ?_
    refine lv_aload_n hx hb dX0_takes_32 rfl (lv_at hl 0 rfl) ?_
    refine lv_iload_n hx hb dX0_takes_33 rfl (lv_at hl 1 rfl) ?_
    refine lv_bipush (v := 48) hx hb dX0_takes_34 (by decide) ?_
    refine lv_iconst (v := 1) hx hb dX0_takes_36 (by decide) ?_
    refine r_ci w (r_runV (As := [.int ch, .int 48, .int 1]) (rest := []) X w (kX0_beginsNumber l E a t ch 48 1 ) ck_X0_40 ⟨Nat.le_of_ble_eq_true rfl, Nat.le_of_ble_eq_true rfl⟩ [0, 1, 2, 3] (hc_31 (E := E)) (by decide +kernel) (k0 := 0) CL0 rfl hl.1 (Nat.le_of_ble_eq_true rfl) rfl dX0_takes_37 ⟨Nat.le_of_ble_eq_true rfl, Nat.le_of_ble_eq_true rfl⟩) (wTx E a ((fX0_beginsNumber t ch 48 1).2)) [0, 1, 2, 3] (hc_31 (E := E)) (by decide +kernel) (ha_31 (E := E)) (hw_31 (E := E)) (fun H locs w => ?_)
    have hq : fX0_takes t ch = ((fX0_beginsNumber t ch 48 1).1, (fX0_beginsNumber t ch 48 1).2) := by simp only [fX0_takes, if_pos c4_1]
    obtain ⟨h0_, h1_⟩ := tup2 hq
    rw [h0_, h1_]
    exact r_zret X w hr (zX0_beginsNumber _ _ _ _) rfl dX0_takes_40
  · by_cases c4_2 : (t 3 2) = 1
    · refine lv_tableIn (off := 37) (tgt := 41) hx hb dX0_takes_4 (by rw [c4_2]; decide) (by rw [c4_2]; decide) (by rw [c4_2]; rfl) (by decide) ?_
      refine lv_iload_n hx hb dX0_takes_41 rfl (lv_at hl 1 rfl) ?_
      refine lv_bipush (v := 58) hx hb dX0_takes_42 (by decide) ?_
      refine lv_icmp_ne (tgt := 54) hx hb dX0_takes_44 (by decide) (fun c44_3 => ?_) (fun c44_3 => ?_)
      · refine lv_aload_n hx hb dX0_takes_54 rfl (lv_at hl 0 rfl) ?_
        refine lv_iload_n hx hb dX0_takes_55 rfl (lv_at hl 1 rfl) ?_
        refine lv_bipush (v := 60) hx hb dX0_takes_56 (by decide) ?_
        refine r_ci w (r_runV (As := [.int ch, .int 60]) (rest := []) X w (kX0_growsNumber l E a t ch 60 ) ck_X0_47 ⟨Nat.le_of_ble_eq_true rfl, Nat.le_of_ble_eq_true rfl⟩ [0, 1, 2, 3] (hc_31 (E := E)) (by decide +kernel) (k0 := 0) CL0 rfl hl.1 (Nat.le_of_ble_eq_true rfl) rfl dX0_takes_58 ⟨Nat.le_of_ble_eq_true rfl, Nat.le_of_ble_eq_true rfl⟩) (wTx E a ((fX0_growsNumber t ch 60).2)) [0, 1, 2, 3] (hc_31 (E := E)) (by decide +kernel) (ha_31 (E := E)) (hw_31 (E := E)) (fun H locs w => ?_)
        have hq : fX0_takes t ch = ((fX0_growsNumber t ch 60).1, (fX0_growsNumber t ch 60).2) := by simp only [fX0_takes, if_neg c4_1, if_pos c4_2, if_neg c44_3]
        obtain ⟨h0_, h1_⟩ := tup2 hq
        rw [h0_, h1_]
        exact r_zret X w hr (zX0_growsNumber _ _ _) rfl dX0_takes_61
      · refine lv_aload_n hx hb dX0_takes_47 rfl (lv_at hl 0 rfl) ?_
        refine r_ci w (r_runV (As := []) (rest := []) X w (kX0_endsCell l E a t ) ck_X0_44 ⟨Nat.le_of_ble_eq_true rfl, Nat.le_of_ble_eq_true rfl⟩ [0, 1, 2, 3] (hc_31 (E := E)) (by decide +kernel) (k0 := 0) CL0 rfl hl.1 (Nat.le_of_ble_eq_true rfl) rfl dX0_takes_48 ⟨Nat.le_of_ble_eq_true rfl, Nat.le_of_ble_eq_true rfl⟩) (wTx E a ((fX0_endsCell t).2)) [0, 1, 2, 3] (hc_31 (E := E)) (by decide +kernel) (ha_31 (E := E)) (hw_31 (E := E)) (fun H locs w => ?_)
        refine lv_goto (tgt := 61) hx hb dX0_takes_51 (by decide) ?_
        have hq : fX0_takes t ch = ((fX0_endsCell t).1, (fX0_endsCell t).2) := by simp only [fX0_takes, if_neg c4_1, if_pos c4_2, if_pos c44_3]
        obtain ⟨h0_, h1_⟩ := tup2 hq
        rw [h0_, h1_]
        exact r_zret X w hr (zX0_endsCell _) rfl dX0_takes_61
    · by_cases c4_4 : (t 3 2) = 2
      · refine lv_tableIn (off := 58) (tgt := 62) hx hb dX0_takes_4 (by rw [c4_4]; decide) (by rw [c4_4]; decide) (by rw [c4_4]; rfl) (by decide) ?_
        refine lv_aload_n hx hb dX0_takes_62 rfl (lv_at hl 0 rfl) ?_
        refine lv_iload_n hx hb dX0_takes_63 rfl (lv_at hl 1 rfl) ?_
        refine lv_bipush (v := 49) hx hb dX0_takes_64 (by decide) ?_
        refine lv_iconst (v := 3) hx hb dX0_takes_66 (by decide) ?_
        refine r_ci w (r_runV (As := [.int ch, .int 49, .int 3]) (rest := []) X w (kX0_beginsNumber l E a t ch 49 3 ) ck_X0_40 ⟨Nat.le_of_ble_eq_true rfl, Nat.le_of_ble_eq_true rfl⟩ [0, 1, 2, 3] (hc_31 (E := E)) (by decide +kernel) (k0 := 0) CL0 rfl hl.1 (Nat.le_of_ble_eq_true rfl) rfl dX0_takes_67 ⟨Nat.le_of_ble_eq_true rfl, Nat.le_of_ble_eq_true rfl⟩) (wTx E a ((fX0_beginsNumber t ch 49 3).2)) [0, 1, 2, 3] (hc_31 (E := E)) (by decide +kernel) (ha_31 (E := E)) (hw_31 (E := E)) (fun H locs w => ?_)
        have hq : fX0_takes t ch = ((fX0_beginsNumber t ch 49 3).1, (fX0_beginsNumber t ch 49 3).2) := by simp only [fX0_takes, if_neg c4_1, if_neg c4_2, if_pos c4_4]
        obtain ⟨h0_, h1_⟩ := tup2 hq
        rw [h0_, h1_]
        exact r_zret X w hr (zX0_beginsNumber _ _ _ _) rfl dX0_takes_70
      · refine lv_tableOut (tgt := 71) hx hb dX0_takes_4 (tab_out_2 c4_1 c4_2 c4_4) (by decide) ?_
        refine lv_iload_n hx hb dX0_takes_71 rfl (lv_at hl 1 rfl) ?_
        refine lv_bipush (v := 59) hx hb dX0_takes_72 (by decide) ?_
        refine lv_icmp_ne (tgt := 84) hx hb dX0_takes_74 (by decide) (fun c74_5 => ?_) (fun c74_5 => ?_)
        · refine lv_aload_n hx hb dX0_takes_84 rfl (lv_at hl 0 rfl) ?_
          refine lv_iload_n hx hb dX0_takes_85 rfl (lv_at hl 1 rfl) ?_
          refine lv_bipush (v := 20) hx hb dX0_takes_86 (by decide) ?_
          refine r_ci w (r_runV (As := [.int ch, .int 20]) (rest := []) X w (kX0_growsNumber l E a t ch 20 ) ck_X0_47 ⟨Nat.le_of_ble_eq_true rfl, Nat.le_of_ble_eq_true rfl⟩ [0, 1, 2, 3] (hc_31 (E := E)) (by decide +kernel) (k0 := 0) CL0 rfl hl.1 (Nat.le_of_ble_eq_true rfl) rfl dX0_takes_88 ⟨Nat.le_of_ble_eq_true rfl, Nat.le_of_ble_eq_true rfl⟩) (wTx E a ((fX0_growsNumber t ch 20).2)) [0, 1, 2, 3] (hc_31 (E := E)) (by decide +kernel) (ha_31 (E := E)) (hw_31 (E := E)) (fun H locs w => ?_)
          have hq : fX0_takes t ch = ((fX0_growsNumber t ch 20).1, (fX0_growsNumber t ch 20).2) := by simp only [fX0_takes, if_neg c4_1, if_neg c4_2, if_neg c4_4, if_neg c74_5]
          obtain ⟨h0_, h1_⟩ := tup2 hq
          rw [h0_, h1_]
          exact r_zret X w hr (zX0_growsNumber _ _ _) rfl dX0_takes_91
        · refine lv_aload_n hx hb dX0_takes_77 rfl (lv_at hl 0 rfl) ?_
          refine r_ci w (r_runV (As := []) (rest := []) X w (kX0_endBall l E a t ) ck_X0_36 ⟨Nat.le_of_ble_eq_true rfl, Nat.le_of_ble_eq_true rfl⟩ [0, 1, 2, 3] (hc_31 (E := E)) (by decide +kernel) (k0 := 0) CL0 rfl hl.1 (Nat.le_of_ble_eq_true rfl) rfl dX0_takes_78 ⟨Nat.le_of_ble_eq_true rfl, Nat.le_of_ble_eq_true rfl⟩) (wTx E a ((fX0_endBall t).2)) [0, 1, 2, 3] (hc_31 (E := E)) (by decide +kernel) (ha_31 (E := E)) (hw_31 (E := E)) (fun H locs w => ?_)
          refine lv_goto (tgt := 91) hx hb dX0_takes_81 (by decide) ?_
          have hq : fX0_takes t ch = ((fX0_endBall t).1, (fX0_endBall t).2) := by simp only [fX0_takes, if_neg c4_1, if_neg c4_2, if_neg c4_4, if_pos c74_5]
          obtain ⟨h0_, h1_⟩ := tup2 hq
          rw [h0_, h1_]
          exact r_zret X w hr (zX0_endBall _) rfl dX0_takes_91
theorem zX0_takes (t : N2) (ch : Int32) : (fX0_takes t ch).1 = 0 ∨ (fX0_takes t ch).1 = 1 := by
  unfold fX0_takes
  repeat' split
  all_goals first | exact Or.inl rfl | exact Or.inr rfl | (simp; done) | exact zX0_beginsNumber _ _ _ _ | exact zX0_endBall _ | exact zX0_endsCell _ | exact zX0_growsNumber _ _ _
