/-! Shot (printed by wip/whole/gen/p10.py) -/
/-- settings in their ranges -/
def gset (σ : N2) : Prop := ∀ i : Nat, i < 3 → gK (σ 6 i)
def fX3_slow (z : N1) (sp : UInt32) (x : Int32) : UInt32 := (FP.fmul sp (FP.fdiv (FP.i2f x) 1120403456))
theorem dX3_slow_0 : decode cX3_slow 0 = .ok (.aload_n 0, 1) := by decide +kernel
theorem dX3_slow_1 : decode cX3_slow 1 = .ok (.aload_n 0, 1) := by decide +kernel
theorem dX3_slow_2 : decode cX3_slow 2 = .ok (.getfield 33, 3) := by decide +kernel
theorem dX3_slow_5 : decode cX3_slow 5 = .ok (.iload_n 1, 1) := by decide +kernel
theorem dX3_slow_6 : decode cX3_slow 6 = .ok (.i2f, 1) := by decide +kernel
theorem dX3_slow_7 : decode cX3_slow 7 = .ok (.ldc 110, 2) := by decide +kernel
theorem dX3_slow_9 : decode cX3_slow 9 = .ok (.fdiv, 1) := by decide +kernel
theorem dX3_slow_10 : decode cX3_slow 10 = .ok (.fmul, 1) := by decide +kernel
theorem dX3_slow_11 : decode cX3_slow 11 = .ok (.putfield 33, 3) := by decide +kernel
theorem dX3_slow_14 : decode cX3_slow 14 = .ok (.return_, 1) := by decide +kernel
theorem ax_35 {E : Ev} {a0 j0 : Nat} {σ0 : N1} {v0 : UInt32} {x : UInt32} : (wSh a0 j0 σ0 v0).set 0 (a0, .inr (2, ([.ref j0, .int (σ0 0), .float v0, .int (σ0 1), .int (σ0 2), .int (σ0 3), .int (σ0 4), .int (σ0 5), .int (σ0 6)] : List Value).set 2 (.float x))) = wSh a0 j0 σ0 x := rfl
set_option maxHeartbeats 4000000 in
set_option maxRecDepth 100000 in
theorem kX3_slow (l : Launch) (E : Ev) (k : Nat) (j : Nat) (z : N1) (sp : UInt32) (x : Int32) (hv : gV sp) (hk : gK x) : KQ l yX3_slow cX3_slow 2 none 0 0 E [.ref k, .int x] (wSh k j z sp) (QV E (wSh k j z sp) (wSh k j z (fX3_slow z sp x))) := by
  refine KQ.mk RX3 rfl (by decide +kernel) (Nat.le_of_ble_eq_true rfl) ?_
  intro p e s m below meth c ls X hr w hl
  have hx := X.1
  have hb := X.2.1
  have hl : lv_has ls 2 [(0, .ref k), (1, .int x)] := hl
  refine lv_aload_n hx hb dX3_slow_0 rfl (lv_at hl 0 rfl) ?_
  refine lv_aload_n hx hb dX3_slow_1 rfl (lv_at hl 0 rfl) ?_
  refine r_get X w CL3 2 (by decide) wf_X3_33 0 rfl rfl dX3_slow_2 ?_
  refine lv_iload_n hx hb dX3_slow_5 rfl (lv_at hl 1 rfl) ?_
  refine lv_i2f hx hb dX3_slow_6 ?_
  refine r_ldcf X wk_X3_110 dX3_slow_7 ?_
  refine lv_fdiv hx hb dX3_slow_9 (kF_n32 hk) ?_
  refine lv_fmul hx hb dX3_slow_10 (slow_n32 hv hk) ?_
  refine r_put X w (wSh k j z (FP.fmul sp (FP.fdiv (FP.i2f x) 1120403456))) CL3 2 (by decide) wf_X3_33 0 rfl rfl rfl rfl (Nat.le_of_ble_eq_true rfl) (ax_35 (E := E)) dX3_slow_11 (fun H locs w => ?_)
  have hq : fX3_slow z sp x = (FP.fmul sp (FP.fdiv (FP.i2f x) 1120403456)) := rfl
  rw [hq]
  exact r_vret X w hr dX3_slow_14
def fX3_bank (z : N1) (sp : UInt32) (d : N1) (σ : N2) : N1 × UInt32 × N1 × N2 := if ((upd (upd z 4 ((z 4) + 1)) 2 (((upd z 4 ((z 4) + 1)) 2) + ((upd z 4 ((z 4) + 1)) 1))) 2) < 3 then ((upd (upd z 4 ((z 4) + 1)) 2 (((upd z 4 ((z 4) + 1)) 2) + ((upd z 4 ((z 4) + 1)) 1)), (fX3_slow z sp (σ 6 1)), (fX5_turnAtBank d), (fX4_addBank σ ((upd z 4 ((z 4) + 1)) 0)))) else ((upd (upd (upd z 4 ((z 4) + 1)) 2 (((upd z 4 ((z 4) + 1)) 2) + ((upd z 4 ((z 4) + 1)) 1))) 2 (((upd (upd z 4 ((z 4) + 1)) 2 (((upd z 4 ((z 4) + 1)) 2) + ((upd z 4 ((z 4) + 1)) 1))) 2) - 3), (fX3_slow z sp (σ 6 1)), (fX5_turnOnIfOpen (fX5_turnAtBank d)), (fX4_addBank σ ((upd z 4 ((z 4) + 1)) 0))))
theorem dX3_bank_0 : decode cX3_bank 0 = .ok (.aload_n 0, 1) := by decide +kernel
theorem dX3_bank_1 : decode cX3_bank 1 = .ok (.aload_n 1, 1) := by decide +kernel
theorem dX3_bank_2 : decode cX3_bank 2 = .ok (.getfield 74, 3) := by decide +kernel
theorem dX3_bank_5 : decode cX3_bank 5 = .ok (.iconst 1, 1) := by decide +kernel
theorem dX3_bank_6 : decode cX3_bank 6 = .ok (.iaload, 1) := by decide +kernel
theorem dX3_bank_7 : decode cX3_bank 7 = .ok (.invokevirtual 78, 3) := by decide +kernel
theorem dX3_bank_10 : decode cX3_bank 10 = .ok (.aload_n 0, 1) := by decide +kernel
theorem dX3_bank_11 : decode cX3_bank 11 = .ok (.dup, 1) := by decide +kernel
theorem dX3_bank_12 : decode cX3_bank 12 = .ok (.getfield 46, 3) := by decide +kernel
theorem dX3_bank_15 : decode cX3_bank 15 = .ok (.iconst 1, 1) := by decide +kernel
theorem dX3_bank_16 : decode cX3_bank 16 = .ok (.iadd, 1) := by decide +kernel
theorem dX3_bank_17 : decode cX3_bank 17 = .ok (.putfield 46, 3) := by decide +kernel
theorem dX3_bank_20 : decode cX3_bank 20 = .ok (.aload_n 1, 1) := by decide +kernel
theorem dX3_bank_21 : decode cX3_bank 21 = .ok (.aload_n 0, 1) := by decide +kernel
theorem dX3_bank_22 : decode cX3_bank 22 = .ok (.getfield 28, 3) := by decide +kernel
theorem dX3_bank_25 : decode cX3_bank 25 = .ok (.invokevirtual 82, 3) := by decide +kernel
theorem dX3_bank_28 : decode cX3_bank 28 = .ok (.aload_n 0, 1) := by decide +kernel
theorem dX3_bank_29 : decode cX3_bank 29 = .ok (.getfield 12, 3) := by decide +kernel
theorem dX3_bank_32 : decode cX3_bank 32 = .ok (.invokevirtual 85, 3) := by decide +kernel
theorem dX3_bank_35 : decode cX3_bank 35 = .ok (.aload_n 0, 1) := by decide +kernel
theorem dX3_bank_36 : decode cX3_bank 36 = .ok (.dup, 1) := by decide +kernel
theorem dX3_bank_37 : decode cX3_bank 37 = .ok (.getfield 40, 3) := by decide +kernel
theorem dX3_bank_40 : decode cX3_bank 40 = .ok (.aload_n 0, 1) := by decide +kernel
theorem dX3_bank_41 : decode cX3_bank 41 = .ok (.getfield 37, 3) := by decide +kernel
theorem dX3_bank_44 : decode cX3_bank 44 = .ok (.iadd, 1) := by decide +kernel
theorem dX3_bank_45 : decode cX3_bank 45 = .ok (.putfield 40, 3) := by decide +kernel
theorem dX3_bank_48 : decode cX3_bank 48 = .ok (.aload_n 0, 1) := by decide +kernel
theorem dX3_bank_49 : decode cX3_bank 49 = .ok (.getfield 40, 3) := by decide +kernel
theorem dX3_bank_52 : decode cX3_bank 52 = .ok (.iconst 3, 1) := by decide +kernel
theorem dX3_bank_53 : decode cX3_bank 53 = .ok (.if_icmp .lt 20, 3) := by decide +kernel
theorem dX3_bank_56 : decode cX3_bank 56 = .ok (.aload_n 0, 1) := by decide +kernel
theorem dX3_bank_57 : decode cX3_bank 57 = .ok (.dup, 1) := by decide +kernel
theorem dX3_bank_58 : decode cX3_bank 58 = .ok (.getfield 40, 3) := by decide +kernel
theorem dX3_bank_61 : decode cX3_bank 61 = .ok (.iconst 3, 1) := by decide +kernel
theorem dX3_bank_62 : decode cX3_bank 62 = .ok (.isub, 1) := by decide +kernel
theorem dX3_bank_63 : decode cX3_bank 63 = .ok (.putfield 40, 3) := by decide +kernel
theorem dX3_bank_66 : decode cX3_bank 66 = .ok (.aload_n 0, 1) := by decide +kernel
theorem dX3_bank_67 : decode cX3_bank 67 = .ok (.getfield 12, 3) := by decide +kernel
theorem dX3_bank_70 : decode cX3_bank 70 = .ok (.invokevirtual 88, 3) := by decide +kernel
theorem dX3_bank_73 : decode cX3_bank 73 = .ok (.return_, 1) := by decide +kernel
theorem ck_X3_78 : CkV RX3 78 RX3 yX3_slow cX3_slow 2 none 1 := ⟨wm_X3_78, wim_yX3_slow, wse_yX3_slow, wi_X3, wc_yX3_slow, by decide +kernel⟩
theorem ck_X3_82 : CkV RX3 82 RX4 yX4_addBank cX4_addBank 2 none 1 := ⟨wm_X3_82, wim_yX4_addBank, wse_yX4_addBank, wi_X4, wc_yX4_addBank, by decide +kernel⟩
theorem ck_X3_85 : CkV RX3 85 RX5 yX5_turnAtBank cX5_turnAtBank 8 none 0 := ⟨wm_X3_85, wim_yX5_turnAtBank, wse_yX5_turnAtBank, wi_X5, wc_yX5_turnAtBank, by decide +kernel⟩
theorem ck_X3_88 : CkV RX3 88 RX5 yX5_turnOnIfOpen cX5_turnOnIfOpen 2 none 0 := ⟨wm_X3_88, wim_yX5_turnOnIfOpen, wse_yX5_turnOnIfOpen, wi_X5, wc_yX5_turnOnIfOpen, by decide +kernel⟩
theorem hc_36 {E : Ev} {a0 j0 : Nat} {σ0 : N1} {v0 : UInt32} {a1 : Nat} {σ1 : N1} {a2 : Nat → Nat} {σ2 : N2} : ([0] : List Nat).map (fun i => (wSh a0 j0 σ0 v0 ++ (wWk a1 σ1 ++ wSt E a2 σ2))[i]?) = (wSh a0 j0 σ0 v0).map some := rfl
theorem ha_36 {E : Ev} {a0 j0 : Nat} {σ0 : N1} {v0 : UInt32} {τ0_0 : N1} {τ0_1 : UInt32} : (wSh a0 j0 τ0_0 τ0_1).map Prod.fst = (wSh a0 j0 σ0 v0).map Prod.fst := rfl
theorem hw_36 {E : Ev} {a0 j0 : Nat} {σ0 : N1} {v0 : UInt32} {a1 : Nat} {σ1 : N1} {a2 : Nat → Nat} {σ2 : N2} {τ0_0 : N1} {τ0_1 : UInt32} : wput (wSh a0 j0 σ0 v0 ++ (wWk a1 σ1 ++ wSt E a2 σ2)) [0] (wSh a0 j0 τ0_0 τ0_1) = wSh a0 j0 τ0_0 τ0_1 ++ (wWk a1 σ1 ++ wSt E a2 σ2) := rfl
theorem ax_37 {E : Ev} {a0 j0 : Nat} {σ0 : N1} {v0 : UInt32} {a1 : Nat} {σ1 : N1} {a2 : Nat → Nat} {σ2 : N2} {x : Int32} : (wSh a0 j0 σ0 v0 ++ (wWk a1 σ1 ++ wSt E a2 σ2)).set 0 (a0, .inr (2, ([.ref j0, .int (σ0 0), .float v0, .int (σ0 1), .int (σ0 2), .int (σ0 3), .int (σ0 4), .int (σ0 5), .int (σ0 6)] : List Value).set 6 (.int x))) = wSh a0 j0 (upd σ0 4 x) v0 ++ (wWk a1 σ1 ++ wSt E a2 σ2) := rfl
theorem hc_38 {E : Ev} {a0 j0 : Nat} {σ0 : N1} {v0 : UInt32} {a1 : Nat} {σ1 : N1} {a2 : Nat → Nat} {σ2 : N2} : ([2, 3, 4, 5, 6, 7, 8, 9, 10] : List Nat).map (fun i => (wSh a0 j0 σ0 v0 ++ (wWk a1 σ1 ++ wSt E a2 σ2))[i]?) = (wSt E a2 σ2).map some := rfl
theorem ha_38 {E : Ev} {a2 : Nat → Nat} {σ2 : N2} {τ0_0 : N2} : (wSt E a2 τ0_0).map Prod.fst = (wSt E a2 σ2).map Prod.fst := rfl
theorem hw_38 {E : Ev} {a0 j0 : Nat} {σ0 : N1} {v0 : UInt32} {a1 : Nat} {σ1 : N1} {a2 : Nat → Nat} {σ2 : N2} {τ0_0 : N2} : wput (wSh a0 j0 σ0 v0 ++ (wWk a1 σ1 ++ wSt E a2 σ2)) [2, 3, 4, 5, 6, 7, 8, 9, 10] (wSt E a2 τ0_0) = wSh a0 j0 σ0 v0 ++ (wWk a1 σ1 ++ wSt E a2 τ0_0) := rfl
theorem hc_39 {E : Ev} {a0 j0 : Nat} {σ0 : N1} {v0 : UInt32} {a1 : Nat} {σ1 : N1} {a2 : Nat → Nat} {σ2 : N2} : ([1] : List Nat).map (fun i => (wSh a0 j0 σ0 v0 ++ (wWk a1 σ1 ++ wSt E a2 σ2))[i]?) = (wWk a1 σ1).map some := rfl
theorem ha_39 {E : Ev} {a1 : Nat} {σ1 : N1} {τ0_0 : N1} : (wWk a1 τ0_0).map Prod.fst = (wWk a1 σ1).map Prod.fst := rfl
theorem hw_39 {E : Ev} {a0 j0 : Nat} {σ0 : N1} {v0 : UInt32} {a1 : Nat} {σ1 : N1} {a2 : Nat → Nat} {σ2 : N2} {τ0_0 : N1} : wput (wSh a0 j0 σ0 v0 ++ (wWk a1 σ1 ++ wSt E a2 σ2)) [1] (wWk a1 τ0_0) = wSh a0 j0 σ0 v0 ++ (wWk a1 τ0_0 ++ wSt E a2 σ2) := rfl
theorem ax_40 {E : Ev} {a0 j0 : Nat} {σ0 : N1} {v0 : UInt32} {a1 : Nat} {σ1 : N1} {a2 : Nat → Nat} {σ2 : N2} {x : Int32} : (wSh a0 j0 σ0 v0 ++ (wWk a1 σ1 ++ wSt E a2 σ2)).set 0 (a0, .inr (2, ([.ref j0, .int (σ0 0), .float v0, .int (σ0 1), .int (σ0 2), .int (σ0 3), .int (σ0 4), .int (σ0 5), .int (σ0 6)] : List Value).set 4 (.int x))) = wSh a0 j0 (upd σ0 2 x) v0 ++ (wWk a1 σ1 ++ wSt E a2 σ2) := rfl
set_option maxHeartbeats 4000000 in
set_option maxRecDepth 100000 in
theorem kX3_bank (l : Launch) (E : Ev) (k : Nat) (j : Nat) (z : N1) (sp : UInt32) (d : N1) (a : Nat → Nat) (σ : N2) (hv : gV sp) (hs : gset σ) : KQ l yX3_bank cX3_bank 2 none 3 70 E [.ref k, .ref (a 0)] (wSh k j z sp ++ (wWk j d ++ wSt E a σ)) (QV E (wSh k j z sp ++ (wWk j d ++ wSt E a σ)) (wSh k j ((fX3_bank z sp d σ).1) ((fX3_bank z sp d σ).2.1) ++ (wWk j ((fX3_bank z sp d σ).2.2.1) ++ wSt E a ((fX3_bank z sp d σ).2.2.2)))) := by
  refine KQ.mk RX3 rfl (by decide +kernel) (Nat.le_of_ble_eq_true rfl) ?_
  intro p e s m below meth c ls X hr w hl
  have hx := X.1
  have hb := X.2.1
  have hl : lv_has ls 2 [(0, .ref k), (1, .ref (a 0))] := hl
  refine lv_aload_n hx hb dX3_bank_0 rfl (lv_at hl 0 rfl) ?_
  refine lv_aload_n hx hb dX3_bank_1 rfl (lv_at hl 1 rfl) ?_
  refine r_getN X w CL4 6 (by decide) nl_25 2 rfl rfl dX3_bank_2 ?_
  refine lv_iconst (v := 1) hx hb dX3_bank_5 (by decide) ?_
  refine r_ialdL X w 9 rfl (j := 1) rfl (vin_c rfl) dX3_bank_6 ?_
  refine r_cv w (r_runV (As := [.int (σ 6 1)]) (rest := []) X w (kX3_slow l E k j z sp (σ 6 1) hv (hs 1 (by decide))) ck_X3_78 ⟨Nat.le_of_ble_eq_true rfl, Nat.le_of_ble_eq_true rfl⟩ [0] (hc_36 (E := E)) (by decide +kernel) (k0 := 0) CL3 rfl hl.1 (Nat.le_of_ble_eq_true rfl) rfl dX3_bank_7 ⟨Nat.le_of_ble_eq_true rfl, Nat.le_of_ble_eq_true rfl⟩) (wSh k j z (fX3_slow z sp (σ 6 1)) ++ (wWk j d ++ wSt E a σ)) [0] (hc_36 (E := E)) (by decide +kernel) (ha_36 (E := E)) (hw_36 (E := E)) (fun H locs w => ?_)
  refine lv_aload_n hx hb dX3_bank_10 rfl (lv_at hl 0 rfl) ?_
  refine lv_dup hx hb dX3_bank_11 rfl ?_
  refine r_get X w CL3 6 (by decide) wf_X3_46 0 rfl rfl dX3_bank_12 ?_
  refine lv_iconst (v := 1) hx hb dX3_bank_15 (by decide) ?_
  refine lv_iadd hx hb dX3_bank_16 ?_
  refine r_put X w (wSh k j (upd z 4 ((z 4) + 1)) (fX3_slow z sp (σ 6 1)) ++ (wWk j d ++ wSt E a σ)) CL3 6 (by decide) wf_X3_46 0 rfl rfl rfl rfl (Nat.le_of_ble_eq_true rfl) (ax_37 (E := E)) dX3_bank_17 (fun H locs w => ?_)
  refine lv_aload_n hx hb dX3_bank_20 rfl (lv_at hl 1 rfl) ?_
  refine lv_aload_n hx hb dX3_bank_21 rfl (lv_at hl 0 rfl) ?_
  refine r_get X w CL3 1 (by decide) wf_X3_28 0 rfl rfl dX3_bank_22 ?_
  refine r_cv w (r_runV (As := [.int ((upd z 4 ((z 4) + 1)) 0)]) (rest := []) X w (kX4_addBank l E a σ ((upd z 4 ((z 4) + 1)) 0) ) ck_X3_82 ⟨Nat.le_of_ble_eq_true rfl, Nat.le_of_ble_eq_true rfl⟩ [2, 3, 4, 5, 6, 7, 8, 9, 10] (hc_38 (E := E)) (by decide +kernel) (k0 := 0) CL4 rfl hl.1 (Nat.le_of_ble_eq_true rfl) rfl dX3_bank_25 ⟨Nat.le_of_ble_eq_true rfl, Nat.le_of_ble_eq_true rfl⟩) (wSh k j (upd z 4 ((z 4) + 1)) (fX3_slow z sp (σ 6 1)) ++ (wWk j d ++ wSt E a (fX4_addBank σ ((upd z 4 ((z 4) + 1)) 0)))) [2, 3, 4, 5, 6, 7, 8, 9, 10] (hc_38 (E := E)) (by decide +kernel) (ha_38 (E := E)) (hw_38 (E := E)) (fun H locs w => ?_)
  refine lv_aload_n hx hb dX3_bank_28 rfl (lv_at hl 0 rfl) ?_
  refine r_get X w CL3 0 (by decide) wf_X3_12 0 rfl rfl dX3_bank_29 ?_
  refine r_cv w (r_runV (As := []) (rest := []) X w (kX5_turnAtBank l E j d ) ck_X3_85 ⟨Nat.le_of_ble_eq_true rfl, Nat.le_of_ble_eq_true rfl⟩ [1] (hc_39 (E := E)) (by decide +kernel) (k0 := 0) CL5 rfl hl.1 (Nat.le_of_ble_eq_true rfl) rfl dX3_bank_32 ⟨Nat.le_of_ble_eq_true rfl, Nat.le_of_ble_eq_true rfl⟩) (wSh k j (upd z 4 ((z 4) + 1)) (fX3_slow z sp (σ 6 1)) ++ (wWk j (fX5_turnAtBank d) ++ wSt E a (fX4_addBank σ ((upd z 4 ((z 4) + 1)) 0)))) [1] (hc_39 (E := E)) (by decide +kernel) (ha_39 (E := E)) (hw_39 (E := E)) (fun H locs w => ?_)
  refine lv_aload_n hx hb dX3_bank_35 rfl (lv_at hl 0 rfl) ?_
  refine lv_dup hx hb dX3_bank_36 rfl ?_
  refine r_get X w CL3 4 (by decide) wf_X3_40 0 rfl rfl dX3_bank_37 ?_
  refine lv_aload_n hx hb dX3_bank_40 rfl (lv_at hl 0 rfl) ?_
  refine r_get X w CL3 3 (by decide) wf_X3_37 0 rfl rfl dX3_bank_41 ?_
  refine lv_iadd hx hb dX3_bank_44 ?_
  refine r_put X w (wSh k j (upd (upd z 4 ((z 4) + 1)) 2 (((upd z 4 ((z 4) + 1)) 2) + ((upd z 4 ((z 4) + 1)) 1))) (fX3_slow z sp (σ 6 1)) ++ (wWk j (fX5_turnAtBank d) ++ wSt E a (fX4_addBank σ ((upd z 4 ((z 4) + 1)) 0)))) CL3 4 (by decide) wf_X3_40 0 rfl rfl rfl rfl (Nat.le_of_ble_eq_true rfl) (ax_40 (E := E)) dX3_bank_45 (fun H locs w => ?_)
  refine lv_aload_n hx hb dX3_bank_48 rfl (lv_at hl 0 rfl) ?_
  refine r_get X w CL3 4 (by decide) wf_X3_40 0 rfl rfl dX3_bank_49 ?_
  refine lv_iconst (v := 3) hx hb dX3_bank_52 (by decide) ?_
  refine lv_icmp_lt (tgt := 73) hx hb dX3_bank_53 (by decide) (fun c53_1 => ?_) (fun c53_1 => ?_)
  · have hq : fX3_bank z sp d σ = (upd (upd z 4 ((z 4) + 1)) 2 (((upd z 4 ((z 4) + 1)) 2) + ((upd z 4 ((z 4) + 1)) 1)), (fX3_slow z sp (σ 6 1)), (fX5_turnAtBank d), (fX4_addBank σ ((upd z 4 ((z 4) + 1)) 0))) := by simp only [fX3_bank, if_pos c53_1]
    obtain ⟨h0_, h1_, h2_, h3_⟩ := tup4 hq
    rw [h0_, h1_, h2_, h3_]
    exact r_vret X w hr dX3_bank_73
  · refine lv_aload_n hx hb dX3_bank_56 rfl (lv_at hl 0 rfl) ?_
    refine lv_dup hx hb dX3_bank_57 rfl ?_
    refine r_get X w CL3 4 (by decide) wf_X3_40 0 rfl rfl dX3_bank_58 ?_
    refine lv_iconst (v := 3) hx hb dX3_bank_61 (by decide) ?_
    refine lv_isub hx hb dX3_bank_62 ?_
    refine r_put X w (wSh k j (upd (upd (upd z 4 ((z 4) + 1)) 2 (((upd z 4 ((z 4) + 1)) 2) + ((upd z 4 ((z 4) + 1)) 1))) 2 (((upd (upd z 4 ((z 4) + 1)) 2 (((upd z 4 ((z 4) + 1)) 2) + ((upd z 4 ((z 4) + 1)) 1))) 2) - 3)) (fX3_slow z sp (σ 6 1)) ++ (wWk j (fX5_turnAtBank d) ++ wSt E a (fX4_addBank σ ((upd z 4 ((z 4) + 1)) 0)))) CL3 4 (by decide) wf_X3_40 0 rfl rfl rfl rfl (Nat.le_of_ble_eq_true rfl) (ax_40 (E := E)) dX3_bank_63 (fun H locs w => ?_)
    refine lv_aload_n hx hb dX3_bank_66 rfl (lv_at hl 0 rfl) ?_
    refine r_get X w CL3 0 (by decide) wf_X3_12 0 rfl rfl dX3_bank_67 ?_
    refine r_cv w (r_runV (As := []) (rest := []) X w (kX5_turnOnIfOpen l E j (fX5_turnAtBank d) ) ck_X3_88 ⟨Nat.le_of_ble_eq_true rfl, Nat.le_of_ble_eq_true rfl⟩ [1] (hc_39 (E := E)) (by decide +kernel) (k0 := 0) CL5 rfl hl.1 (Nat.le_of_ble_eq_true rfl) rfl dX3_bank_70 ⟨Nat.le_of_ble_eq_true rfl, Nat.le_of_ble_eq_true rfl⟩) (wSh k j (upd (upd (upd z 4 ((z 4) + 1)) 2 (((upd z 4 ((z 4) + 1)) 2) + ((upd z 4 ((z 4) + 1)) 1))) 2 (((upd (upd z 4 ((z 4) + 1)) 2 (((upd z 4 ((z 4) + 1)) 2) + ((upd z 4 ((z 4) + 1)) 1))) 2) - 3)) (fX3_slow z sp (σ 6 1)) ++ (wWk j (fX5_turnOnIfOpen (fX5_turnAtBank d)) ++ wSt E a (fX4_addBank σ ((upd z 4 ((z 4) + 1)) 0)))) [1] (hc_39 (E := E)) (by decide +kernel) (ha_39 (E := E)) (hw_39 (E := E)) (fun H locs w => ?_)
    have hq : fX3_bank z sp d σ = (upd (upd (upd z 4 ((z 4) + 1)) 2 (((upd z 4 ((z 4) + 1)) 2) + ((upd z 4 ((z 4) + 1)) 1))) 2 (((upd (upd z 4 ((z 4) + 1)) 2 (((upd z 4 ((z 4) + 1)) 2) + ((upd z 4 ((z 4) + 1)) 1))) 2) - 3), (fX3_slow z sp (σ 6 1)), (fX5_turnOnIfOpen (fX5_turnAtBank d)), (fX4_addBank σ ((upd z 4 ((z 4) + 1)) 0))) := by simp only [fX3_bank, if_neg c53_1]
    obtain ⟨h0_, h1_, h2_, h3_⟩ := tup4 hq
    rw [h0_, h1_, h2_, h3_]
    exact r_vret X w hr dX3_bank_73
def fX3_hit (z : N1) (sp : UInt32) (d : N1) (σ : N2) (ot : Int32) : N1 × UInt32 × N1 × N2 := (upd (upd (upd (upd z 5 ((z 5) + 1)) 0 ot) 1 0) 2 0, (fX3_slow z sp (σ 6 2)), (fX5_stepAhead d), (fX4_addHit σ ((upd z 5 ((z 5) + 1)) 0)))
theorem dX3_hit_0 : decode cX3_hit 0 = .ok (.aload_n 0, 1) := by decide +kernel
theorem dX3_hit_1 : decode cX3_hit 1 = .ok (.aload_n 1, 1) := by decide +kernel
theorem dX3_hit_2 : decode cX3_hit 2 = .ok (.getfield 74, 3) := by decide +kernel
theorem dX3_hit_5 : decode cX3_hit 5 = .ok (.iconst 2, 1) := by decide +kernel
theorem dX3_hit_6 : decode cX3_hit 6 = .ok (.iaload, 1) := by decide +kernel
theorem dX3_hit_7 : decode cX3_hit 7 = .ok (.invokevirtual 78, 3) := by decide +kernel
theorem dX3_hit_10 : decode cX3_hit 10 = .ok (.aload_n 0, 1) := by decide +kernel
theorem dX3_hit_11 : decode cX3_hit 11 = .ok (.dup, 1) := by decide +kernel
theorem dX3_hit_12 : decode cX3_hit 12 = .ok (.getfield 49, 3) := by decide +kernel
theorem dX3_hit_15 : decode cX3_hit 15 = .ok (.iconst 1, 1) := by decide +kernel
theorem dX3_hit_16 : decode cX3_hit 16 = .ok (.iadd, 1) := by decide +kernel
theorem dX3_hit_17 : decode cX3_hit 17 = .ok (.putfield 49, 3) := by decide +kernel
theorem dX3_hit_20 : decode cX3_hit 20 = .ok (.aload_n 1, 1) := by decide +kernel
theorem dX3_hit_21 : decode cX3_hit 21 = .ok (.aload_n 0, 1) := by decide +kernel
theorem dX3_hit_22 : decode cX3_hit 22 = .ok (.getfield 28, 3) := by decide +kernel
theorem dX3_hit_25 : decode cX3_hit 25 = .ok (.invokevirtual 91, 3) := by decide +kernel
theorem dX3_hit_28 : decode cX3_hit 28 = .ok (.aload_n 0, 1) := by decide +kernel
theorem dX3_hit_29 : decode cX3_hit 29 = .ok (.iload_n 2, 1) := by decide +kernel
theorem dX3_hit_30 : decode cX3_hit 30 = .ok (.putfield 28, 3) := by decide +kernel
theorem dX3_hit_33 : decode cX3_hit 33 = .ok (.aload_n 0, 1) := by decide +kernel
theorem dX3_hit_34 : decode cX3_hit 34 = .ok (.iconst 0, 1) := by decide +kernel
theorem dX3_hit_35 : decode cX3_hit 35 = .ok (.putfield 37, 3) := by decide +kernel
theorem dX3_hit_38 : decode cX3_hit 38 = .ok (.aload_n 0, 1) := by decide +kernel
theorem dX3_hit_39 : decode cX3_hit 39 = .ok (.iconst 0, 1) := by decide +kernel
theorem dX3_hit_40 : decode cX3_hit 40 = .ok (.putfield 40, 3) := by decide +kernel
theorem dX3_hit_43 : decode cX3_hit 43 = .ok (.aload_n 0, 1) := by decide +kernel
theorem dX3_hit_44 : decode cX3_hit 44 = .ok (.getfield 12, 3) := by decide +kernel
theorem dX3_hit_47 : decode cX3_hit 47 = .ok (.invokevirtual 94, 3) := by decide +kernel
theorem dX3_hit_50 : decode cX3_hit 50 = .ok (.return_, 1) := by decide +kernel
theorem ck_X3_91 : CkV RX3 91 RX4 yX4_addHit cX4_addHit 2 none 1 := ⟨wm_X3_91, wim_yX4_addHit, wse_yX4_addHit, wi_X4, wc_yX4_addHit, by decide +kernel⟩
theorem ck_X3_94 : CkV RX3 94 RX5 yX5_stepAhead cX5_stepAhead 1 none 0 := ⟨wm_X3_94, wim_yX5_stepAhead, wse_yX5_stepAhead, wi_X5, wc_yX5_stepAhead, by decide +kernel⟩
theorem ax_41 {E : Ev} {a0 j0 : Nat} {σ0 : N1} {v0 : UInt32} {a1 : Nat} {σ1 : N1} {a2 : Nat → Nat} {σ2 : N2} {x : Int32} : (wSh a0 j0 σ0 v0 ++ (wWk a1 σ1 ++ wSt E a2 σ2)).set 0 (a0, .inr (2, ([.ref j0, .int (σ0 0), .float v0, .int (σ0 1), .int (σ0 2), .int (σ0 3), .int (σ0 4), .int (σ0 5), .int (σ0 6)] : List Value).set 7 (.int x))) = wSh a0 j0 (upd σ0 5 x) v0 ++ (wWk a1 σ1 ++ wSt E a2 σ2) := rfl
theorem ax_42 {E : Ev} {a0 j0 : Nat} {σ0 : N1} {v0 : UInt32} {a1 : Nat} {σ1 : N1} {a2 : Nat → Nat} {σ2 : N2} {x : Int32} : (wSh a0 j0 σ0 v0 ++ (wWk a1 σ1 ++ wSt E a2 σ2)).set 0 (a0, .inr (2, ([.ref j0, .int (σ0 0), .float v0, .int (σ0 1), .int (σ0 2), .int (σ0 3), .int (σ0 4), .int (σ0 5), .int (σ0 6)] : List Value).set 1 (.int x))) = wSh a0 j0 (upd σ0 0 x) v0 ++ (wWk a1 σ1 ++ wSt E a2 σ2) := rfl
theorem ax_43 {E : Ev} {a0 j0 : Nat} {σ0 : N1} {v0 : UInt32} {a1 : Nat} {σ1 : N1} {a2 : Nat → Nat} {σ2 : N2} {x : Int32} : (wSh a0 j0 σ0 v0 ++ (wWk a1 σ1 ++ wSt E a2 σ2)).set 0 (a0, .inr (2, ([.ref j0, .int (σ0 0), .float v0, .int (σ0 1), .int (σ0 2), .int (σ0 3), .int (σ0 4), .int (σ0 5), .int (σ0 6)] : List Value).set 3 (.int x))) = wSh a0 j0 (upd σ0 1 x) v0 ++ (wWk a1 σ1 ++ wSt E a2 σ2) := rfl
set_option maxHeartbeats 4000000 in
set_option maxRecDepth 100000 in
theorem kX3_hit (l : Launch) (E : Ev) (k : Nat) (j : Nat) (z : N1) (sp : UInt32) (d : N1) (a : Nat → Nat) (σ : N2) (ot : Int32) (hv : gV sp) (hs : gset σ) : KQ l yX3_hit cX3_hit 3 none 3 60 E [.ref k, .ref (a 0), .int ot] (wSh k j z sp ++ (wWk j d ++ wSt E a σ)) (QV E (wSh k j z sp ++ (wWk j d ++ wSt E a σ)) (wSh k j ((fX3_hit z sp d σ ot).1) ((fX3_hit z sp d σ ot).2.1) ++ (wWk j ((fX3_hit z sp d σ ot).2.2.1) ++ wSt E a ((fX3_hit z sp d σ ot).2.2.2)))) := by
  refine KQ.mk RX3 rfl (by decide +kernel) (Nat.le_of_ble_eq_true rfl) ?_
  intro p e s m below meth c ls X hr w hl
  have hx := X.1
  have hb := X.2.1
  have hl : lv_has ls 3 [(0, .ref k), (1, .ref (a 0)), (2, .int ot)] := hl
  refine lv_aload_n hx hb dX3_hit_0 rfl (lv_at hl 0 rfl) ?_
  refine lv_aload_n hx hb dX3_hit_1 rfl (lv_at hl 1 rfl) ?_
  refine r_getN X w CL4 6 (by decide) nl_25 2 rfl rfl dX3_hit_2 ?_
  refine lv_iconst (v := 2) hx hb dX3_hit_5 (by decide) ?_
  refine r_ialdL X w 9 rfl (j := 2) rfl (vin_c rfl) dX3_hit_6 ?_
  refine r_cv w (r_runV (As := [.int (σ 6 2)]) (rest := []) X w (kX3_slow l E k j z sp (σ 6 2) hv (hs 2 (by decide))) ck_X3_78 ⟨Nat.le_of_ble_eq_true rfl, Nat.le_of_ble_eq_true rfl⟩ [0] (hc_36 (E := E)) (by decide +kernel) (k0 := 0) CL3 rfl hl.1 (Nat.le_of_ble_eq_true rfl) rfl dX3_hit_7 ⟨Nat.le_of_ble_eq_true rfl, Nat.le_of_ble_eq_true rfl⟩) (wSh k j z (fX3_slow z sp (σ 6 2)) ++ (wWk j d ++ wSt E a σ)) [0] (hc_36 (E := E)) (by decide +kernel) (ha_36 (E := E)) (hw_36 (E := E)) (fun H locs w => ?_)
  refine lv_aload_n hx hb dX3_hit_10 rfl (lv_at hl 0 rfl) ?_
  refine lv_dup hx hb dX3_hit_11 rfl ?_
  refine r_get X w CL3 7 (by decide) wf_X3_49 0 rfl rfl dX3_hit_12 ?_
  refine lv_iconst (v := 1) hx hb dX3_hit_15 (by decide) ?_
  refine lv_iadd hx hb dX3_hit_16 ?_
  refine r_put X w (wSh k j (upd z 5 ((z 5) + 1)) (fX3_slow z sp (σ 6 2)) ++ (wWk j d ++ wSt E a σ)) CL3 7 (by decide) wf_X3_49 0 rfl rfl rfl rfl (Nat.le_of_ble_eq_true rfl) (ax_41 (E := E)) dX3_hit_17 (fun H locs w => ?_)
  refine lv_aload_n hx hb dX3_hit_20 rfl (lv_at hl 1 rfl) ?_
  refine lv_aload_n hx hb dX3_hit_21 rfl (lv_at hl 0 rfl) ?_
  refine r_get X w CL3 1 (by decide) wf_X3_28 0 rfl rfl dX3_hit_22 ?_
  refine r_cv w (r_runV (As := [.int ((upd z 5 ((z 5) + 1)) 0)]) (rest := []) X w (kX4_addHit l E a σ ((upd z 5 ((z 5) + 1)) 0) ) ck_X3_91 ⟨Nat.le_of_ble_eq_true rfl, Nat.le_of_ble_eq_true rfl⟩ [2, 3, 4, 5, 6, 7, 8, 9, 10] (hc_38 (E := E)) (by decide +kernel) (k0 := 0) CL4 rfl hl.1 (Nat.le_of_ble_eq_true rfl) rfl dX3_hit_25 ⟨Nat.le_of_ble_eq_true rfl, Nat.le_of_ble_eq_true rfl⟩) (wSh k j (upd z 5 ((z 5) + 1)) (fX3_slow z sp (σ 6 2)) ++ (wWk j d ++ wSt E a (fX4_addHit σ ((upd z 5 ((z 5) + 1)) 0)))) [2, 3, 4, 5, 6, 7, 8, 9, 10] (hc_38 (E := E)) (by decide +kernel) (ha_38 (E := E)) (hw_38 (E := E)) (fun H locs w => ?_)
  refine lv_aload_n hx hb dX3_hit_28 rfl (lv_at hl 0 rfl) ?_
  refine lv_iload_n hx hb dX3_hit_29 rfl (lv_at hl 2 rfl) ?_
  refine r_put X w (wSh k j (upd (upd z 5 ((z 5) + 1)) 0 ot) (fX3_slow z sp (σ 6 2)) ++ (wWk j d ++ wSt E a (fX4_addHit σ ((upd z 5 ((z 5) + 1)) 0)))) CL3 1 (by decide) wf_X3_28 0 rfl rfl rfl rfl (Nat.le_of_ble_eq_true rfl) (ax_42 (E := E)) dX3_hit_30 (fun H locs w => ?_)
  refine lv_aload_n hx hb dX3_hit_33 rfl (lv_at hl 0 rfl) ?_
  refine lv_iconst (v := 0) hx hb dX3_hit_34 (by decide) ?_
  refine r_put X w (wSh k j (upd (upd (upd z 5 ((z 5) + 1)) 0 ot) 1 0) (fX3_slow z sp (σ 6 2)) ++ (wWk j d ++ wSt E a (fX4_addHit σ ((upd z 5 ((z 5) + 1)) 0)))) CL3 3 (by decide) wf_X3_37 0 rfl rfl rfl rfl (Nat.le_of_ble_eq_true rfl) (ax_43 (E := E)) dX3_hit_35 (fun H locs w => ?_)
  refine lv_aload_n hx hb dX3_hit_38 rfl (lv_at hl 0 rfl) ?_
  refine lv_iconst (v := 0) hx hb dX3_hit_39 (by decide) ?_
  refine r_put X w (wSh k j (upd (upd (upd (upd z 5 ((z 5) + 1)) 0 ot) 1 0) 2 0) (fX3_slow z sp (σ 6 2)) ++ (wWk j d ++ wSt E a (fX4_addHit σ ((upd z 5 ((z 5) + 1)) 0)))) CL3 4 (by decide) wf_X3_40 0 rfl rfl rfl rfl (Nat.le_of_ble_eq_true rfl) (ax_40 (E := E)) dX3_hit_40 (fun H locs w => ?_)
  refine lv_aload_n hx hb dX3_hit_43 rfl (lv_at hl 0 rfl) ?_
  refine r_get X w CL3 0 (by decide) wf_X3_12 0 rfl rfl dX3_hit_44 ?_
  refine r_cv w (r_runV (As := []) (rest := []) X w (kX5_stepAhead l E j d ) ck_X3_94 ⟨Nat.le_of_ble_eq_true rfl, Nat.le_of_ble_eq_true rfl⟩ [1] (hc_39 (E := E)) (by decide +kernel) (k0 := 0) CL5 rfl hl.1 (Nat.le_of_ble_eq_true rfl) rfl dX3_hit_47 ⟨Nat.le_of_ble_eq_true rfl, Nat.le_of_ble_eq_true rfl⟩) (wSh k j (upd (upd (upd (upd z 5 ((z 5) + 1)) 0 ot) 1 0) 2 0) (fX3_slow z sp (σ 6 2)) ++ (wWk j (fX5_stepAhead d) ++ wSt E a (fX4_addHit σ ((upd z 5 ((z 5) + 1)) 0)))) [1] (hc_39 (E := E)) (by decide +kernel) (ha_39 (E := E)) (hw_39 (E := E)) (fun H locs w => ?_)
  have hq : fX3_hit z sp d σ ot = (upd (upd (upd (upd z 5 ((z 5) + 1)) 0 ot) 1 0) 2 0, (fX3_slow z sp (σ 6 2)), (fX5_stepAhead d), (fX4_addHit σ ((upd z 5 ((z 5) + 1)) 0))) := rfl
  obtain ⟨h0_, h1_, h2_, h3_⟩ := tup4 hq
  rw [h0_, h1_, h2_, h3_]
  exact r_vret X w hr dX3_hit_50
def fX3_step (z : N1) (sp : UInt32) (d : N1) (σ : N2) (ce : Int32) : N1 × UInt32 × N1 × N2 := if (fX4_isOpenPot (fX4_place (fX4_addStep σ ((upd z 3 ((z 3) + 1)) 0)) ((upd z 3 ((z 3) + 1)) 0) ce) ce) = 0 then ((upd z 3 ((z 3) + 1), (fX3_slow z sp (σ 6 0)), (fX5_stepAhead d), (fX4_place (fX4_addStep σ ((upd z 3 ((z 3) + 1)) 0)) ((upd z 3 ((z 3) + 1)) 0) ce))) else ((upd (upd z 3 ((z 3) + 1)) 6 ((upd z 3 ((z 3) + 1)) 0), (fX3_slow z sp (σ 6 0)), (fX5_stepAhead d), (fX4_lift (fX4_place (fX4_addStep σ ((upd z 3 ((z 3) + 1)) 0)) ((upd z 3 ((z 3) + 1)) 0) ce) ((upd z 3 ((z 3) + 1)) 0))))
theorem dX3_step_0 : decode cX3_step 0 = .ok (.aload_n 0, 1) := by decide +kernel
theorem dX3_step_1 : decode cX3_step 1 = .ok (.aload_n 1, 1) := by decide +kernel
theorem dX3_step_2 : decode cX3_step 2 = .ok (.getfield 74, 3) := by decide +kernel
theorem dX3_step_5 : decode cX3_step 5 = .ok (.iconst 0, 1) := by decide +kernel
theorem dX3_step_6 : decode cX3_step 6 = .ok (.iaload, 1) := by decide +kernel
theorem dX3_step_7 : decode cX3_step 7 = .ok (.invokevirtual 78, 3) := by decide +kernel
theorem dX3_step_10 : decode cX3_step 10 = .ok (.aload_n 0, 1) := by decide +kernel
theorem dX3_step_11 : decode cX3_step 11 = .ok (.dup, 1) := by decide +kernel
theorem dX3_step_12 : decode cX3_step 12 = .ok (.getfield 43, 3) := by decide +kernel
theorem dX3_step_15 : decode cX3_step 15 = .ok (.iconst 1, 1) := by decide +kernel
theorem dX3_step_16 : decode cX3_step 16 = .ok (.iadd, 1) := by decide +kernel
theorem dX3_step_17 : decode cX3_step 17 = .ok (.putfield 43, 3) := by decide +kernel
theorem dX3_step_20 : decode cX3_step 20 = .ok (.aload_n 1, 1) := by decide +kernel
theorem dX3_step_21 : decode cX3_step 21 = .ok (.aload_n 0, 1) := by decide +kernel
theorem dX3_step_22 : decode cX3_step 22 = .ok (.getfield 28, 3) := by decide +kernel
theorem dX3_step_25 : decode cX3_step 25 = .ok (.invokevirtual 97, 3) := by decide +kernel
theorem dX3_step_28 : decode cX3_step 28 = .ok (.aload_n 1, 1) := by decide +kernel
theorem dX3_step_29 : decode cX3_step 29 = .ok (.aload_n 0, 1) := by decide +kernel
theorem dX3_step_30 : decode cX3_step 30 = .ok (.getfield 28, 3) := by decide +kernel
theorem dX3_step_33 : decode cX3_step 33 = .ok (.iload_n 2, 1) := by decide +kernel
theorem dX3_step_34 : decode cX3_step 34 = .ok (.invokevirtual 100, 3) := by decide +kernel
theorem dX3_step_37 : decode cX3_step 37 = .ok (.aload_n 0, 1) := by decide +kernel
theorem dX3_step_38 : decode cX3_step 38 = .ok (.getfield 12, 3) := by decide +kernel
theorem dX3_step_41 : decode cX3_step 41 = .ok (.invokevirtual 94, 3) := by decide +kernel
theorem dX3_step_44 : decode cX3_step 44 = .ok (.aload_n 1, 1) := by decide +kernel
theorem dX3_step_45 : decode cX3_step 45 = .ok (.iload_n 2, 1) := by decide +kernel
theorem dX3_step_46 : decode cX3_step 46 = .ok (.invokevirtual 103, 3) := by decide +kernel
theorem dX3_step_49 : decode cX3_step 49 = .ok (.ifCond .eq 19, 3) := by decide +kernel
theorem dX3_step_52 : decode cX3_step 52 = .ok (.aload_n 1, 1) := by decide +kernel
theorem dX3_step_53 : decode cX3_step 53 = .ok (.aload_n 0, 1) := by decide +kernel
theorem dX3_step_54 : decode cX3_step 54 = .ok (.getfield 28, 3) := by decide +kernel
theorem dX3_step_57 : decode cX3_step 57 = .ok (.invokevirtual 107, 3) := by decide +kernel
theorem dX3_step_60 : decode cX3_step 60 = .ok (.aload_n 0, 1) := by decide +kernel
theorem dX3_step_61 : decode cX3_step 61 = .ok (.aload_n 0, 1) := by decide +kernel
theorem dX3_step_62 : decode cX3_step 62 = .ok (.getfield 28, 3) := by decide +kernel
theorem dX3_step_65 : decode cX3_step 65 = .ok (.putfield 52, 3) := by decide +kernel
theorem dX3_step_68 : decode cX3_step 68 = .ok (.return_, 1) := by decide +kernel
theorem ck_X3_97 : CkV RX3 97 RX4 yX4_addStep cX4_addStep 2 none 1 := ⟨wm_X3_97, wim_yX4_addStep, wse_yX4_addStep, wi_X4, wc_yX4_addStep, by decide +kernel⟩
theorem ck_X3_100 : CkV RX3 100 RX4 yX4_place cX4_place 3 none 2 := ⟨wm_X3_100, wim_yX4_place, wse_yX4_place, wi_X4, wc_yX4_place, by decide +kernel⟩
theorem ck_X3_103 : CkV RX3 103 RX4 yX4_isOpenPot cX4_isOpenPot 3 (some .boolean) 1 := ⟨wm_X3_103, wim_yX4_isOpenPot, wse_yX4_isOpenPot, wi_X4, wc_yX4_isOpenPot, by decide +kernel⟩
theorem ck_X3_107 : CkV RX3 107 RX4 yX4_lift cX4_lift 2 none 1 := ⟨wm_X3_107, wim_yX4_lift, wse_yX4_lift, wi_X4, wc_yX4_lift, by decide +kernel⟩
theorem ax_44 {E : Ev} {a0 j0 : Nat} {σ0 : N1} {v0 : UInt32} {a1 : Nat} {σ1 : N1} {a2 : Nat → Nat} {σ2 : N2} {x : Int32} : (wSh a0 j0 σ0 v0 ++ (wWk a1 σ1 ++ wSt E a2 σ2)).set 0 (a0, .inr (2, ([.ref j0, .int (σ0 0), .float v0, .int (σ0 1), .int (σ0 2), .int (σ0 3), .int (σ0 4), .int (σ0 5), .int (σ0 6)] : List Value).set 5 (.int x))) = wSh a0 j0 (upd σ0 3 x) v0 ++ (wWk a1 σ1 ++ wSt E a2 σ2) := rfl
theorem ax_45 {E : Ev} {a0 j0 : Nat} {σ0 : N1} {v0 : UInt32} {a1 : Nat} {σ1 : N1} {a2 : Nat → Nat} {σ2 : N2} {x : Int32} : (wSh a0 j0 σ0 v0 ++ (wWk a1 σ1 ++ wSt E a2 σ2)).set 0 (a0, .inr (2, ([.ref j0, .int (σ0 0), .float v0, .int (σ0 1), .int (σ0 2), .int (σ0 3), .int (σ0 4), .int (σ0 5), .int (σ0 6)] : List Value).set 8 (.int x))) = wSh a0 j0 (upd σ0 6 x) v0 ++ (wWk a1 σ1 ++ wSt E a2 σ2) := rfl
set_option maxHeartbeats 4000000 in
set_option maxRecDepth 100000 in
theorem kX3_step (l : Launch) (E : Ev) (k : Nat) (j : Nat) (z : N1) (sp : UInt32) (d : N1) (a : Nat → Nat) (σ : N2) (ce : Int32) (hv : gV sp) (hs : gset σ) : KQ l yX3_step cX3_step 3 none 3 63 E [.ref k, .ref (a 0), .int ce] (wSh k j z sp ++ (wWk j d ++ wSt E a σ)) (QV E (wSh k j z sp ++ (wWk j d ++ wSt E a σ)) (wSh k j ((fX3_step z sp d σ ce).1) ((fX3_step z sp d σ ce).2.1) ++ (wWk j ((fX3_step z sp d σ ce).2.2.1) ++ wSt E a ((fX3_step z sp d σ ce).2.2.2)))) := by
  refine KQ.mk RX3 rfl (by decide +kernel) (Nat.le_of_ble_eq_true rfl) ?_
  intro p e s m below meth c ls X hr w hl
  have hx := X.1
  have hb := X.2.1
  have hl : lv_has ls 3 [(0, .ref k), (1, .ref (a 0)), (2, .int ce)] := hl
  refine lv_aload_n hx hb dX3_step_0 rfl (lv_at hl 0 rfl) ?_
  refine lv_aload_n hx hb dX3_step_1 rfl (lv_at hl 1 rfl) ?_
  refine r_getN X w CL4 6 (by decide) nl_25 2 rfl rfl dX3_step_2 ?_
  refine lv_iconst (v := 0) hx hb dX3_step_5 (by decide) ?_
  refine r_ialdL X w 9 rfl (j := 0) rfl (vin_c rfl) dX3_step_6 ?_
  refine r_cv w (r_runV (As := [.int (σ 6 0)]) (rest := []) X w (kX3_slow l E k j z sp (σ 6 0) hv (hs 0 (by decide))) ck_X3_78 ⟨Nat.le_of_ble_eq_true rfl, Nat.le_of_ble_eq_true rfl⟩ [0] (hc_36 (E := E)) (by decide +kernel) (k0 := 0) CL3 rfl hl.1 (Nat.le_of_ble_eq_true rfl) rfl dX3_step_7 ⟨Nat.le_of_ble_eq_true rfl, Nat.le_of_ble_eq_true rfl⟩) (wSh k j z (fX3_slow z sp (σ 6 0)) ++ (wWk j d ++ wSt E a σ)) [0] (hc_36 (E := E)) (by decide +kernel) (ha_36 (E := E)) (hw_36 (E := E)) (fun H locs w => ?_)
  refine lv_aload_n hx hb dX3_step_10 rfl (lv_at hl 0 rfl) ?_
  refine lv_dup hx hb dX3_step_11 rfl ?_
  refine r_get X w CL3 5 (by decide) wf_X3_43 0 rfl rfl dX3_step_12 ?_
  refine lv_iconst (v := 1) hx hb dX3_step_15 (by decide) ?_
  refine lv_iadd hx hb dX3_step_16 ?_
  refine r_put X w (wSh k j (upd z 3 ((z 3) + 1)) (fX3_slow z sp (σ 6 0)) ++ (wWk j d ++ wSt E a σ)) CL3 5 (by decide) wf_X3_43 0 rfl rfl rfl rfl (Nat.le_of_ble_eq_true rfl) (ax_44 (E := E)) dX3_step_17 (fun H locs w => ?_)
  refine lv_aload_n hx hb dX3_step_20 rfl (lv_at hl 1 rfl) ?_
  refine lv_aload_n hx hb dX3_step_21 rfl (lv_at hl 0 rfl) ?_
  refine r_get X w CL3 1 (by decide) wf_X3_28 0 rfl rfl dX3_step_22 ?_
  refine r_cv w (r_runV (As := [.int ((upd z 3 ((z 3) + 1)) 0)]) (rest := []) X w (kX4_addStep l E a σ ((upd z 3 ((z 3) + 1)) 0) ) ck_X3_97 ⟨Nat.le_of_ble_eq_true rfl, Nat.le_of_ble_eq_true rfl⟩ [2, 3, 4, 5, 6, 7, 8, 9, 10] (hc_38 (E := E)) (by decide +kernel) (k0 := 0) CL4 rfl hl.1 (Nat.le_of_ble_eq_true rfl) rfl dX3_step_25 ⟨Nat.le_of_ble_eq_true rfl, Nat.le_of_ble_eq_true rfl⟩) (wSh k j (upd z 3 ((z 3) + 1)) (fX3_slow z sp (σ 6 0)) ++ (wWk j d ++ wSt E a (fX4_addStep σ ((upd z 3 ((z 3) + 1)) 0)))) [2, 3, 4, 5, 6, 7, 8, 9, 10] (hc_38 (E := E)) (by decide +kernel) (ha_38 (E := E)) (hw_38 (E := E)) (fun H locs w => ?_)
  refine lv_aload_n hx hb dX3_step_28 rfl (lv_at hl 1 rfl) ?_
  refine lv_aload_n hx hb dX3_step_29 rfl (lv_at hl 0 rfl) ?_
  refine r_get X w CL3 1 (by decide) wf_X3_28 0 rfl rfl dX3_step_30 ?_
  refine lv_iload_n hx hb dX3_step_33 rfl (lv_at hl 2 rfl) ?_
  refine r_cv w (r_runV (As := [.int ((upd z 3 ((z 3) + 1)) 0), .int ce]) (rest := []) X w (kX4_place l E a (fX4_addStep σ ((upd z 3 ((z 3) + 1)) 0)) ((upd z 3 ((z 3) + 1)) 0) ce ) ck_X3_100 ⟨Nat.le_of_ble_eq_true rfl, Nat.le_of_ble_eq_true rfl⟩ [2, 3, 4, 5, 6, 7, 8, 9, 10] (hc_38 (E := E)) (by decide +kernel) (k0 := 0) CL4 rfl hl.1 (Nat.le_of_ble_eq_true rfl) rfl dX3_step_34 ⟨Nat.le_of_ble_eq_true rfl, Nat.le_of_ble_eq_true rfl⟩) (wSh k j (upd z 3 ((z 3) + 1)) (fX3_slow z sp (σ 6 0)) ++ (wWk j d ++ wSt E a (fX4_place (fX4_addStep σ ((upd z 3 ((z 3) + 1)) 0)) ((upd z 3 ((z 3) + 1)) 0) ce))) [2, 3, 4, 5, 6, 7, 8, 9, 10] (hc_38 (E := E)) (by decide +kernel) (ha_38 (E := E)) (hw_38 (E := E)) (fun H locs w => ?_)
  refine lv_aload_n hx hb dX3_step_37 rfl (lv_at hl 0 rfl) ?_
  refine r_get X w CL3 0 (by decide) wf_X3_12 0 rfl rfl dX3_step_38 ?_
  refine r_cv w (r_runV (As := []) (rest := []) X w (kX5_stepAhead l E j d ) ck_X3_94 ⟨Nat.le_of_ble_eq_true rfl, Nat.le_of_ble_eq_true rfl⟩ [1] (hc_39 (E := E)) (by decide +kernel) (k0 := 0) CL5 rfl hl.1 (Nat.le_of_ble_eq_true rfl) rfl dX3_step_41 ⟨Nat.le_of_ble_eq_true rfl, Nat.le_of_ble_eq_true rfl⟩) (wSh k j (upd z 3 ((z 3) + 1)) (fX3_slow z sp (σ 6 0)) ++ (wWk j (fX5_stepAhead d) ++ wSt E a (fX4_place (fX4_addStep σ ((upd z 3 ((z 3) + 1)) 0)) ((upd z 3 ((z 3) + 1)) 0) ce))) [1] (hc_39 (E := E)) (by decide +kernel) (ha_39 (E := E)) (hw_39 (E := E)) (fun H locs w => ?_)
  refine lv_aload_n hx hb dX3_step_44 rfl (lv_at hl 1 rfl) ?_
  refine lv_iload_n hx hb dX3_step_45 rfl (lv_at hl 2 rfl) ?_
  refine r_ci w (r_runV (As := [.int ce]) (rest := []) X w (kX4_isOpenPot l E a (fX4_place (fX4_addStep σ ((upd z 3 ((z 3) + 1)) 0)) ((upd z 3 ((z 3) + 1)) 0) ce) ce ) ck_X3_103 ⟨Nat.le_of_ble_eq_true rfl, Nat.le_of_ble_eq_true rfl⟩ [2, 3, 4, 5, 6, 7, 8, 9, 10] (hc_38 (E := E)) (by decide +kernel) (k0 := 0) CL4 rfl hl.1 (Nat.le_of_ble_eq_true rfl) rfl dX3_step_46 ⟨Nat.le_of_ble_eq_true rfl, Nat.le_of_ble_eq_true rfl⟩) (wSh k j (upd z 3 ((z 3) + 1)) (fX3_slow z sp (σ 6 0)) ++ (wWk j (fX5_stepAhead d) ++ wSt E a (fX4_place (fX4_addStep σ ((upd z 3 ((z 3) + 1)) 0)) ((upd z 3 ((z 3) + 1)) 0) ce))) [2, 3, 4, 5, 6, 7, 8, 9, 10] (hc_38 (E := E)) (by decide +kernel) (ha_38 (E := E)) (hw_38 (E := E)) (fun H locs w => ?_)
  refine lv_if_eq (tgt := 68) hx hb dX3_step_49 (by decide) (fun c49_1 => ?_) (fun c49_1 => ?_)
  · have hq : fX3_step z sp d σ ce = (upd z 3 ((z 3) + 1), (fX3_slow z sp (σ 6 0)), (fX5_stepAhead d), (fX4_place (fX4_addStep σ ((upd z 3 ((z 3) + 1)) 0)) ((upd z 3 ((z 3) + 1)) 0) ce)) := by simp only [fX3_step, if_pos c49_1]
    obtain ⟨h0_, h1_, h2_, h3_⟩ := tup4 hq
    rw [h0_, h1_, h2_, h3_]
    exact r_vret X w hr dX3_step_68
  · refine lv_aload_n hx hb dX3_step_52 rfl (lv_at hl 1 rfl) ?_
    refine lv_aload_n hx hb dX3_step_53 rfl (lv_at hl 0 rfl) ?_
    refine r_get X w CL3 1 (by decide) wf_X3_28 0 rfl rfl dX3_step_54 ?_
    refine r_cv w (r_runV (As := [.int ((upd z 3 ((z 3) + 1)) 0)]) (rest := []) X w (kX4_lift l E a (fX4_place (fX4_addStep σ ((upd z 3 ((z 3) + 1)) 0)) ((upd z 3 ((z 3) + 1)) 0) ce) ((upd z 3 ((z 3) + 1)) 0) ) ck_X3_107 ⟨Nat.le_of_ble_eq_true rfl, Nat.le_of_ble_eq_true rfl⟩ [2, 3, 4, 5, 6, 7, 8, 9, 10] (hc_38 (E := E)) (by decide +kernel) (k0 := 0) CL4 rfl hl.1 (Nat.le_of_ble_eq_true rfl) rfl dX3_step_57 ⟨Nat.le_of_ble_eq_true rfl, Nat.le_of_ble_eq_true rfl⟩) (wSh k j (upd z 3 ((z 3) + 1)) (fX3_slow z sp (σ 6 0)) ++ (wWk j (fX5_stepAhead d) ++ wSt E a (fX4_lift (fX4_place (fX4_addStep σ ((upd z 3 ((z 3) + 1)) 0)) ((upd z 3 ((z 3) + 1)) 0) ce) ((upd z 3 ((z 3) + 1)) 0)))) [2, 3, 4, 5, 6, 7, 8, 9, 10] (hc_38 (E := E)) (by decide +kernel) (ha_38 (E := E)) (hw_38 (E := E)) (fun H locs w => ?_)
    refine lv_aload_n hx hb dX3_step_60 rfl (lv_at hl 0 rfl) ?_
    refine lv_aload_n hx hb dX3_step_61 rfl (lv_at hl 0 rfl) ?_
    refine r_get X w CL3 1 (by decide) wf_X3_28 0 rfl rfl dX3_step_62 ?_
    refine r_put X w (wSh k j (upd (upd z 3 ((z 3) + 1)) 6 ((upd z 3 ((z 3) + 1)) 0)) (fX3_slow z sp (σ 6 0)) ++ (wWk j (fX5_stepAhead d) ++ wSt E a (fX4_lift (fX4_place (fX4_addStep σ ((upd z 3 ((z 3) + 1)) 0)) ((upd z 3 ((z 3) + 1)) 0) ce) ((upd z 3 ((z 3) + 1)) 0)))) CL3 8 (by decide) wf_X3_52 0 rfl rfl rfl rfl (Nat.le_of_ble_eq_true rfl) (ax_45 (E := E)) dX3_step_65 (fun H locs w => ?_)
    have hq : fX3_step z sp d σ ce = (upd (upd z 3 ((z 3) + 1)) 6 ((upd z 3 ((z 3) + 1)) 0), (fX3_slow z sp (σ 6 0)), (fX5_stepAhead d), (fX4_lift (fX4_place (fX4_addStep σ ((upd z 3 ((z 3) + 1)) 0)) ((upd z 3 ((z 3) + 1)) 0) ce) ((upd z 3 ((z 3) + 1)) 0))) := by simp only [fX3_step, if_neg c49_1]
    obtain ⟨h0_, h1_, h2_, h3_⟩ := tup4 hq
    rw [h0_, h1_, h2_, h3_]
    exact r_vret X w hr dX3_step_68
/-- one event of a shot -/
def plB (z : N1) (sp : UInt32) (d : N1) (σ : N2) : N1 × UInt32 × N1 × N2 := if fX5_cellAhead d = (-5) then fX3_bank z sp d σ else if fX4_ballOnCell σ (fX5_cellAhead d) = (-5) then fX3_step z sp d σ (fX5_cellAhead d) else fX3_hit z sp d σ (fX4_ballOnCell σ (fX5_cellAhead d))
def plN : Nat → N1 → UInt32 → N1 → N2 → N1 × UInt32 × N1 × N2
  | 0, z, sp, d, σ => (z, sp, d, σ)
  | n + 1, z, sp, d, σ => if (Op.cmpValue (FP.fcmp sp FP.fconst1) .l) < 0 then (z, sp, d, σ) else if z 6 = (-5) then plN n (plB z sp d σ).1 (plB z sp d σ).2.1 (plB z sp d σ).2.2.1 (plB z sp d σ).2.2.2 else (z, sp, d, σ)
/-- a shot's first numbers -/
def plZ (z : N1) (bl sn : Int32) : N1 := upd (upd (upd (upd (upd (upd (upd z 0 bl) 1 sn) 2 0) 3 0) 4 0) 5 0) 6 (-5)
def fX3_play (z : N1) (sp : UInt32) (d : N1) (σ : N2) (bl di sg sn : Int32) : N1 × UInt32 × N1 × N2 := plN 1000000 (plZ z bl sn) (FP.fdiv (FP.i2f sg) 1092616192) (fX5_startAt d (fX4_cellOfBall σ bl) di) σ
theorem addBank_6 (σ : N2) (b : Int32) : fX4_addBank σ b 6 = σ 6 := by unfold fX4_addBank; split <;> rfl
theorem addHit_6 (σ : N2) (b : Int32) : fX4_addHit σ b 6 = σ 6 := by unfold fX4_addHit; split <;> rfl
theorem addStep_6 (σ : N2) (b : Int32) : fX4_addStep σ b 6 = σ 6 := by unfold fX4_addStep; split <;> rfl
theorem lift_6 (σ : N2) (b : Int32) : fX4_lift σ b 6 = σ 6 := by
  unfold fX4_lift
  repeat' split
  all_goals rfl
theorem place_6 (σ : N2) (b c : Int32) : fX4_place σ b c 6 = σ 6 := by
  have h : (u2 (u2 (fX4_lift σ b) 0 b.toNatClampNeg c) 5 c.toNatClampNeg b) 6 = (fX4_lift σ b) 6 := rfl
  unfold fX4_place
  repeat' split
  · rfl
  · rfl
  · exact h.trans (lift_6 σ b)
theorem bank_g {z : N1} {sp : UInt32} {d : N1} {σ : N2} (hv : gV sp) (hs : gset σ) : gW (fX3_bank z sp d σ).2.1 ∧ gset (fX3_bank z sp d σ).2.2.2 := by
  have h1 : gW (fX3_slow z sp (σ 6 1)) := slow_gW hv (hs 1 (by decide))
  unfold fX3_bank
  split
  · exact ⟨h1, fun i hi => by show gK (fX4_addBank σ _ 6 i); rw [addBank_6]; exact hs i hi⟩
  · exact ⟨h1, fun i hi => by show gK (fX4_addBank σ _ 6 i); rw [addBank_6]; exact hs i hi⟩
theorem hit_g {z : N1} {sp : UInt32} {d : N1} {σ : N2} {ot : Int32} (hv : gV sp) (hs : gset σ) : gW (fX3_hit z sp d σ ot).2.1 ∧ gset (fX3_hit z sp d σ ot).2.2.2 := by
  have h1 : gW (fX3_slow z sp (σ 6 2)) := slow_gW hv (hs 2 (by decide))
  unfold fX3_hit
  exact ⟨h1, fun i hi => by show gK (fX4_addHit σ _ 6 i); rw [addHit_6]; exact hs i hi⟩
theorem step_g {z : N1} {sp : UInt32} {d : N1} {σ : N2} {ce : Int32} (hv : gV sp) (hs : gset σ) : gW (fX3_step z sp d σ ce).2.1 ∧ gset (fX3_step z sp d σ ce).2.2.2 := by
  have h1 : gW (fX3_slow z sp (σ 6 0)) := slow_gW hv (hs 0 (by decide))
  unfold fX3_step
  split
  · exact ⟨h1, fun i hi => by show gK (fX4_place (fX4_addStep σ _) _ _ 6 i); rw [place_6, addStep_6]; exact hs i hi⟩
  · exact ⟨h1, fun i hi => by show gK (fX4_lift (fX4_place (fX4_addStep σ _) _ _) _ 6 i); rw [lift_6, place_6, addStep_6]; exact hs i hi⟩
theorem dX3_play_0 : decode cX3_play 0 = .ok (.aload_n 0, 1) := by decide +kernel
theorem dX3_play_1 : decode cX3_play 1 = .ok (.getfield 12, 3) := by decide +kernel
theorem dX3_play_4 : decode cX3_play 4 = .ok (.aload_n 1, 1) := by decide +kernel
theorem dX3_play_5 : decode cX3_play 5 = .ok (.iload_n 2, 1) := by decide +kernel
theorem dX3_play_6 : decode cX3_play 6 = .ok (.invokevirtual 18, 3) := by decide +kernel
theorem dX3_play_9 : decode cX3_play 9 = .ok (.iload_n 3, 1) := by decide +kernel
theorem dX3_play_10 : decode cX3_play 10 = .ok (.invokevirtual 24, 3) := by decide +kernel
theorem dX3_play_13 : decode cX3_play 13 = .ok (.aload_n 0, 1) := by decide +kernel
theorem dX3_play_14 : decode cX3_play 14 = .ok (.iload_n 2, 1) := by decide +kernel
theorem dX3_play_15 : decode cX3_play 15 = .ok (.putfield 28, 3) := by decide +kernel
theorem dX3_play_18 : decode cX3_play 18 = .ok (.aload_n 0, 1) := by decide +kernel
theorem dX3_play_19 : decode cX3_play 19 = .ok (.iload 4, 2) := by decide +kernel
theorem dX3_play_21 : decode cX3_play 21 = .ok (.i2f, 1) := by decide +kernel
theorem dX3_play_22 : decode cX3_play 22 = .ok (.ldc 32, 2) := by decide +kernel
theorem dX3_play_24 : decode cX3_play 24 = .ok (.fdiv, 1) := by decide +kernel
theorem dX3_play_25 : decode cX3_play 25 = .ok (.putfield 33, 3) := by decide +kernel
theorem dX3_play_28 : decode cX3_play 28 = .ok (.aload_n 0, 1) := by decide +kernel
theorem dX3_play_29 : decode cX3_play 29 = .ok (.iload 5, 2) := by decide +kernel
theorem dX3_play_31 : decode cX3_play 31 = .ok (.putfield 37, 3) := by decide +kernel
theorem dX3_play_34 : decode cX3_play 34 = .ok (.aload_n 0, 1) := by decide +kernel
theorem dX3_play_35 : decode cX3_play 35 = .ok (.iconst 0, 1) := by decide +kernel
theorem dX3_play_36 : decode cX3_play 36 = .ok (.putfield 40, 3) := by decide +kernel
theorem dX3_play_39 : decode cX3_play 39 = .ok (.aload_n 0, 1) := by decide +kernel
theorem dX3_play_40 : decode cX3_play 40 = .ok (.iconst 0, 1) := by decide +kernel
theorem dX3_play_41 : decode cX3_play 41 = .ok (.putfield 43, 3) := by decide +kernel
theorem dX3_play_44 : decode cX3_play 44 = .ok (.aload_n 0, 1) := by decide +kernel
theorem dX3_play_45 : decode cX3_play 45 = .ok (.iconst 0, 1) := by decide +kernel
theorem dX3_play_46 : decode cX3_play 46 = .ok (.putfield 46, 3) := by decide +kernel
theorem dX3_play_49 : decode cX3_play 49 = .ok (.aload_n 0, 1) := by decide +kernel
theorem dX3_play_50 : decode cX3_play 50 = .ok (.iconst 0, 1) := by decide +kernel
theorem dX3_play_51 : decode cX3_play 51 = .ok (.putfield 49, 3) := by decide +kernel
theorem dX3_play_54 : decode cX3_play 54 = .ok (.aload_n 0, 1) := by decide +kernel
theorem dX3_play_55 : decode cX3_play 55 = .ok (.bipush (-5), 2) := by decide +kernel
theorem dX3_play_57 : decode cX3_play 57 = .ok (.putfield 52, 3) := by decide +kernel
theorem dX3_play_60 : decode cX3_play 60 = .ok (.iconst 0, 1) := by decide +kernel
theorem dX3_play_61 : decode cX3_play 61 = .ok (.istore 6, 2) := by decide +kernel
theorem dX3_play_63 : decode cX3_play 63 = .ok (.iload 6, 2) := by decide +kernel
theorem dX3_play_65 : decode cX3_play 65 = .ok (.ldc 55, 2) := by decide +kernel
theorem dX3_play_67 : decode cX3_play 67 = .ok (.if_icmp .ge 83, 3) := by decide +kernel
theorem dX3_play_70 : decode cX3_play 70 = .ok (.aload_n 0, 1) := by decide +kernel
theorem dX3_play_71 : decode cX3_play 71 = .ok (.getfield 33, 3) := by decide +kernel
theorem dX3_play_74 : decode cX3_play 74 = .ok (.fconst 1, 1) := by decide +kernel
theorem dX3_play_75 : decode cX3_play 75 = .ok (.fcmp .l, 1) := by decide +kernel
theorem dX3_play_76 : decode cX3_play 76 = .ok (.ifCond .lt 74, 3) := by decide +kernel
theorem dX3_play_79 : decode cX3_play 79 = .ok (.aload_n 0, 1) := by decide +kernel
theorem dX3_play_80 : decode cX3_play 80 = .ok (.getfield 52, 3) := by decide +kernel
theorem dX3_play_83 : decode cX3_play 83 = .ok (.bipush (-5), 2) := by decide +kernel
theorem dX3_play_85 : decode cX3_play 85 = .ok (.if_icmp .ne 65, 3) := by decide +kernel
theorem dX3_play_88 : decode cX3_play 88 = .ok (.aload_n 0, 1) := by decide +kernel
theorem dX3_play_89 : decode cX3_play 89 = .ok (.getfield 12, 3) := by decide +kernel
theorem dX3_play_92 : decode cX3_play 92 = .ok (.invokevirtual 56, 3) := by decide +kernel
theorem dX3_play_95 : decode cX3_play 95 = .ok (.istore 7, 2) := by decide +kernel
theorem dX3_play_97 : decode cX3_play 97 = .ok (.aload_n 1, 1) := by decide +kernel
theorem dX3_play_98 : decode cX3_play 98 = .ok (.iload 7, 2) := by decide +kernel
theorem dX3_play_100 : decode cX3_play 100 = .ok (.invokevirtual 60, 3) := by decide +kernel
theorem dX3_play_103 : decode cX3_play 103 = .ok (.istore 8, 2) := by decide +kernel
theorem dX3_play_105 : decode cX3_play 105 = .ok (.iload 7, 2) := by decide +kernel
theorem dX3_play_107 : decode cX3_play 107 = .ok (.bipush (-5), 2) := by decide +kernel
theorem dX3_play_109 : decode cX3_play 109 = .ok (.if_icmp .ne 11, 3) := by decide +kernel
theorem dX3_play_112 : decode cX3_play 112 = .ok (.aload_n 0, 1) := by decide +kernel
theorem dX3_play_113 : decode cX3_play 113 = .ok (.aload_n 1, 1) := by decide +kernel
theorem dX3_play_114 : decode cX3_play 114 = .ok (.invokevirtual 63, 3) := by decide +kernel
theorem dX3_play_117 : decode cX3_play 117 = .ok (.goto 27, 3) := by decide +kernel
theorem dX3_play_120 : decode cX3_play 120 = .ok (.iload 8, 2) := by decide +kernel
theorem dX3_play_122 : decode cX3_play 122 = .ok (.bipush (-5), 2) := by decide +kernel
theorem dX3_play_124 : decode cX3_play 124 = .ok (.if_icmp .ne 13, 3) := by decide +kernel
theorem dX3_play_127 : decode cX3_play 127 = .ok (.aload_n 0, 1) := by decide +kernel
theorem dX3_play_128 : decode cX3_play 128 = .ok (.aload_n 1, 1) := by decide +kernel
theorem dX3_play_129 : decode cX3_play 129 = .ok (.iload 7, 2) := by decide +kernel
theorem dX3_play_131 : decode cX3_play 131 = .ok (.invokevirtual 67, 3) := by decide +kernel
theorem dX3_play_134 : decode cX3_play 134 = .ok (.goto 10, 3) := by decide +kernel
theorem dX3_play_137 : decode cX3_play 137 = .ok (.aload_n 0, 1) := by decide +kernel
theorem dX3_play_138 : decode cX3_play 138 = .ok (.aload_n 1, 1) := by decide +kernel
theorem dX3_play_139 : decode cX3_play 139 = .ok (.iload 8, 2) := by decide +kernel
theorem dX3_play_141 : decode cX3_play 141 = .ok (.invokevirtual 71, 3) := by decide +kernel
theorem dX3_play_144 : decode cX3_play 144 = .ok (.iinc 6 1, 3) := by decide +kernel
theorem dX3_play_147 : decode cX3_play 147 = .ok (.goto (-84), 3) := by decide +kernel
theorem dX3_play_150 : decode cX3_play 150 = .ok (.return_, 1) := by decide +kernel
theorem ck_X3_18 : CkV RX3 18 RX4 yX4_cellOfBall cX4_cellOfBall 2 (some .int) 1 := ⟨wm_X3_18, wim_yX4_cellOfBall, wse_yX4_cellOfBall, wi_X4, wc_yX4_cellOfBall, by decide +kernel⟩
theorem ck_X3_24 : CkV RX3 24 RX5 yX5_startAt cX5_startAt 3 none 2 := ⟨wm_X3_24, wim_yX5_startAt, wse_yX5_startAt, wi_X5, wc_yX5_startAt, by decide +kernel⟩
theorem ck_X3_56 : CkV RX3 56 RX5 yX5_cellAhead cX5_cellAhead 1 (some .int) 0 := ⟨wm_X3_56, wim_yX5_cellAhead, wse_yX5_cellAhead, wi_X5, wc_yX5_cellAhead, by decide +kernel⟩
theorem ck_X3_60 : CkV RX3 60 RX4 yX4_ballOnCell cX4_ballOnCell 2 (some .int) 1 := ⟨wm_X3_60, wim_yX4_ballOnCell, wse_yX4_ballOnCell, wi_X4, wc_yX4_ballOnCell, by decide +kernel⟩
theorem ck_X3_63 : CkV RX3 63 RX3 yX3_bank cX3_bank 2 none 1 := ⟨wm_X3_63, wim_yX3_bank, wse_yX3_bank, wi_X3, wc_yX3_bank, by decide +kernel⟩
theorem ck_X3_67 : CkV RX3 67 RX3 yX3_step cX3_step 3 none 2 := ⟨wm_X3_67, wim_yX3_step, wse_yX3_step, wi_X3, wc_yX3_step, by decide +kernel⟩
theorem ck_X3_71 : CkV RX3 71 RX3 yX3_hit cX3_hit 3 none 2 := ⟨wm_X3_71, wim_yX3_hit, wse_yX3_hit, wi_X3, wc_yX3_hit, by decide +kernel⟩
theorem ax_46 {E : Ev} {a0 j0 : Nat} {σ0 : N1} {v0 : UInt32} {a1 : Nat} {σ1 : N1} {a2 : Nat → Nat} {σ2 : N2} {x : UInt32} : (wSh a0 j0 σ0 v0 ++ (wWk a1 σ1 ++ wSt E a2 σ2)).set 0 (a0, .inr (2, ([.ref j0, .int (σ0 0), .float v0, .int (σ0 1), .int (σ0 2), .int (σ0 3), .int (σ0 4), .int (σ0 5), .int (σ0 6)] : List Value).set 2 (.float x))) = wSh a0 j0 σ0 x ++ (wWk a1 σ1 ++ wSt E a2 σ2) := rfl
theorem hc_47 {E : Ev} {a0 j0 : Nat} {σ0 : N1} {v0 : UInt32} {a1 : Nat} {σ1 : N1} {a2 : Nat → Nat} {σ2 : N2} : ([0, 1, 2, 3, 4, 5, 6, 7, 8, 9, 10] : List Nat).map (fun i => (wSh a0 j0 σ0 v0 ++ (wWk a1 σ1 ++ wSt E a2 σ2))[i]?) = (wSh a0 j0 σ0 v0 ++ (wWk a1 σ1 ++ wSt E a2 σ2)).map some := rfl
theorem ha_47 {E : Ev} {a0 j0 : Nat} {σ0 : N1} {v0 : UInt32} {a1 : Nat} {σ1 : N1} {a2 : Nat → Nat} {σ2 : N2} {τ0_0 : N1} {τ0_1 : UInt32} {τ1_0 : N1} {τ2_0 : N2} : (wSh a0 j0 τ0_0 τ0_1 ++ (wWk a1 τ1_0 ++ wSt E a2 τ2_0)).map Prod.fst = (wSh a0 j0 σ0 v0 ++ (wWk a1 σ1 ++ wSt E a2 σ2)).map Prod.fst := rfl
theorem hw_47 {E : Ev} {a0 j0 : Nat} {σ0 : N1} {v0 : UInt32} {a1 : Nat} {σ1 : N1} {a2 : Nat → Nat} {σ2 : N2} {τ0_0 : N1} {τ0_1 : UInt32} {τ1_0 : N1} {τ2_0 : N2} : wput (wSh a0 j0 σ0 v0 ++ (wWk a1 σ1 ++ wSt E a2 σ2)) [0, 1, 2, 3, 4, 5, 6, 7, 8, 9, 10] (wSh a0 j0 τ0_0 τ0_1 ++ (wWk a1 τ1_0 ++ wSt E a2 τ2_0)) = wSh a0 j0 τ0_0 τ0_1 ++ (wWk a1 τ1_0 ++ wSt E a2 τ2_0) := rfl
set_option maxHeartbeats 4000000 in
set_option maxRecDepth 100000 in
theorem kX3_play (l : Launch) (E : Ev) (k : Nat) (j : Nat) (z : N1) (sp : UInt32) (d : N1) (a : Nat → Nat) (σ : N2) (bl : Int32) (di : Int32) (sg : Int32) (sn : Int32) (hs : gset σ) (hg : 10 ≤ sg.toInt ∧ sg.toInt ≤ 999) : KQ l yX3_play cX3_play 9 none 4 91 E [.ref k, .ref (a 0), .int bl, .int di, .int sg, .int sn] (wSh k j z sp ++ (wWk j d ++ wSt E a σ)) (QV E (wSh k j z sp ++ (wWk j d ++ wSt E a σ)) (wSh k j ((fX3_play z sp d σ bl di sg sn).1) ((fX3_play z sp d σ bl di sg sn).2.1) ++ (wWk j ((fX3_play z sp d σ bl di sg sn).2.2.1) ++ wSt E a ((fX3_play z sp d σ bl di sg sn).2.2.2)))) := by
  refine KQ.mk RX3 rfl (by decide +kernel) (Nat.le_of_ble_eq_true rfl) ?_
  intro p e s m below meth c ls X hr w hl
  have hx := X.1
  have hb := X.2.1
  have hl : lv_has ls 9 [(0, .ref k), (1, .ref (a 0)), (2, .int bl), (3, .int di), (4, .int sg), (5, .int sn)] := hl
  refine lv_aload_n hx hb dX3_play_0 rfl (lv_at hl 0 rfl) ?_
  refine r_get X w CL3 0 (by decide) wf_X3_12 0 rfl rfl dX3_play_1 ?_
  refine lv_aload_n hx hb dX3_play_4 rfl (lv_at hl 1 rfl) ?_
  refine lv_iload_n hx hb dX3_play_5 rfl (lv_at hl 2 rfl) ?_
  refine r_ci w (r_runV (As := [.int bl]) (rest := [.ref j]) X w (kX4_cellOfBall l E a σ bl ) ck_X3_18 ⟨Nat.le_of_ble_eq_true rfl, Nat.le_of_ble_eq_true rfl⟩ [2, 3, 4, 5, 6, 7, 8, 9, 10] (hc_38 (E := E)) (by decide +kernel) (k0 := 0) CL4 rfl hl.1 (Nat.le_of_ble_eq_true rfl) rfl dX3_play_6 ⟨Nat.le_of_ble_eq_true rfl, Nat.le_of_ble_eq_true rfl⟩) (wSh k j z sp ++ (wWk j d ++ wSt E a σ)) [2, 3, 4, 5, 6, 7, 8, 9, 10] (hc_38 (E := E)) (by decide +kernel) (ha_38 (E := E)) (hw_38 (E := E)) (fun H locs w => ?_)
  refine lv_iload_n hx hb dX3_play_9 rfl (lv_at hl 3 rfl) ?_
  refine r_cv w (r_runV (As := [.int (fX4_cellOfBall σ bl), .int di]) (rest := []) X w (kX5_startAt l E j d (fX4_cellOfBall σ bl) di ) ck_X3_24 ⟨Nat.le_of_ble_eq_true rfl, Nat.le_of_ble_eq_true rfl⟩ [1] (hc_39 (E := E)) (by decide +kernel) (k0 := 0) CL5 rfl hl.1 (Nat.le_of_ble_eq_true rfl) rfl dX3_play_10 ⟨Nat.le_of_ble_eq_true rfl, Nat.le_of_ble_eq_true rfl⟩) (wSh k j z sp ++ (wWk j (fX5_startAt d (fX4_cellOfBall σ bl) di) ++ wSt E a σ)) [1] (hc_39 (E := E)) (by decide +kernel) (ha_39 (E := E)) (hw_39 (E := E)) (fun H locs w => ?_)
  refine lv_aload_n hx hb dX3_play_13 rfl (lv_at hl 0 rfl) ?_
  refine lv_iload_n hx hb dX3_play_14 rfl (lv_at hl 2 rfl) ?_
  refine r_put X w (wSh k j (upd z 0 bl) sp ++ (wWk j (fX5_startAt d (fX4_cellOfBall σ bl) di) ++ wSt E a σ)) CL3 1 (by decide) wf_X3_28 0 rfl rfl rfl rfl (Nat.le_of_ble_eq_true rfl) (ax_42 (E := E)) dX3_play_15 (fun H locs w => ?_)
  refine lv_aload_n hx hb dX3_play_18 rfl (lv_at hl 0 rfl) ?_
  refine lv_iload hx hb dX3_play_19 (lv_at hl 4 rfl) ?_
  refine lv_i2f hx hb dX3_play_21 ?_
  refine r_ldcf X wk_X3_32 dX3_play_22 ?_
  refine lv_fdiv hx hb dX3_play_24 (gV_n32 (first_gV hg.1 hg.2)) ?_
  refine r_put X w (wSh k j (upd z 0 bl) (FP.fdiv (FP.i2f sg) 1092616192) ++ (wWk j (fX5_startAt d (fX4_cellOfBall σ bl) di) ++ wSt E a σ)) CL3 2 (by decide) wf_X3_33 0 rfl rfl rfl rfl (Nat.le_of_ble_eq_true rfl) (ax_46 (E := E)) dX3_play_25 (fun H locs w => ?_)
  refine lv_aload_n hx hb dX3_play_28 rfl (lv_at hl 0 rfl) ?_
  refine lv_iload hx hb dX3_play_29 (lv_at hl 5 rfl) ?_
  refine r_put X w (wSh k j (upd (upd z 0 bl) 1 sn) (FP.fdiv (FP.i2f sg) 1092616192) ++ (wWk j (fX5_startAt d (fX4_cellOfBall σ bl) di) ++ wSt E a σ)) CL3 3 (by decide) wf_X3_37 0 rfl rfl rfl rfl (Nat.le_of_ble_eq_true rfl) (ax_43 (E := E)) dX3_play_31 (fun H locs w => ?_)
  refine lv_aload_n hx hb dX3_play_34 rfl (lv_at hl 0 rfl) ?_
  refine lv_iconst (v := 0) hx hb dX3_play_35 (by decide) ?_
  refine r_put X w (wSh k j (upd (upd (upd z 0 bl) 1 sn) 2 0) (FP.fdiv (FP.i2f sg) 1092616192) ++ (wWk j (fX5_startAt d (fX4_cellOfBall σ bl) di) ++ wSt E a σ)) CL3 4 (by decide) wf_X3_40 0 rfl rfl rfl rfl (Nat.le_of_ble_eq_true rfl) (ax_40 (E := E)) dX3_play_36 (fun H locs w => ?_)
  refine lv_aload_n hx hb dX3_play_39 rfl (lv_at hl 0 rfl) ?_
  refine lv_iconst (v := 0) hx hb dX3_play_40 (by decide) ?_
  refine r_put X w (wSh k j (upd (upd (upd (upd z 0 bl) 1 sn) 2 0) 3 0) (FP.fdiv (FP.i2f sg) 1092616192) ++ (wWk j (fX5_startAt d (fX4_cellOfBall σ bl) di) ++ wSt E a σ)) CL3 5 (by decide) wf_X3_43 0 rfl rfl rfl rfl (Nat.le_of_ble_eq_true rfl) (ax_44 (E := E)) dX3_play_41 (fun H locs w => ?_)
  refine lv_aload_n hx hb dX3_play_44 rfl (lv_at hl 0 rfl) ?_
  refine lv_iconst (v := 0) hx hb dX3_play_45 (by decide) ?_
  refine r_put X w (wSh k j (upd (upd (upd (upd (upd z 0 bl) 1 sn) 2 0) 3 0) 4 0) (FP.fdiv (FP.i2f sg) 1092616192) ++ (wWk j (fX5_startAt d (fX4_cellOfBall σ bl) di) ++ wSt E a σ)) CL3 6 (by decide) wf_X3_46 0 rfl rfl rfl rfl (Nat.le_of_ble_eq_true rfl) (ax_37 (E := E)) dX3_play_46 (fun H locs w => ?_)
  refine lv_aload_n hx hb dX3_play_49 rfl (lv_at hl 0 rfl) ?_
  refine lv_iconst (v := 0) hx hb dX3_play_50 (by decide) ?_
  refine r_put X w (wSh k j (upd (upd (upd (upd (upd (upd z 0 bl) 1 sn) 2 0) 3 0) 4 0) 5 0) (FP.fdiv (FP.i2f sg) 1092616192) ++ (wWk j (fX5_startAt d (fX4_cellOfBall σ bl) di) ++ wSt E a σ)) CL3 7 (by decide) wf_X3_49 0 rfl rfl rfl rfl (Nat.le_of_ble_eq_true rfl) (ax_41 (E := E)) dX3_play_51 (fun H locs w => ?_)
  refine lv_aload_n hx hb dX3_play_54 rfl (lv_at hl 0 rfl) ?_
  refine lv_bipush (v := (-5)) hx hb dX3_play_55 (by decide) ?_
  refine r_put X w (wSh k j (upd (upd (upd (upd (upd (upd (upd z 0 bl) 1 sn) 2 0) 3 0) 4 0) 5 0) 6 (-5)) (FP.fdiv (FP.i2f sg) 1092616192) ++ (wWk j (fX5_startAt d (fX4_cellOfBall σ bl) di) ++ wSt E a σ)) CL3 8 (by decide) wf_X3_52 0 rfl rfl rfl rfl (Nat.le_of_ble_eq_true rfl) (ax_45 (E := E)) dX3_play_57 (fun H locs w => ?_)
  refine lv_iconst (v := 0) hx hb dX3_play_60 (by decide) ?_
  refine lv_istore (lv' := [(6, .int 0), (0, .ref k), (1, .ref (a 0)), (2, .int bl), (3, .int di), (4, .int sg), (5, .int sn)]) hx hb dX3_play_61 hl (by decide) rfl (fun ls hl => ?_)
  have loop : ∀ (n i : Nat), i + n = 1000000 → ∀ (z1 : N1) (sp1 : UInt32) (d1 : N1) (σ1 : N2), gW sp1 → gset σ1 → plN n z1 sp1 d1 σ1 = fX3_play z sp d σ bl di sg sn → ∀ (H : Heap) (locs : List Loc), Wd E (hB (wSh k j z sp ++ (wWk j d ++ wSt E a σ))) s (wSh k j z1 sp1 ++ (wWk j d1 ++ wSt E a σ1)) H locs → ∀ (ls : Array Slot), lv_has ls 9 [(6, .int (nI i)), (0, .ref k), (1, .ref (a 0)), (2, .int bl), (3, .int di), (4, .int sg), (5, .int sn)] → W p l e { frames := 4, cells := 0, slots := 0, locals := 91 } s m (([.ref k, .ref (a 0), .int bl, .int di, .int sg, .int sn] : List Value)).toArray below meth c H locs 0 0 (MQ below (QV E (wSh k j z sp ++ (wWk j d ++ wSt E a σ)) (wSh k j ((fX3_play z sp d σ bl di sg sn).1) ((fX3_play z sp d σ bl di sg sn).2.1) ++ (wWk j ((fX3_play z sp d σ bl di sg sn).2.2.1) ++ wSt E a ((fX3_play z sp d σ bl di sg sn).2.2.2)))) (([.ref k, .ref (a 0), .int bl, .int di, .int sg, .int sn] : List Value)).toArray s 0 0 (hB (wSh k j z sp ++ (wWk j d ++ wSt E a σ)))) (F0 m 63 ls []) := by
    intro n
    induction n with
    | zero =>
      intro i hk_i z1 sp1 d1 σ1 hW hs1 hR H locs w ls hl
      obtain rfl : i = 1000000 := by omega
      refine lv_iload hx hb dX3_play_63 (lv_at hl 0 rfl) ?_
      refine r_ldci X wk_X3_55 dX3_play_65 ?_
      refine lv_icmp_ge (tgt := 150) hx hb dX3_play_67 (by decide) (fun _ => ?_) (fun h => absurd (by decide : (1000000 : Int32) ≤ nI 1000000) h)
      have hq : fX3_play z sp d σ bl di sg sn = (z1, sp1, d1, σ1) := by rw [← hR]; simp only [plN]
      obtain ⟨h0_, h1_, h2_, h3_⟩ := tup4 hq
      rw [h0_, h1_, h2_, h3_]
      exact r_vret X w hr dX3_play_150
    | succ n ih =>
      intro i hk_i z1 sp1 d1 σ1 hW hs1 hR H locs w ls hl
      have hkN : i < 1000000 := by omega
      refine lv_iload hx hb dX3_play_63 (lv_at hl 0 rfl) ?_
      refine r_ldci X wk_X3_55 dX3_play_65 ?_
      refine lv_icmp_ge (tgt := 150) hx hb dX3_play_67 (by decide) (fun h => absurd h (nI_ge (b := 1000000) hkN (by decide))) (fun _ => ?_)
      refine lv_aload_n hx hb dX3_play_70 rfl (lv_at hl 1 rfl) ?_
      refine r_get X w CL3 2 (by decide) wf_X3_33 0 rfl rfl dX3_play_71 ?_
      refine lv_fconst1 hx hb dX3_play_74 ?_
      refine lv_fcmp hx hb dX3_play_75 ?_
      refine lv_if_lt (tgt := 150) hx hb dX3_play_76 (by decide) (fun c76_3 => ?_) (fun c76_3 => ?_)
      · have hq : fX3_play z sp d σ bl di sg sn = (z1, sp1, d1, σ1) := by rw [← hR]; simp only [plN, if_pos c76_3]
        obtain ⟨h0_, h1_, h2_, h3_⟩ := tup4 hq
        rw [h0_, h1_, h2_, h3_]
        exact r_vret X w hr dX3_play_150
      · refine lv_aload_n hx hb dX3_play_79 rfl (lv_at hl 1 rfl) ?_
        refine r_get X w CL3 8 (by decide) wf_X3_52 0 rfl rfl dX3_play_80 ?_
        refine lv_bipush (v := (-5)) hx hb dX3_play_83 (by decide) ?_
        refine lv_icmp_ne (tgt := 150) hx hb dX3_play_85 (by decide) (fun c85_4 => ?_) (fun c85_4 => ?_)
        · have hq : fX3_play z sp d σ bl di sg sn = (z1, sp1, d1, σ1) := by rw [← hR]; simp only [plN, if_neg c76_3, if_neg c85_4]
          obtain ⟨h0_, h1_, h2_, h3_⟩ := tup4 hq
          rw [h0_, h1_, h2_, h3_]
          exact r_vret X w hr dX3_play_150
        · refine lv_aload_n hx hb dX3_play_88 rfl (lv_at hl 1 rfl) ?_
          refine r_get X w CL3 0 (by decide) wf_X3_12 0 rfl rfl dX3_play_89 ?_
          refine r_ci w (r_runV (As := []) (rest := []) X w (kX5_cellAhead l E j d1 ) ck_X3_56 ⟨Nat.le_of_ble_eq_true rfl, Nat.le_of_ble_eq_true rfl⟩ [1] (hc_39 (E := E)) (by decide +kernel) (k0 := 0) CL5 rfl hl.1 (Nat.le_of_ble_eq_true rfl) rfl dX3_play_92 ⟨Nat.le_of_ble_eq_true rfl, Nat.le_of_ble_eq_true rfl⟩) (wSh k j z1 sp1 ++ (wWk j d1 ++ wSt E a σ1)) [1] (hc_39 (E := E)) (by decide +kernel) (ha_39 (E := E)) (hw_39 (E := E)) (fun H locs w => ?_)
          refine lv_istore (lv' := [(7, .int (fX5_cellAhead d1)), (6, .int (nI i)), (0, .ref k), (1, .ref (a 0)), (2, .int bl), (3, .int di), (4, .int sg), (5, .int sn)]) hx hb dX3_play_95 hl (by decide) rfl (fun ls hl => ?_)
          refine lv_aload_n hx hb dX3_play_97 rfl (lv_at hl 3 rfl) ?_
          refine lv_iload hx hb dX3_play_98 (lv_at hl 0 rfl) ?_
          refine r_ci w (r_runV (As := [.int (fX5_cellAhead d1)]) (rest := []) X w (kX4_ballOnCell l E a σ1 (fX5_cellAhead d1) ) ck_X3_60 ⟨Nat.le_of_ble_eq_true rfl, Nat.le_of_ble_eq_true rfl⟩ [2, 3, 4, 5, 6, 7, 8, 9, 10] (hc_38 (E := E)) (by decide +kernel) (k0 := 0) CL4 rfl hl.1 (Nat.le_of_ble_eq_true rfl) rfl dX3_play_100 ⟨Nat.le_of_ble_eq_true rfl, Nat.le_of_ble_eq_true rfl⟩) (wSh k j z1 sp1 ++ (wWk j d1 ++ wSt E a σ1)) [2, 3, 4, 5, 6, 7, 8, 9, 10] (hc_38 (E := E)) (by decide +kernel) (ha_38 (E := E)) (hw_38 (E := E)) (fun H locs w => ?_)
          refine lv_istore (lv' := [(8, .int (fX4_ballOnCell σ1 (fX5_cellAhead d1))), (7, .int (fX5_cellAhead d1)), (6, .int (nI i)), (0, .ref k), (1, .ref (a 0)), (2, .int bl), (3, .int di), (4, .int sg), (5, .int sn)]) hx hb dX3_play_103 hl (by decide) rfl (fun ls hl => ?_)
          refine lv_iload hx hb dX3_play_105 (lv_at hl 1 rfl) ?_
          refine lv_bipush (v := (-5)) hx hb dX3_play_107 (by decide) ?_
          refine lv_icmp_ne (tgt := 120) hx hb dX3_play_109 (by decide) (fun c109_5 => ?_) (fun c109_5 => ?_)
          · refine lv_iload hx hb dX3_play_120 (lv_at hl 0 rfl) ?_
            refine lv_bipush (v := (-5)) hx hb dX3_play_122 (by decide) ?_
            refine lv_icmp_ne (tgt := 137) hx hb dX3_play_124 (by decide) (fun c124_6 => ?_) (fun c124_6 => ?_)
            · refine lv_aload_n hx hb dX3_play_137 rfl (lv_at hl 3 rfl) ?_
              refine lv_aload_n hx hb dX3_play_138 rfl (lv_at hl 4 rfl) ?_
              refine lv_iload hx hb dX3_play_139 (lv_at hl 0 rfl) ?_
              refine r_cv w (r_runV (As := [.ref (a 0), .int (fX4_ballOnCell σ1 (fX5_cellAhead d1))]) (rest := []) X w (kX3_hit l E k j z1 sp1 d1 a σ1 (fX4_ballOnCell σ1 (fX5_cellAhead d1)) ((cmp_gV hW).mp c76_3) hs1) ck_X3_71 ⟨Nat.le_of_ble_eq_true rfl, Nat.le_of_ble_eq_true rfl⟩ [0, 1, 2, 3, 4, 5, 6, 7, 8, 9, 10] (hc_47 (E := E)) (by decide +kernel) (k0 := 0) CL3 rfl hl.1 (Nat.le_of_ble_eq_true rfl) rfl dX3_play_141 ⟨Nat.le_of_ble_eq_true rfl, Nat.le_of_ble_eq_true rfl⟩) (wSh k j ((fX3_hit z1 sp1 d1 σ1 (fX4_ballOnCell σ1 (fX5_cellAhead d1))).1) ((fX3_hit z1 sp1 d1 σ1 (fX4_ballOnCell σ1 (fX5_cellAhead d1))).2.1) ++ (wWk j ((fX3_hit z1 sp1 d1 σ1 (fX4_ballOnCell σ1 (fX5_cellAhead d1))).2.2.1) ++ wSt E a ((fX3_hit z1 sp1 d1 σ1 (fX4_ballOnCell σ1 (fX5_cellAhead d1))).2.2.2))) [0, 1, 2, 3, 4, 5, 6, 7, 8, 9, 10] (hc_47 (E := E)) (by decide +kernel) (ha_47 (E := E)) (hw_47 (E := E)) (fun H locs w => ?_)
              refine lv_iinc (v := (nI i) + 1) (lv' := [(6, .int ((nI i) + 1)), (8, .int (fX4_ballOnCell σ1 (fX5_cellAhead d1))), (7, .int (fX5_cellAhead d1)), (0, .ref k), (1, .ref (a 0)), (2, .int bl), (3, .int di), (4, .int sg), (5, .int sn)]) hx hb dX3_play_144 hl (k := 2) rfl (by first | rfl | decide) (by decide) rfl (fun ls hl => ?_)
              refine lv_goto (tgt := 63) hx hb dX3_play_147 (by decide) ?_
              have e0 : nI i + 1 = nI (i + 1) := nI_1 i
              rw [e0] at hl
              exact ih (i + 1) (by omega) _ _ _ _ (hit_g ((cmp_gV hW).mp c76_3) hs1).1 (hit_g ((cmp_gV hW).mp c76_3) hs1).2 (by rw [← hR]; simp only [plN, plB, if_neg c76_3, if_pos c85_4, if_neg c109_5, if_neg c124_6]) _ _ w ls (lv_sub hl [0, 3, 4, 5, 6, 7, 8] rfl)
            · refine lv_aload_n hx hb dX3_play_127 rfl (lv_at hl 3 rfl) ?_
              refine lv_aload_n hx hb dX3_play_128 rfl (lv_at hl 4 rfl) ?_
              refine lv_iload hx hb dX3_play_129 (lv_at hl 1 rfl) ?_
              refine r_cv w (r_runV (As := [.ref (a 0), .int (fX5_cellAhead d1)]) (rest := []) X w (kX3_step l E k j z1 sp1 d1 a σ1 (fX5_cellAhead d1) ((cmp_gV hW).mp c76_3) hs1) ck_X3_67 ⟨Nat.le_of_ble_eq_true rfl, Nat.le_of_ble_eq_true rfl⟩ [0, 1, 2, 3, 4, 5, 6, 7, 8, 9, 10] (hc_47 (E := E)) (by decide +kernel) (k0 := 0) CL3 rfl hl.1 (Nat.le_of_ble_eq_true rfl) rfl dX3_play_131 ⟨Nat.le_of_ble_eq_true rfl, Nat.le_of_ble_eq_true rfl⟩) (wSh k j ((fX3_step z1 sp1 d1 σ1 (fX5_cellAhead d1)).1) ((fX3_step z1 sp1 d1 σ1 (fX5_cellAhead d1)).2.1) ++ (wWk j ((fX3_step z1 sp1 d1 σ1 (fX5_cellAhead d1)).2.2.1) ++ wSt E a ((fX3_step z1 sp1 d1 σ1 (fX5_cellAhead d1)).2.2.2))) [0, 1, 2, 3, 4, 5, 6, 7, 8, 9, 10] (hc_47 (E := E)) (by decide +kernel) (ha_47 (E := E)) (hw_47 (E := E)) (fun H locs w => ?_)
              refine lv_goto (tgt := 144) hx hb dX3_play_134 (by decide) ?_
              refine lv_iinc (v := (nI i) + 1) (lv' := [(6, .int ((nI i) + 1)), (8, .int (fX4_ballOnCell σ1 (fX5_cellAhead d1))), (7, .int (fX5_cellAhead d1)), (0, .ref k), (1, .ref (a 0)), (2, .int bl), (3, .int di), (4, .int sg), (5, .int sn)]) hx hb dX3_play_144 hl (k := 2) rfl (by first | rfl | decide) (by decide) rfl (fun ls hl => ?_)
              refine lv_goto (tgt := 63) hx hb dX3_play_147 (by decide) ?_
              have e0 : nI i + 1 = nI (i + 1) := nI_1 i
              rw [e0] at hl
              exact ih (i + 1) (by omega) _ _ _ _ (step_g ((cmp_gV hW).mp c76_3) hs1).1 (step_g ((cmp_gV hW).mp c76_3) hs1).2 (by rw [← hR]; simp only [plN, plB, if_neg c76_3, if_pos c85_4, if_neg c109_5, if_pos c124_6]) _ _ w ls (lv_sub hl [0, 3, 4, 5, 6, 7, 8] rfl)
          · refine lv_aload_n hx hb dX3_play_112 rfl (lv_at hl 3 rfl) ?_
            refine lv_aload_n hx hb dX3_play_113 rfl (lv_at hl 4 rfl) ?_
            refine r_cv w (r_runV (As := [.ref (a 0)]) (rest := []) X w (kX3_bank l E k j z1 sp1 d1 a σ1 ((cmp_gV hW).mp c76_3) hs1) ck_X3_63 ⟨Nat.le_of_ble_eq_true rfl, Nat.le_of_ble_eq_true rfl⟩ [0, 1, 2, 3, 4, 5, 6, 7, 8, 9, 10] (hc_47 (E := E)) (by decide +kernel) (k0 := 0) CL3 rfl hl.1 (Nat.le_of_ble_eq_true rfl) rfl dX3_play_114 ⟨Nat.le_of_ble_eq_true rfl, Nat.le_of_ble_eq_true rfl⟩) (wSh k j ((fX3_bank z1 sp1 d1 σ1).1) ((fX3_bank z1 sp1 d1 σ1).2.1) ++ (wWk j ((fX3_bank z1 sp1 d1 σ1).2.2.1) ++ wSt E a ((fX3_bank z1 sp1 d1 σ1).2.2.2))) [0, 1, 2, 3, 4, 5, 6, 7, 8, 9, 10] (hc_47 (E := E)) (by decide +kernel) (ha_47 (E := E)) (hw_47 (E := E)) (fun H locs w => ?_)
            refine lv_goto (tgt := 144) hx hb dX3_play_117 (by decide) ?_
            refine lv_iinc (v := (nI i) + 1) (lv' := [(6, .int ((nI i) + 1)), (8, .int (fX4_ballOnCell σ1 (fX5_cellAhead d1))), (7, .int (fX5_cellAhead d1)), (0, .ref k), (1, .ref (a 0)), (2, .int bl), (3, .int di), (4, .int sg), (5, .int sn)]) hx hb dX3_play_144 hl (k := 2) rfl (by first | rfl | decide) (by decide) rfl (fun ls hl => ?_)
            refine lv_goto (tgt := 63) hx hb dX3_play_147 (by decide) ?_
            have e0 : nI i + 1 = nI (i + 1) := nI_1 i
            rw [e0] at hl
            exact ih (i + 1) (by omega) _ _ _ _ (bank_g ((cmp_gV hW).mp c76_3) hs1).1 (bank_g ((cmp_gV hW).mp c76_3) hs1).2 (by rw [← hR]; simp only [plN, plB, if_neg c76_3, if_pos c85_4, if_pos c109_5]) _ _ w ls (lv_sub hl [0, 3, 4, 5, 6, 7, 8] rfl)
  exact loop 1000000 0 (by omega) _ _ _ _ (gV_gW (first_gV hg.1 hg.2)) hs rfl _ _ w ls (lv_sub hl [0, 1, 2, 3, 4, 5, 6] rfl)
