/-! State: its methods (printed by wip/whole/gen/p06.py) -/
def fX4_isBallNumber (bl : Int32) : Int32 := if bl < 0 then ((0)) else (if 12 ≤ bl then ((0)) else ((1)))
theorem dX4_isBallNumber_0 : decode cX4_isBallNumber 0 = .ok (.iload_n 0, 1) := by decide +kernel
theorem dX4_isBallNumber_1 : decode cX4_isBallNumber 1 = .ok (.ifCond .lt 13, 3) := by decide +kernel
theorem dX4_isBallNumber_4 : decode cX4_isBallNumber 4 = .ok (.iload_n 0, 1) := by decide +kernel
theorem dX4_isBallNumber_5 : decode cX4_isBallNumber 5 = .ok (.bipush 12, 2) := by decide +kernel
theorem dX4_isBallNumber_7 : decode cX4_isBallNumber 7 = .ok (.if_icmp .ge 7, 3) := by decide +kernel
theorem dX4_isBallNumber_10 : decode cX4_isBallNumber 10 = .ok (.iconst 1, 1) := by decide +kernel
theorem dX4_isBallNumber_11 : decode cX4_isBallNumber 11 = .ok (.goto 4, 3) := by decide +kernel
theorem dX4_isBallNumber_14 : decode cX4_isBallNumber 14 = .ok (.iconst 0, 1) := by decide +kernel
theorem dX4_isBallNumber_15 : decode cX4_isBallNumber 15 = .ok (.ireturn, 1) := by decide +kernel
set_option maxHeartbeats 4000000 in
set_option maxRecDepth 100000 in
theorem kX4_isBallNumber (l : Launch) (E : Ev) (bl : Int32) : KQ l yX4_isBallNumber cX4_isBallNumber 1 (some .boolean) 0 0 E [.int bl] [] (QI E [] (fX4_isBallNumber bl) []) := by
  refine KQ.mk RX4 rfl (by decide +kernel) (Nat.le_of_ble_eq_true rfl) ?_
  intro p e s m below meth c ls X hr w hl
  have hx := X.1
  have hb := X.2.1
  have hl : lv_has ls 1 [(0, .int bl)] := hl
  refine lv_iload_n hx hb dX4_isBallNumber_0 rfl (lv_at hl 0 rfl) ?_
  refine lv_if_lt (tgt := 14) hx hb dX4_isBallNumber_1 (by decide) (fun c1_1 => ?_) (fun c1_1 => ?_)
  · refine lv_iconst (v := 0) hx hb dX4_isBallNumber_14 (by decide) ?_
    have hq : fX4_isBallNumber bl = (0) := by simp only [fX4_isBallNumber, if_pos c1_1]
    rw [hq]
    exact r_zret X w hr (Or.inl rfl) rfl dX4_isBallNumber_15
  · refine lv_iload_n hx hb dX4_isBallNumber_4 rfl (lv_at hl 0 rfl) ?_
    refine lv_bipush (v := 12) hx hb dX4_isBallNumber_5 (by decide) ?_
    refine lv_icmp_ge (tgt := 14) hx hb dX4_isBallNumber_7 (by decide) (fun c7_2 => ?_) (fun c7_2 => ?_)
    · refine lv_iconst (v := 0) hx hb dX4_isBallNumber_14 (by decide) ?_
      have hq : fX4_isBallNumber bl = (0) := by simp only [fX4_isBallNumber, if_neg c1_1, if_pos c7_2]
      rw [hq]
      exact r_zret X w hr (Or.inl rfl) rfl dX4_isBallNumber_15
    · refine lv_iconst (v := 1) hx hb dX4_isBallNumber_10 (by decide) ?_
      refine lv_goto (tgt := 15) hx hb dX4_isBallNumber_11 (by decide) ?_
      have hq : fX4_isBallNumber bl = (1) := by simp only [fX4_isBallNumber, if_neg c1_1, if_neg c7_2]
      rw [hq]
      exact r_zret X w hr (Or.inr rfl) rfl dX4_isBallNumber_15
theorem zX4_isBallNumber (bl : Int32) : fX4_isBallNumber bl = 0 ∨ fX4_isBallNumber bl = 1 := by
  unfold fX4_isBallNumber
  repeat' split
  all_goals first | exact Or.inl rfl | exact Or.inr rfl | (simp; done) | exact Or.inl rfl
def fX4_totalN (f : N1) : Nat → Int32
  | 0 => 0
  | k + 1 => fX4_totalN f k + f (nI k).toNatClampNeg
theorem in_bn {bl : Int32} (h : ¬ fX4_isBallNumber bl = 0) : vp_in bl 12 := by
  unfold fX4_isBallNumber at h
  split at h
  · exact absurd rfl h
  · split at h
    · exact absurd rfl h
    · exact vin_ge 12 rfl ‹_› ‹_›
theorem in_cell {ce : Int32} (h : ¬ fX1_isCell ce = 0) : vp_in ce 61 := by
  unfold fX1_isCell at h
  split at h
  · exact absurd rfl h
  · split at h
    · exact absurd rfl h
    · exact vin_ge 61 rfl ‹_› ‹_›
def fX4_total (f : N1) : Int32 := fX4_totalN f 12
theorem dX4_total_0 : decode cX4_total 0 = .ok (.iconst 0, 1) := by decide +kernel
theorem dX4_total_1 : decode cX4_total 1 = .ok (.istore_n 1, 1) := by decide +kernel
theorem dX4_total_2 : decode cX4_total 2 = .ok (.iconst 0, 1) := by decide +kernel
theorem dX4_total_3 : decode cX4_total 3 = .ok (.istore_n 2, 1) := by decide +kernel
theorem dX4_total_4 : decode cX4_total 4 = .ok (.iload_n 2, 1) := by decide +kernel
theorem dX4_total_5 : decode cX4_total 5 = .ok (.aload_n 0, 1) := by decide +kernel
theorem dX4_total_6 : decode cX4_total 6 = .ok (.arraylength, 1) := by decide +kernel
theorem dX4_total_7 : decode cX4_total 7 = .ok (.if_icmp .ge 15, 3) := by decide +kernel
theorem dX4_total_10 : decode cX4_total 10 = .ok (.iload_n 1, 1) := by decide +kernel
theorem dX4_total_11 : decode cX4_total 11 = .ok (.aload_n 0, 1) := by decide +kernel
theorem dX4_total_12 : decode cX4_total 12 = .ok (.iload_n 2, 1) := by decide +kernel
theorem dX4_total_13 : decode cX4_total 13 = .ok (.iaload, 1) := by decide +kernel
theorem dX4_total_14 : decode cX4_total 14 = .ok (.iadd, 1) := by decide +kernel
theorem dX4_total_15 : decode cX4_total 15 = .ok (.istore_n 1, 1) := by decide +kernel
theorem dX4_total_16 : decode cX4_total 16 = .ok (.iinc 2 1, 3) := by decide +kernel
theorem dX4_total_19 : decode cX4_total 19 = .ok (.goto (-15), 3) := by decide +kernel
theorem dX4_total_22 : decode cX4_total 22 = .ok (.iload_n 1, 1) := by decide +kernel
theorem dX4_total_23 : decode cX4_total 23 = .ok (.ireturn, 1) := by decide +kernel
set_option maxHeartbeats 4000000 in
set_option maxRecDepth 100000 in
theorem kX4_total (l : Launch) (E : Ev) (a : Nat) (f : N1) : KQ l yX4_total cX4_total 3 (some .int) 0 0 E [.ref a] (wAr E a 12 f) (QI E (wAr E a 12 f) (fX4_total f) (wAr E a 12 f)) := by
  refine KQ.mk RX4 rfl (by decide +kernel) (Nat.le_of_ble_eq_true rfl) ?_
  intro p e s m below meth c ls X hr w hl
  have hx := X.1
  have hb := X.2.1
  have hl : lv_has ls 3 [(0, .ref a)] := hl
  refine lv_iconst (v := 0) hx hb dX4_total_0 (by decide) ?_
  refine lv_istore_n (lv' := [(1, .int 0), (0, .ref a)]) hx hb dX4_total_1 rfl hl (by decide) rfl (fun ls hl => ?_)
  refine lv_iconst (v := 0) hx hb dX4_total_2 (by decide) ?_
  refine lv_istore_n (lv' := [(2, .int 0), (1, .int 0), (0, .ref a)]) hx hb dX4_total_3 rfl hl (by decide) rfl (fun ls hl => ?_)
  have loop : ∀ (n k : Nat), k + n = 12 → ∀ (H : Heap) (locs : List Loc), Wd E (hB (wAr E a 12 f)) s (wAr E a 12 f) H locs → ∀ (ls : Array Slot), lv_has ls 3 [(2, .int (nI k)), (1, .int (fX4_totalN f k)), (0, .ref a)] → W p l e { frames := 0, cells := 0, slots := 0, locals := 0 } s m (([.ref a] : List Value)).toArray below meth c H locs 0 0 (MQ below (QI E (wAr E a 12 f) (fX4_total f) (wAr E a 12 f)) (([.ref a] : List Value)).toArray s 0 0 (hB (wAr E a 12 f))) (F0 m 4 ls []) := by
    intro n
    induction n with
    | zero =>
      intro k hk_k H locs w ls hl
      obtain rfl : k = 12 := by omega
      refine lv_iload_n hx hb dX4_total_4 rfl (lv_at hl 0 rfl) ?_
      refine lv_aload_n hx hb dX4_total_5 rfl (lv_at hl 2 rfl) ?_
      refine r_alen X w 0 rfl dX4_total_6 ?_
      refine lv_icmp_ge (tgt := 22) hx hb dX4_total_7 (by decide) (fun _ => ?_) (fun h => absurd (by decide : Int32.ofNat 12 ≤ nI 12) h)
      refine lv_iload_n hx hb dX4_total_22 rfl (lv_at hl 1 rfl) ?_
      have hq : fX4_total f = (fX4_totalN f 12) := rfl
      rw [hq]
      exact r_iret X w hr rfl dX4_total_23
    | succ n ih =>
      intro k hk_k H locs w ls hl
      have hkN : k < 12 := by omega
      refine lv_iload_n hx hb dX4_total_4 rfl (lv_at hl 0 rfl) ?_
      refine lv_aload_n hx hb dX4_total_5 rfl (lv_at hl 2 rfl) ?_
      refine r_alen X w 0 rfl dX4_total_6 ?_
      refine lv_icmp_ge (tgt := 22) hx hb dX4_total_7 (by decide) (fun h => absurd h (nI_ge (b := 12) hkN (by decide))) (fun _ => ?_)
      refine lv_iload_n hx hb dX4_total_10 rfl (lv_at hl 1 rfl) ?_
      refine lv_aload_n hx hb dX4_total_11 rfl (lv_at hl 2 rfl) ?_
      refine lv_iload_n hx hb dX4_total_12 rfl (lv_at hl 0 rfl) ?_
      refine r_iald X w 0 rfl (vp_in_nI hkN (by decide)) dX4_total_13 ?_
      refine lv_iadd hx hb dX4_total_14 ?_
      refine lv_istore_n (lv' := [(1, .int ((fX4_totalN f k) + (f (nI k).toNatClampNeg))), (2, .int (nI k)), (0, .ref a)]) hx hb dX4_total_15 rfl hl (by decide) rfl (fun ls hl => ?_)
      refine lv_iinc (v := (nI k) + 1) (lv' := [(2, .int ((nI k) + 1)), (1, .int ((fX4_totalN f k) + (f (nI k).toNatClampNeg))), (0, .ref a)]) hx hb dX4_total_16 hl (k := 1) rfl (by first | rfl | decide) (by decide) rfl (fun ls hl => ?_)
      refine lv_goto (tgt := 4) hx hb dX4_total_19 (by decide) ?_
      have e0 : nI k + 1 = nI (k + 1) := nI_1 k
      rw [e0] at hl
      have e1 : fX4_totalN f k + f (nI k).toNatClampNeg = fX4_totalN f (k + 1) := rfl
      rw [e1] at hl
      exact ih (k + 1) (by omega) _ _ w ls (lv_sub hl [0, 1, 2] rfl)
  exact loop 12 0 (by omega) _ _ w ls (lv_sub hl [0, 1, 2] rfl)
def fX4_hasBall (σ : N2) (bl : Int32) : Int32 := if (fX4_isBallNumber bl) = 0 then ((0)) else (if (σ 0 bl.toNatClampNeg) = (-5) then ((0)) else ((1)))
theorem dX4_hasBall_0 : decode cX4_hasBall 0 = .ok (.iload_n 1, 1) := by decide +kernel
theorem dX4_hasBall_1 : decode cX4_hasBall 1 = .ok (.invokestatic 70, 3) := by decide +kernel
theorem dX4_hasBall_4 : decode cX4_hasBall 4 = .ok (.ifCond .eq 18, 3) := by decide +kernel
theorem dX4_hasBall_7 : decode cX4_hasBall 7 = .ok (.aload_n 0, 1) := by decide +kernel
theorem dX4_hasBall_8 : decode cX4_hasBall 8 = .ok (.getfield 9, 3) := by decide +kernel
theorem dX4_hasBall_11 : decode cX4_hasBall 11 = .ok (.iload_n 1, 1) := by decide +kernel
theorem dX4_hasBall_12 : decode cX4_hasBall 12 = .ok (.iaload, 1) := by decide +kernel
theorem dX4_hasBall_13 : decode cX4_hasBall 13 = .ok (.bipush (-5), 2) := by decide +kernel
theorem dX4_hasBall_15 : decode cX4_hasBall 15 = .ok (.if_icmp .eq 7, 3) := by decide +kernel
theorem dX4_hasBall_18 : decode cX4_hasBall 18 = .ok (.iconst 1, 1) := by decide +kernel
theorem dX4_hasBall_19 : decode cX4_hasBall 19 = .ok (.goto 4, 3) := by decide +kernel
theorem dX4_hasBall_22 : decode cX4_hasBall 22 = .ok (.iconst 0, 1) := by decide +kernel
theorem dX4_hasBall_23 : decode cX4_hasBall 23 = .ok (.ireturn, 1) := by decide +kernel
theorem ck_X4_70 : CkS RX4 70 yX4_isBallNumber cX4_isBallNumber 1 (some .boolean) 1 := ⟨wm_X4_70, wst_yX4_isBallNumber, wi_X4, wc_yX4_isBallNumber, by decide +kernel⟩
set_option maxHeartbeats 4000000 in
set_option maxRecDepth 100000 in
theorem kX4_hasBall (l : Launch) (E : Ev) (a : Nat → Nat) (σ : N2) (bl : Int32) : KQ l yX4_hasBall cX4_hasBall 2 (some .boolean) 1 20 E [.ref (a 0), .int bl] (wSt E a σ) (QI E (wSt E a σ) (fX4_hasBall σ bl) (wSt E a σ)) := by
  refine KQ.mk RX4 rfl (by decide +kernel) (Nat.le_of_ble_eq_true rfl) ?_
  intro p e s m below meth c ls X hr w hl
  have hx := X.1
  have hb := X.2.1
  have hl : lv_has ls 2 [(0, .ref (a 0)), (1, .int bl)] := hl
  refine lv_iload_n hx hb dX4_hasBall_0 rfl (lv_at hl 1 rfl) ?_
  refine r_ci w (r_runS (As := [.int bl]) (rest := []) X w (kX4_isBallNumber l E bl ) ck_X4_70 ⟨Nat.le_of_ble_eq_true rfl, Nat.le_of_ble_eq_true rfl⟩ [] rfl (by decide +kernel) hl.1 (Nat.le_of_ble_eq_true rfl) rfl dX4_hasBall_1 ⟨Nat.le_of_ble_eq_true rfl, Nat.le_of_ble_eq_true rfl⟩) (wSt E a σ) [] rfl (by decide +kernel) rfl rfl (fun H locs w => ?_)
  refine lv_if_eq (tgt := 22) hx hb dX4_hasBall_4 (by decide) (fun c4_1 => ?_) (fun c4_1 => ?_)
  · refine lv_iconst (v := 0) hx hb dX4_hasBall_22 (by decide) ?_
    have hq : fX4_hasBall σ bl = (0) := by simp only [fX4_hasBall, if_pos c4_1]
    rw [hq]
    exact r_zret X w hr (Or.inl rfl) rfl dX4_hasBall_23
  · refine lv_aload_n hx hb dX4_hasBall_7 rfl (lv_at hl 0 rfl) ?_
    refine r_get X w CL4 0 (by decide) wf_X4_9 0 rfl rfl dX4_hasBall_8 ?_
    refine lv_iload_n hx hb dX4_hasBall_11 rfl (lv_at hl 1 rfl) ?_
    refine r_iald X w 1 rfl (in_bn c4_1) dX4_hasBall_12 ?_
    refine lv_bipush (v := (-5)) hx hb dX4_hasBall_13 (by decide) ?_
    refine lv_icmp_eq (tgt := 22) hx hb dX4_hasBall_15 (by decide) (fun c15_2 => ?_) (fun c15_2 => ?_)
    · refine lv_iconst (v := 0) hx hb dX4_hasBall_22 (by decide) ?_
      have hq : fX4_hasBall σ bl = (0) := by simp only [fX4_hasBall, if_neg c4_1, if_pos c15_2]
      rw [hq]
      exact r_zret X w hr (Or.inl rfl) rfl dX4_hasBall_23
    · refine lv_iconst (v := 1) hx hb dX4_hasBall_18 (by decide) ?_
      refine lv_goto (tgt := 23) hx hb dX4_hasBall_19 (by decide) ?_
      have hq : fX4_hasBall σ bl = (1) := by simp only [fX4_hasBall, if_neg c4_1, if_neg c15_2]
      rw [hq]
      exact r_zret X w hr (Or.inr rfl) rfl dX4_hasBall_23
theorem zX4_hasBall (σ : N2) (bl : Int32) : fX4_hasBall σ bl = 0 ∨ fX4_hasBall σ bl = 1 := by
  unfold fX4_hasBall
  repeat' split
  all_goals first | exact Or.inl rfl | exact Or.inr rfl | (simp; done) | exact zX4_isBallNumber _
def fX4_cellOfBall (σ : N2) (bl : Int32) : Int32 := if (fX4_isBallNumber bl) = 0 then (((-5))) else ((σ 0 bl.toNatClampNeg))
theorem dX4_cellOfBall_0 : decode cX4_cellOfBall 0 = .ok (.iload_n 1, 1) := by decide +kernel
theorem dX4_cellOfBall_1 : decode cX4_cellOfBall 1 = .ok (.invokestatic 70, 3) := by decide +kernel
theorem dX4_cellOfBall_4 : decode cX4_cellOfBall 4 = .ok (.ifCond .eq 12, 3) := by decide +kernel
theorem dX4_cellOfBall_7 : decode cX4_cellOfBall 7 = .ok (.aload_n 0, 1) := by decide +kernel
theorem dX4_cellOfBall_8 : decode cX4_cellOfBall 8 = .ok (.getfield 9, 3) := by decide +kernel
theorem dX4_cellOfBall_11 : decode cX4_cellOfBall 11 = .ok (.iload_n 1, 1) := by decide +kernel
theorem dX4_cellOfBall_12 : decode cX4_cellOfBall 12 = .ok (.iaload, 1) := by decide +kernel
theorem dX4_cellOfBall_13 : decode cX4_cellOfBall 13 = .ok (.goto 5, 3) := by decide +kernel
theorem dX4_cellOfBall_16 : decode cX4_cellOfBall 16 = .ok (.bipush (-5), 2) := by decide +kernel
theorem dX4_cellOfBall_18 : decode cX4_cellOfBall 18 = .ok (.ireturn, 1) := by decide +kernel
set_option maxHeartbeats 4000000 in
set_option maxRecDepth 100000 in
theorem kX4_cellOfBall (l : Launch) (E : Ev) (a : Nat → Nat) (σ : N2) (bl : Int32) : KQ l yX4_cellOfBall cX4_cellOfBall 2 (some .int) 1 20 E [.ref (a 0), .int bl] (wSt E a σ) (QI E (wSt E a σ) (fX4_cellOfBall σ bl) (wSt E a σ)) := by
  refine KQ.mk RX4 rfl (by decide +kernel) (Nat.le_of_ble_eq_true rfl) ?_
  intro p e s m below meth c ls X hr w hl
  have hx := X.1
  have hb := X.2.1
  have hl : lv_has ls 2 [(0, .ref (a 0)), (1, .int bl)] := hl
  refine lv_iload_n hx hb dX4_cellOfBall_0 rfl (lv_at hl 1 rfl) ?_
  refine r_ci w (r_runS (As := [.int bl]) (rest := []) X w (kX4_isBallNumber l E bl ) ck_X4_70 ⟨Nat.le_of_ble_eq_true rfl, Nat.le_of_ble_eq_true rfl⟩ [] rfl (by decide +kernel) hl.1 (Nat.le_of_ble_eq_true rfl) rfl dX4_cellOfBall_1 ⟨Nat.le_of_ble_eq_true rfl, Nat.le_of_ble_eq_true rfl⟩) (wSt E a σ) [] rfl (by decide +kernel) rfl rfl (fun H locs w => ?_)
  refine lv_if_eq (tgt := 16) hx hb dX4_cellOfBall_4 (by decide) (fun c4_1 => ?_) (fun c4_1 => ?_)
  · refine lv_bipush (v := (-5)) hx hb dX4_cellOfBall_16 (by decide) ?_
    have hq : fX4_cellOfBall σ bl = ((-5)) := by simp only [fX4_cellOfBall, if_pos c4_1]
    rw [hq]
    exact r_iret X w hr rfl dX4_cellOfBall_18
  · refine lv_aload_n hx hb dX4_cellOfBall_7 rfl (lv_at hl 0 rfl) ?_
    refine r_get X w CL4 0 (by decide) wf_X4_9 0 rfl rfl dX4_cellOfBall_8 ?_
    refine lv_iload_n hx hb dX4_cellOfBall_11 rfl (lv_at hl 1 rfl) ?_
    refine r_iald X w 1 rfl (in_bn c4_1) dX4_cellOfBall_12 ?_
    refine lv_goto (tgt := 18) hx hb dX4_cellOfBall_13 (by decide) ?_
    have hq : fX4_cellOfBall σ bl = (σ 0 bl.toNatClampNeg) := by simp only [fX4_cellOfBall, if_neg c4_1]
    rw [hq]
    exact r_iret X w hr rfl dX4_cellOfBall_18
def fX4_valueOfBall (σ : N2) (bl : Int32) : Int32 := if (fX4_isBallNumber bl) = 0 then ((0)) else ((σ 1 bl.toNatClampNeg))
theorem dX4_valueOfBall_0 : decode cX4_valueOfBall 0 = .ok (.iload_n 1, 1) := by decide +kernel
theorem dX4_valueOfBall_1 : decode cX4_valueOfBall 1 = .ok (.invokestatic 70, 3) := by decide +kernel
theorem dX4_valueOfBall_4 : decode cX4_valueOfBall 4 = .ok (.ifCond .eq 12, 3) := by decide +kernel
theorem dX4_valueOfBall_7 : decode cX4_valueOfBall 7 = .ok (.aload_n 0, 1) := by decide +kernel
theorem dX4_valueOfBall_8 : decode cX4_valueOfBall 8 = .ok (.getfield 15, 3) := by decide +kernel
theorem dX4_valueOfBall_11 : decode cX4_valueOfBall 11 = .ok (.iload_n 1, 1) := by decide +kernel
theorem dX4_valueOfBall_12 : decode cX4_valueOfBall 12 = .ok (.iaload, 1) := by decide +kernel
theorem dX4_valueOfBall_13 : decode cX4_valueOfBall 13 = .ok (.goto 4, 3) := by decide +kernel
theorem dX4_valueOfBall_16 : decode cX4_valueOfBall 16 = .ok (.iconst 0, 1) := by decide +kernel
theorem dX4_valueOfBall_17 : decode cX4_valueOfBall 17 = .ok (.ireturn, 1) := by decide +kernel
set_option maxHeartbeats 4000000 in
set_option maxRecDepth 100000 in
theorem kX4_valueOfBall (l : Launch) (E : Ev) (a : Nat → Nat) (σ : N2) (bl : Int32) : KQ l yX4_valueOfBall cX4_valueOfBall 2 (some .int) 1 20 E [.ref (a 0), .int bl] (wSt E a σ) (QI E (wSt E a σ) (fX4_valueOfBall σ bl) (wSt E a σ)) := by
  refine KQ.mk RX4 rfl (by decide +kernel) (Nat.le_of_ble_eq_true rfl) ?_
  intro p e s m below meth c ls X hr w hl
  have hx := X.1
  have hb := X.2.1
  have hl : lv_has ls 2 [(0, .ref (a 0)), (1, .int bl)] := hl
  refine lv_iload_n hx hb dX4_valueOfBall_0 rfl (lv_at hl 1 rfl) ?_
  refine r_ci w (r_runS (As := [.int bl]) (rest := []) X w (kX4_isBallNumber l E bl ) ck_X4_70 ⟨Nat.le_of_ble_eq_true rfl, Nat.le_of_ble_eq_true rfl⟩ [] rfl (by decide +kernel) hl.1 (Nat.le_of_ble_eq_true rfl) rfl dX4_valueOfBall_1 ⟨Nat.le_of_ble_eq_true rfl, Nat.le_of_ble_eq_true rfl⟩) (wSt E a σ) [] rfl (by decide +kernel) rfl rfl (fun H locs w => ?_)
  refine lv_if_eq (tgt := 16) hx hb dX4_valueOfBall_4 (by decide) (fun c4_1 => ?_) (fun c4_1 => ?_)
  · refine lv_iconst (v := 0) hx hb dX4_valueOfBall_16 (by decide) ?_
    have hq : fX4_valueOfBall σ bl = (0) := by simp only [fX4_valueOfBall, if_pos c4_1]
    rw [hq]
    exact r_iret X w hr rfl dX4_valueOfBall_17
  · refine lv_aload_n hx hb dX4_valueOfBall_7 rfl (lv_at hl 0 rfl) ?_
    refine r_get X w CL4 1 (by decide) wf_X4_15 0 rfl rfl dX4_valueOfBall_8 ?_
    refine lv_iload_n hx hb dX4_valueOfBall_11 rfl (lv_at hl 1 rfl) ?_
    refine r_iald X w 2 rfl (in_bn c4_1) dX4_valueOfBall_12 ?_
    refine lv_goto (tgt := 17) hx hb dX4_valueOfBall_13 (by decide) ?_
    have hq : fX4_valueOfBall σ bl = (σ 1 bl.toNatClampNeg) := by simp only [fX4_valueOfBall, if_neg c4_1]
    rw [hq]
    exact r_iret X w hr rfl dX4_valueOfBall_17
def fX4_ballOnCell (σ : N2) (ce : Int32) : Int32 := if (fX1_isCell ce) = 0 then (((-5))) else ((σ 5 ce.toNatClampNeg))
theorem dX4_ballOnCell_0 : decode cX4_ballOnCell 0 = .ok (.iload_n 1, 1) := by decide +kernel
theorem dX4_ballOnCell_1 : decode cX4_ballOnCell 1 = .ok (.invokestatic 74, 3) := by decide +kernel
theorem dX4_ballOnCell_4 : decode cX4_ballOnCell 4 = .ok (.ifCond .eq 12, 3) := by decide +kernel
theorem dX4_ballOnCell_7 : decode cX4_ballOnCell 7 = .ok (.aload_n 0, 1) := by decide +kernel
theorem dX4_ballOnCell_8 : decode cX4_ballOnCell 8 = .ok (.getfield 27, 3) := by decide +kernel
theorem dX4_ballOnCell_11 : decode cX4_ballOnCell 11 = .ok (.iload_n 1, 1) := by decide +kernel
theorem dX4_ballOnCell_12 : decode cX4_ballOnCell 12 = .ok (.iaload, 1) := by decide +kernel
theorem dX4_ballOnCell_13 : decode cX4_ballOnCell 13 = .ok (.goto 5, 3) := by decide +kernel
theorem dX4_ballOnCell_16 : decode cX4_ballOnCell 16 = .ok (.bipush (-5), 2) := by decide +kernel
theorem dX4_ballOnCell_18 : decode cX4_ballOnCell 18 = .ok (.ireturn, 1) := by decide +kernel
theorem ck_X4_74 : CkS RX4 74 yX1_isCell cX1_isCell 1 (some .boolean) 1 := ⟨wm_X4_74, wst_yX1_isCell, wi_X1, wc_yX1_isCell, by decide +kernel⟩
set_option maxHeartbeats 4000000 in
set_option maxRecDepth 100000 in
theorem kX4_ballOnCell (l : Launch) (E : Ev) (a : Nat → Nat) (σ : N2) (ce : Int32) : KQ l yX4_ballOnCell cX4_ballOnCell 2 (some .int) 1 20 E [.ref (a 0), .int ce] (wSt E a σ) (QI E (wSt E a σ) (fX4_ballOnCell σ ce) (wSt E a σ)) := by
  refine KQ.mk RX4 rfl (by decide +kernel) (Nat.le_of_ble_eq_true rfl) ?_
  intro p e s m below meth c ls X hr w hl
  have hx := X.1
  have hb := X.2.1
  have hl : lv_has ls 2 [(0, .ref (a 0)), (1, .int ce)] := hl
  refine lv_iload_n hx hb dX4_ballOnCell_0 rfl (lv_at hl 1 rfl) ?_
  refine r_ci w (r_runS (As := [.int ce]) (rest := []) X w (kX1_isCell l E ce ) ck_X4_74 ⟨Nat.le_of_ble_eq_true rfl, Nat.le_of_ble_eq_true rfl⟩ [] rfl (by decide +kernel) hl.1 (Nat.le_of_ble_eq_true rfl) rfl dX4_ballOnCell_1 ⟨Nat.le_of_ble_eq_true rfl, Nat.le_of_ble_eq_true rfl⟩) (wSt E a σ) [] rfl (by decide +kernel) rfl rfl (fun H locs w => ?_)
  refine lv_if_eq (tgt := 16) hx hb dX4_ballOnCell_4 (by decide) (fun c4_1 => ?_) (fun c4_1 => ?_)
  · refine lv_bipush (v := (-5)) hx hb dX4_ballOnCell_16 (by decide) ?_
    have hq : fX4_ballOnCell σ ce = ((-5)) := by simp only [fX4_ballOnCell, if_pos c4_1]
    rw [hq]
    exact r_iret X w hr rfl dX4_ballOnCell_18
  · refine lv_aload_n hx hb dX4_ballOnCell_7 rfl (lv_at hl 0 rfl) ?_
    refine r_get X w CL4 5 (by decide) wf_X4_27 0 rfl rfl dX4_ballOnCell_8 ?_
    refine lv_iload_n hx hb dX4_ballOnCell_11 rfl (lv_at hl 1 rfl) ?_
    refine r_iald X w 6 rfl (in_cell c4_1) dX4_ballOnCell_12 ?_
    refine lv_goto (tgt := 18) hx hb dX4_ballOnCell_13 (by decide) ?_
    have hq : fX4_ballOnCell σ ce = (σ 5 ce.toNatClampNeg) := by simp only [fX4_ballOnCell, if_neg c4_1]
    rw [hq]
    exact r_iret X w hr rfl dX4_ballOnCell_18
def fX4_feltN (σ : N2) : Nat → Int32
  | 0 => 0
  | k + 1 => if σ 0 (nI k).toNatClampNeg = (-5) then fX4_feltN σ k else fX4_feltN σ k + 1
def fX4_ballsOnFelt (σ : N2) : Int32 := fX4_feltN σ 12
theorem dX4_ballsOnFelt_0 : decode cX4_ballsOnFelt 0 = .ok (.iconst 0, 1) := by decide +kernel
theorem dX4_ballsOnFelt_1 : decode cX4_ballsOnFelt 1 = .ok (.istore_n 1, 1) := by decide +kernel
theorem dX4_ballsOnFelt_2 : decode cX4_ballsOnFelt 2 = .ok (.iconst 0, 1) := by decide +kernel
theorem dX4_ballsOnFelt_3 : decode cX4_ballsOnFelt 3 = .ok (.istore_n 2, 1) := by decide +kernel
theorem dX4_ballsOnFelt_4 : decode cX4_ballsOnFelt 4 = .ok (.iload_n 2, 1) := by decide +kernel
theorem dX4_ballsOnFelt_5 : decode cX4_ballsOnFelt 5 = .ok (.bipush 12, 2) := by decide +kernel
theorem dX4_ballsOnFelt_7 : decode cX4_ballsOnFelt 7 = .ok (.if_icmp .ge 23, 3) := by decide +kernel
theorem dX4_ballsOnFelt_10 : decode cX4_ballsOnFelt 10 = .ok (.aload_n 0, 1) := by decide +kernel
theorem dX4_ballsOnFelt_11 : decode cX4_ballsOnFelt 11 = .ok (.getfield 9, 3) := by decide +kernel
theorem dX4_ballsOnFelt_14 : decode cX4_ballsOnFelt 14 = .ok (.iload_n 2, 1) := by decide +kernel
theorem dX4_ballsOnFelt_15 : decode cX4_ballsOnFelt 15 = .ok (.iaload, 1) := by decide +kernel
theorem dX4_ballsOnFelt_16 : decode cX4_ballsOnFelt 16 = .ok (.bipush (-5), 2) := by decide +kernel
theorem dX4_ballsOnFelt_18 : decode cX4_ballsOnFelt 18 = .ok (.if_icmp .eq 6, 3) := by decide +kernel
theorem dX4_ballsOnFelt_21 : decode cX4_ballsOnFelt 21 = .ok (.iinc 1 1, 3) := by decide +kernel
theorem dX4_ballsOnFelt_24 : decode cX4_ballsOnFelt 24 = .ok (.iinc 2 1, 3) := by decide +kernel
theorem dX4_ballsOnFelt_27 : decode cX4_ballsOnFelt 27 = .ok (.goto (-23), 3) := by decide +kernel
theorem dX4_ballsOnFelt_30 : decode cX4_ballsOnFelt 30 = .ok (.iload_n 1, 1) := by decide +kernel
theorem dX4_ballsOnFelt_31 : decode cX4_ballsOnFelt 31 = .ok (.ireturn, 1) := by decide +kernel
set_option maxHeartbeats 4000000 in
set_option maxRecDepth 100000 in
theorem kX4_ballsOnFelt (l : Launch) (E : Ev) (a : Nat → Nat) (σ : N2) : KQ l yX4_ballsOnFelt cX4_ballsOnFelt 3 (some .int) 0 0 E [.ref (a 0)] (wSt E a σ) (QI E (wSt E a σ) (fX4_ballsOnFelt σ) (wSt E a σ)) := by
  refine KQ.mk RX4 rfl (by decide +kernel) (Nat.le_of_ble_eq_true rfl) ?_
  intro p e s m below meth c ls X hr w hl
  have hx := X.1
  have hb := X.2.1
  have hl : lv_has ls 3 [(0, .ref (a 0))] := hl
  refine lv_iconst (v := 0) hx hb dX4_ballsOnFelt_0 (by decide) ?_
  refine lv_istore_n (lv' := [(1, .int 0), (0, .ref (a 0))]) hx hb dX4_ballsOnFelt_1 rfl hl (by decide) rfl (fun ls hl => ?_)
  refine lv_iconst (v := 0) hx hb dX4_ballsOnFelt_2 (by decide) ?_
  refine lv_istore_n (lv' := [(2, .int 0), (1, .int 0), (0, .ref (a 0))]) hx hb dX4_ballsOnFelt_3 rfl hl (by decide) rfl (fun ls hl => ?_)
  have loop : ∀ (n k : Nat), k + n = 12 → ∀ (H : Heap) (locs : List Loc), Wd E (hB (wSt E a σ)) s (wSt E a σ) H locs → ∀ (ls : Array Slot), lv_has ls 3 [(2, .int (nI k)), (1, .int (fX4_feltN σ k)), (0, .ref (a 0))] → W p l e { frames := 0, cells := 0, slots := 0, locals := 0 } s m (([.ref (a 0)] : List Value)).toArray below meth c H locs 0 0 (MQ below (QI E (wSt E a σ) (fX4_ballsOnFelt σ) (wSt E a σ)) (([.ref (a 0)] : List Value)).toArray s 0 0 (hB (wSt E a σ))) (F0 m 4 ls []) := by
    intro n
    induction n with
    | zero =>
      intro k hk_k H locs w ls hl
      obtain rfl : k = 12 := by omega
      refine lv_iload_n hx hb dX4_ballsOnFelt_4 rfl (lv_at hl 0 rfl) ?_
      refine lv_bipush (v := 12) hx hb dX4_ballsOnFelt_5 (by decide) ?_
      refine lv_icmp_ge (tgt := 30) hx hb dX4_ballsOnFelt_7 (by decide) (fun _ => ?_) (fun h => absurd (by decide : (12 : Int32) ≤ nI 12) h)
      refine lv_iload_n hx hb dX4_ballsOnFelt_30 rfl (lv_at hl 1 rfl) ?_
      have hq : fX4_ballsOnFelt σ = (fX4_feltN σ 12) := rfl
      rw [hq]
      exact r_iret X w hr rfl dX4_ballsOnFelt_31
    | succ n ih =>
      intro k hk_k H locs w ls hl
      have hkN : k < 12 := by omega
      refine lv_iload_n hx hb dX4_ballsOnFelt_4 rfl (lv_at hl 0 rfl) ?_
      refine lv_bipush (v := 12) hx hb dX4_ballsOnFelt_5 (by decide) ?_
      refine lv_icmp_ge (tgt := 30) hx hb dX4_ballsOnFelt_7 (by decide) (fun h => absurd h (nI_ge (b := 12) hkN (by decide))) (fun _ => ?_)
      refine lv_aload_n hx hb dX4_ballsOnFelt_10 rfl (lv_at hl 2 rfl) ?_
      refine r_get X w CL4 0 (by decide) wf_X4_9 0 rfl rfl dX4_ballsOnFelt_11 ?_
      refine lv_iload_n hx hb dX4_ballsOnFelt_14 rfl (lv_at hl 0 rfl) ?_
      refine r_iald X w 1 rfl (vp_in_nI hkN (by decide)) dX4_ballsOnFelt_15 ?_
      refine lv_bipush (v := (-5)) hx hb dX4_ballsOnFelt_16 (by decide) ?_
      refine lv_icmp_eq (tgt := 24) hx hb dX4_ballsOnFelt_18 (by decide) (fun c18_3 => ?_) (fun c18_3 => ?_)
      · refine lv_iinc (v := (nI k) + 1) (lv' := [(2, .int ((nI k) + 1)), (1, .int (fX4_feltN σ k)), (0, .ref (a 0))]) hx hb dX4_ballsOnFelt_24 hl (k := 0) rfl (by first | rfl | decide) (by decide) rfl (fun ls hl => ?_)
        refine lv_goto (tgt := 4) hx hb dX4_ballsOnFelt_27 (by decide) ?_
        have e0 : nI k + 1 = nI (k + 1) := nI_1 k
        rw [e0] at hl
        have e1 : fX4_feltN σ k = fX4_feltN σ (k + 1) := by rw [fX4_feltN, if_pos c18_3]
        rw [e1] at hl
        exact ih (k + 1) (by omega) _ _ w ls (lv_sub hl [0, 1, 2] rfl)
      · refine lv_iinc (v := (fX4_feltN σ k) + 1) (lv' := [(1, .int ((fX4_feltN σ k) + 1)), (2, .int (nI k)), (0, .ref (a 0))]) hx hb dX4_ballsOnFelt_21 hl (k := 1) rfl (by first | rfl | decide) (by decide) rfl (fun ls hl => ?_)
        refine lv_iinc (v := (nI k) + 1) (lv' := [(2, .int ((nI k) + 1)), (1, .int ((fX4_feltN σ k) + 1)), (0, .ref (a 0))]) hx hb dX4_ballsOnFelt_24 hl (k := 1) rfl (by first | rfl | decide) (by decide) rfl (fun ls hl => ?_)
        refine lv_goto (tgt := 4) hx hb dX4_ballsOnFelt_27 (by decide) ?_
        have e0 : nI k + 1 = nI (k + 1) := nI_1 k
        rw [e0] at hl
        have e1 : (fX4_feltN σ k) + 1 = fX4_feltN σ (k + 1) := by rw [fX4_feltN, if_neg c18_3]
        rw [e1] at hl
        exact ih (k + 1) (by omega) _ _ w ls (lv_sub hl [0, 1, 2] rfl)
  exact loop 12 0 (by omega) _ _ w ls (lv_sub hl [0, 1, 2] rfl)
def fX4_isOpenPot (σ : N2) (ce : Int32) : Int32 := if (fX1_cornerOf ce) = (-5) then ((0)) else (if (((σ 8 1) >>> ((fX1_cornerOf ce) &&& 31)) &&& 1) = 1 then ((1)) else ((0)))
theorem dX4_isOpenPot_0 : decode cX4_isOpenPot 0 = .ok (.iload_n 1, 1) := by decide +kernel
theorem dX4_isOpenPot_1 : decode cX4_isOpenPot 1 = .ok (.invokestatic 79, 3) := by decide +kernel
theorem dX4_isOpenPot_4 : decode cX4_isOpenPot 4 = .ok (.istore_n 2, 1) := by decide +kernel
theorem dX4_isOpenPot_5 : decode cX4_isOpenPot 5 = .ok (.iload_n 2, 1) := by decide +kernel
theorem dX4_isOpenPot_6 : decode cX4_isOpenPot 6 = .ok (.bipush (-5), 2) := by decide +kernel
theorem dX4_isOpenPot_8 : decode cX4_isOpenPot 8 = .ok (.if_icmp .eq 19, 3) := by decide +kernel
theorem dX4_isOpenPot_11 : decode cX4_isOpenPot 11 = .ok (.aload_n 0, 1) := by decide +kernel
theorem dX4_isOpenPot_12 : decode cX4_isOpenPot 12 = .ok (.getfield 51, 3) := by decide +kernel
theorem dX4_isOpenPot_15 : decode cX4_isOpenPot 15 = .ok (.iload_n 2, 1) := by decide +kernel
theorem dX4_isOpenPot_16 : decode cX4_isOpenPot 16 = .ok (.ishr, 1) := by decide +kernel
theorem dX4_isOpenPot_17 : decode cX4_isOpenPot 17 = .ok (.iconst 1, 1) := by decide +kernel
theorem dX4_isOpenPot_18 : decode cX4_isOpenPot 18 = .ok (.iand, 1) := by decide +kernel
theorem dX4_isOpenPot_19 : decode cX4_isOpenPot 19 = .ok (.iconst 1, 1) := by decide +kernel
theorem dX4_isOpenPot_20 : decode cX4_isOpenPot 20 = .ok (.if_icmp .ne 7, 3) := by decide +kernel
theorem dX4_isOpenPot_23 : decode cX4_isOpenPot 23 = .ok (.iconst 1, 1) := by decide +kernel
theorem dX4_isOpenPot_24 : decode cX4_isOpenPot 24 = .ok (.goto 4, 3) := by decide +kernel
theorem dX4_isOpenPot_27 : decode cX4_isOpenPot 27 = .ok (.iconst 0, 1) := by decide +kernel
theorem dX4_isOpenPot_28 : decode cX4_isOpenPot 28 = .ok (.ireturn, 1) := by decide +kernel
theorem ck_X4_79 : CkS RX4 79 yX1_cornerOf cX1_cornerOf 2 (some .int) 1 := ⟨wm_X4_79, wst_yX1_cornerOf, wi_X1, wc_yX1_cornerOf, by decide +kernel⟩
set_option maxHeartbeats 4000000 in
set_option maxRecDepth 100000 in
theorem kX4_isOpenPot (l : Launch) (E : Ev) (a : Nat → Nat) (σ : N2) (ce : Int32) : KQ l yX4_isOpenPot cX4_isOpenPot 3 (some .boolean) 1 21 E [.ref (a 0), .int ce] (wSt E a σ) (QI E (wSt E a σ) (fX4_isOpenPot σ ce) (wSt E a σ)) := by
  refine KQ.mk RX4 rfl (by decide +kernel) (Nat.le_of_ble_eq_true rfl) ?_
  intro p e s m below meth c ls X hr w hl
  have hx := X.1
  have hb := X.2.1
  have hl : lv_has ls 3 [(0, .ref (a 0)), (1, .int ce)] := hl
  refine lv_iload_n hx hb dX4_isOpenPot_0 rfl (lv_at hl 1 rfl) ?_
  refine r_ci w (r_runS (As := [.int ce]) (rest := []) X w (kX1_cornerOf l E ce ) ck_X4_79 ⟨Nat.le_of_ble_eq_true rfl, Nat.le_of_ble_eq_true rfl⟩ [] rfl (by decide +kernel) hl.1 (Nat.le_of_ble_eq_true rfl) rfl dX4_isOpenPot_1 ⟨Nat.le_of_ble_eq_true rfl, Nat.le_of_ble_eq_true rfl⟩) (wSt E a σ) [] rfl (by decide +kernel) rfl rfl (fun H locs w => ?_)
  refine lv_istore_n (lv' := [(2, .int (fX1_cornerOf ce)), (0, .ref (a 0)), (1, .int ce)]) hx hb dX4_isOpenPot_4 rfl hl (by decide) rfl (fun ls hl => ?_)
  refine lv_iload_n hx hb dX4_isOpenPot_5 rfl (lv_at hl 0 rfl) ?_
  refine lv_bipush (v := (-5)) hx hb dX4_isOpenPot_6 (by decide) ?_
  refine lv_icmp_eq (tgt := 27) hx hb dX4_isOpenPot_8 (by decide) (fun c8_1 => ?_) (fun c8_1 => ?_)
  · refine lv_iconst (v := 0) hx hb dX4_isOpenPot_27 (by decide) ?_
    have hq : fX4_isOpenPot σ ce = (0) := by simp only [fX4_isOpenPot, if_pos c8_1]
    rw [hq]
    exact r_zret X w hr (Or.inl rfl) rfl dX4_isOpenPot_28
  · refine lv_aload_n hx hb dX4_isOpenPot_11 rfl (lv_at hl 1 rfl) ?_
    refine r_get X w CL4 9 (by decide) wf_X4_51 0 rfl rfl dX4_isOpenPot_12 ?_
    refine lv_iload_n hx hb dX4_isOpenPot_15 rfl (lv_at hl 0 rfl) ?_
    refine lv_ishr hx hb dX4_isOpenPot_16 ?_
    refine lv_iconst (v := 1) hx hb dX4_isOpenPot_17 (by decide) ?_
    refine lv_iand hx hb dX4_isOpenPot_18 ?_
    refine lv_iconst (v := 1) hx hb dX4_isOpenPot_19 (by decide) ?_
    refine lv_icmp_ne (tgt := 27) hx hb dX4_isOpenPot_20 (by decide) (fun c20_2 => ?_) (fun c20_2 => ?_)
    · refine lv_iconst (v := 0) hx hb dX4_isOpenPot_27 (by decide) ?_
      have hq : fX4_isOpenPot σ ce = (0) := by simp only [fX4_isOpenPot, if_neg c8_1, if_neg c20_2]
      rw [hq]
      exact r_zret X w hr (Or.inl rfl) rfl dX4_isOpenPot_28
    · refine lv_iconst (v := 1) hx hb dX4_isOpenPot_23 (by decide) ?_
      refine lv_goto (tgt := 28) hx hb dX4_isOpenPot_24 (by decide) ?_
      have hq : fX4_isOpenPot σ ce = (1) := by simp only [fX4_isOpenPot, if_neg c8_1, if_pos c20_2]
      rw [hq]
      exact r_zret X w hr (Or.inr rfl) rfl dX4_isOpenPot_28
theorem zX4_isOpenPot (σ : N2) (ce : Int32) : fX4_isOpenPot σ ce = 0 ∨ fX4_isOpenPot σ ce = 1 := by
  unfold fX4_isOpenPot
  repeat' split
  all_goals first | exact Or.inl rfl | exact Or.inr rfl | (simp; done) | exact Or.inl rfl
def fX4_refusalToAdd (σ : N2) (ce : Int32) : Int32 := if (fX4_ballOnCell σ ce) = (-5) then (if 12 ≤ (σ 8 0) then (((-3))) else (((-5)))) else (((-4)))
theorem dX4_refusalToAdd_0 : decode cX4_refusalToAdd 0 = .ok (.aload_n 0, 1) := by decide +kernel
theorem dX4_refusalToAdd_1 : decode cX4_refusalToAdd 1 = .ok (.iload_n 1, 1) := by decide +kernel
theorem dX4_refusalToAdd_2 : decode cX4_refusalToAdd 2 = .ok (.invokevirtual 83, 3) := by decide +kernel
theorem dX4_refusalToAdd_5 : decode cX4_refusalToAdd 5 = .ok (.bipush (-5), 2) := by decide +kernel
theorem dX4_refusalToAdd_7 : decode cX4_refusalToAdd 7 = .ok (.if_icmp .eq 6, 3) := by decide +kernel
theorem dX4_refusalToAdd_10 : decode cX4_refusalToAdd 10 = .ok (.bipush (-4), 2) := by decide +kernel
theorem dX4_refusalToAdd_12 : decode cX4_refusalToAdd 12 = .ok (.ireturn, 1) := by decide +kernel
theorem dX4_refusalToAdd_13 : decode cX4_refusalToAdd 13 = .ok (.aload_n 0, 1) := by decide +kernel
theorem dX4_refusalToAdd_14 : decode cX4_refusalToAdd 14 = .ok (.getfield 55, 3) := by decide +kernel
theorem dX4_refusalToAdd_17 : decode cX4_refusalToAdd 17 = .ok (.bipush 12, 2) := by decide +kernel
theorem dX4_refusalToAdd_19 : decode cX4_refusalToAdd 19 = .ok (.if_icmp .ge 8, 3) := by decide +kernel
theorem dX4_refusalToAdd_22 : decode cX4_refusalToAdd 22 = .ok (.bipush (-5), 2) := by decide +kernel
theorem dX4_refusalToAdd_24 : decode cX4_refusalToAdd 24 = .ok (.goto 5, 3) := by decide +kernel
theorem dX4_refusalToAdd_27 : decode cX4_refusalToAdd 27 = .ok (.bipush (-3), 2) := by decide +kernel
theorem dX4_refusalToAdd_29 : decode cX4_refusalToAdd 29 = .ok (.ireturn, 1) := by decide +kernel
theorem ck_X4_83 : CkV RX4 83 RX4 yX4_ballOnCell cX4_ballOnCell 2 (some .int) 1 := ⟨wm_X4_83, wim_yX4_ballOnCell, wse_yX4_ballOnCell, wi_X4, wc_yX4_ballOnCell, by decide +kernel⟩
theorem hc_1 {E : Ev} {a0 : Nat → Nat} {σ0 : N2} : ([0, 1, 2, 3, 4, 5, 6, 7, 8] : List Nat).map (fun i => (wSt E a0 σ0)[i]?) = (wSt E a0 σ0).map some := rfl
theorem ha_1 {E : Ev} {a0 : Nat → Nat} {σ0 : N2} {τ0_0 : N2} : (wSt E a0 τ0_0).map Prod.fst = (wSt E a0 σ0).map Prod.fst := rfl
theorem hw_1 {E : Ev} {a0 : Nat → Nat} {σ0 : N2} {τ0_0 : N2} : wput (wSt E a0 σ0) [0, 1, 2, 3, 4, 5, 6, 7, 8] (wSt E a0 τ0_0) = wSt E a0 τ0_0 := rfl
set_option maxHeartbeats 4000000 in
set_option maxRecDepth 100000 in
theorem kX4_refusalToAdd (l : Launch) (E : Ev) (a : Nat → Nat) (σ : N2) (ce : Int32) : KQ l yX4_refusalToAdd cX4_refusalToAdd 2 (some .int) 2 41 E [.ref (a 0), .int ce] (wSt E a σ) (QI E (wSt E a σ) (fX4_refusalToAdd σ ce) (wSt E a σ)) := by
  refine KQ.mk RX4 rfl (by decide +kernel) (Nat.le_of_ble_eq_true rfl) ?_
  intro p e s m below meth c ls X hr w hl
  have hx := X.1
  have hb := X.2.1
  have hl : lv_has ls 2 [(0, .ref (a 0)), (1, .int ce)] := hl
  refine lv_aload_n hx hb dX4_refusalToAdd_0 rfl (lv_at hl 0 rfl) ?_
  refine lv_iload_n hx hb dX4_refusalToAdd_1 rfl (lv_at hl 1 rfl) ?_
  refine r_ci w (r_runV (As := [.int ce]) (rest := []) X w (kX4_ballOnCell l E a σ ce ) ck_X4_83 ⟨Nat.le_of_ble_eq_true rfl, Nat.le_of_ble_eq_true rfl⟩ [0, 1, 2, 3, 4, 5, 6, 7, 8] (hc_1 (E := E)) (by decide +kernel) (k0 := 0) CL4 rfl hl.1 (Nat.le_of_ble_eq_true rfl) rfl dX4_refusalToAdd_2 ⟨Nat.le_of_ble_eq_true rfl, Nat.le_of_ble_eq_true rfl⟩) (wSt E a σ) [0, 1, 2, 3, 4, 5, 6, 7, 8] (hc_1 (E := E)) (by decide +kernel) (ha_1 (E := E)) (hw_1 (E := E)) (fun H locs w => ?_)
  refine lv_bipush (v := (-5)) hx hb dX4_refusalToAdd_5 (by decide) ?_
  refine lv_icmp_eq (tgt := 13) hx hb dX4_refusalToAdd_7 (by decide) (fun c7_1 => ?_) (fun c7_1 => ?_)
  · refine lv_aload_n hx hb dX4_refusalToAdd_13 rfl (lv_at hl 0 rfl) ?_
    refine r_get X w CL4 8 (by decide) wf_X4_55 0 rfl rfl dX4_refusalToAdd_14 ?_
    refine lv_bipush (v := 12) hx hb dX4_refusalToAdd_17 (by decide) ?_
    refine lv_icmp_ge (tgt := 27) hx hb dX4_refusalToAdd_19 (by decide) (fun c19_2 => ?_) (fun c19_2 => ?_)
    · refine lv_bipush (v := (-3)) hx hb dX4_refusalToAdd_27 (by decide) ?_
      have hq : fX4_refusalToAdd σ ce = ((-3)) := by simp only [fX4_refusalToAdd, if_pos c7_1, if_pos c19_2]
      rw [hq]
      exact r_iret X w hr rfl dX4_refusalToAdd_29
    · refine lv_bipush (v := (-5)) hx hb dX4_refusalToAdd_22 (by decide) ?_
      refine lv_goto (tgt := 29) hx hb dX4_refusalToAdd_24 (by decide) ?_
      have hq : fX4_refusalToAdd σ ce = ((-5)) := by simp only [fX4_refusalToAdd, if_pos c7_1, if_neg c19_2]
      rw [hq]
      exact r_iret X w hr rfl dX4_refusalToAdd_29
  · refine lv_bipush (v := (-4)) hx hb dX4_refusalToAdd_10 (by decide) ?_
    have hq : fX4_refusalToAdd σ ce = ((-4)) := by simp only [fX4_refusalToAdd, if_neg c7_1]
    rw [hq]
    exact r_iret X w hr rfl dX4_refusalToAdd_12
def fX4_lift (σ : N2) (bl : Int32) : N2 := if (fX4_isBallNumber bl) = 0 then ((σ)) else (if (fX1_isCell (σ 0 bl.toNatClampNeg)) = 0 then ((σ)) else ((u2 (u2 σ 5 (σ 0 bl.toNatClampNeg).toNatClampNeg (-5)) 0 bl.toNatClampNeg (-5))))
theorem dX4_lift_0 : decode cX4_lift 0 = .ok (.iload_n 1, 1) := by decide +kernel
theorem dX4_lift_1 : decode cX4_lift 1 = .ok (.invokestatic 70, 3) := by decide +kernel
theorem dX4_lift_4 : decode cX4_lift 4 = .ok (.ifCond .eq 36, 3) := by decide +kernel
theorem dX4_lift_7 : decode cX4_lift 7 = .ok (.aload_n 0, 1) := by decide +kernel
theorem dX4_lift_8 : decode cX4_lift 8 = .ok (.getfield 9, 3) := by decide +kernel
theorem dX4_lift_11 : decode cX4_lift 11 = .ok (.iload_n 1, 1) := by decide +kernel
theorem dX4_lift_12 : decode cX4_lift 12 = .ok (.iaload, 1) := by decide +kernel
theorem dX4_lift_13 : decode cX4_lift 13 = .ok (.invokestatic 74, 3) := by decide +kernel
theorem dX4_lift_16 : decode cX4_lift 16 = .ok (.ifCond .eq 24, 3) := by decide +kernel
theorem dX4_lift_19 : decode cX4_lift 19 = .ok (.aload_n 0, 1) := by decide +kernel
theorem dX4_lift_20 : decode cX4_lift 20 = .ok (.getfield 27, 3) := by decide +kernel
theorem dX4_lift_23 : decode cX4_lift 23 = .ok (.aload_n 0, 1) := by decide +kernel
theorem dX4_lift_24 : decode cX4_lift 24 = .ok (.getfield 9, 3) := by decide +kernel
theorem dX4_lift_27 : decode cX4_lift 27 = .ok (.iload_n 1, 1) := by decide +kernel
theorem dX4_lift_28 : decode cX4_lift 28 = .ok (.iaload, 1) := by decide +kernel
theorem dX4_lift_29 : decode cX4_lift 29 = .ok (.bipush (-5), 2) := by decide +kernel
theorem dX4_lift_31 : decode cX4_lift 31 = .ok (.iastore, 1) := by decide +kernel
theorem dX4_lift_32 : decode cX4_lift 32 = .ok (.aload_n 0, 1) := by decide +kernel
theorem dX4_lift_33 : decode cX4_lift 33 = .ok (.getfield 9, 3) := by decide +kernel
theorem dX4_lift_36 : decode cX4_lift 36 = .ok (.iload_n 1, 1) := by decide +kernel
theorem dX4_lift_37 : decode cX4_lift 37 = .ok (.bipush (-5), 2) := by decide +kernel
theorem dX4_lift_39 : decode cX4_lift 39 = .ok (.iastore, 1) := by decide +kernel
theorem dX4_lift_40 : decode cX4_lift 40 = .ok (.return_, 1) := by decide +kernel
theorem ax_2 {E : Ev} {a0 : Nat → Nat} {σ0 : N2} {i x : Int32} : (wSt E a0 σ0).set 6 (a0 6, .inl (E.2.1.1, 61, .inl (upd (σ0 5) i.toNatClampNeg x))) = wSt E a0 (u2 σ0 5 i.toNatClampNeg x) := rfl
theorem ax_3 {E : Ev} {a0 : Nat → Nat} {σ0 : N2} {i x : Int32} : (wSt E a0 σ0).set 1 (a0 1, .inl (E.2.1.1, 12, .inl (upd (σ0 0) i.toNatClampNeg x))) = wSt E a0 (u2 σ0 0 i.toNatClampNeg x) := rfl
set_option maxHeartbeats 4000000 in
set_option maxRecDepth 100000 in
theorem kX4_lift (l : Launch) (E : Ev) (a : Nat → Nat) (σ : N2) (bl : Int32) : KQ l yX4_lift cX4_lift 2 none 1 20 E [.ref (a 0), .int bl] (wSt E a σ) (QV E (wSt E a σ) (wSt E a (fX4_lift σ bl))) := by
  refine KQ.mk RX4 rfl (by decide +kernel) (Nat.le_of_ble_eq_true rfl) ?_
  intro p e s m below meth c ls X hr w hl
  have hx := X.1
  have hb := X.2.1
  have hl : lv_has ls 2 [(0, .ref (a 0)), (1, .int bl)] := hl
  refine lv_iload_n hx hb dX4_lift_0 rfl (lv_at hl 1 rfl) ?_
  refine r_ci w (r_runS (As := [.int bl]) (rest := []) X w (kX4_isBallNumber l E bl ) ck_X4_70 ⟨Nat.le_of_ble_eq_true rfl, Nat.le_of_ble_eq_true rfl⟩ [] rfl (by decide +kernel) hl.1 (Nat.le_of_ble_eq_true rfl) rfl dX4_lift_1 ⟨Nat.le_of_ble_eq_true rfl, Nat.le_of_ble_eq_true rfl⟩) (wSt E a σ) [] rfl (by decide +kernel) rfl rfl (fun H locs w => ?_)
  refine lv_if_eq (tgt := 40) hx hb dX4_lift_4 (by decide) (fun c4_1 => ?_) (fun c4_1 => ?_)
  · have hq : fX4_lift σ bl = (σ) := by simp only [fX4_lift, if_pos c4_1]
    rw [hq]
    exact r_vret X w hr dX4_lift_40
  · refine lv_aload_n hx hb dX4_lift_7 rfl (lv_at hl 0 rfl) ?_
    refine r_get X w CL4 0 (by decide) wf_X4_9 0 rfl rfl dX4_lift_8 ?_
    refine lv_iload_n hx hb dX4_lift_11 rfl (lv_at hl 1 rfl) ?_
    refine r_iald X w 1 rfl (in_bn c4_1) dX4_lift_12 ?_
    refine r_ci w (r_runS (As := [.int (σ 0 bl.toNatClampNeg)]) (rest := []) X w (kX1_isCell l E (σ 0 bl.toNatClampNeg) ) ck_X4_74 ⟨Nat.le_of_ble_eq_true rfl, Nat.le_of_ble_eq_true rfl⟩ [] rfl (by decide +kernel) hl.1 (Nat.le_of_ble_eq_true rfl) rfl dX4_lift_13 ⟨Nat.le_of_ble_eq_true rfl, Nat.le_of_ble_eq_true rfl⟩) (wSt E a σ) [] rfl (by decide +kernel) rfl rfl (fun H locs w => ?_)
    refine lv_if_eq (tgt := 40) hx hb dX4_lift_16 (by decide) (fun c16_2 => ?_) (fun c16_2 => ?_)
    · have hq : fX4_lift σ bl = (σ) := by simp only [fX4_lift, if_neg c4_1, if_pos c16_2]
      rw [hq]
      exact r_vret X w hr dX4_lift_40
    · refine lv_aload_n hx hb dX4_lift_19 rfl (lv_at hl 0 rfl) ?_
      refine r_get X w CL4 5 (by decide) wf_X4_27 0 rfl rfl dX4_lift_20 ?_
      refine lv_aload_n hx hb dX4_lift_23 rfl (lv_at hl 0 rfl) ?_
      refine r_get X w CL4 0 (by decide) wf_X4_9 0 rfl rfl dX4_lift_24 ?_
      refine lv_iload_n hx hb dX4_lift_27 rfl (lv_at hl 1 rfl) ?_
      refine r_iald X w 1 rfl (in_bn c4_1) dX4_lift_28 ?_
      refine lv_bipush (v := (-5)) hx hb dX4_lift_29 (by decide) ?_
      refine r_iast X w (wSt E a (u2 σ 5 (σ 0 bl.toNatClampNeg).toNatClampNeg (-5))) 6 rfl (in_cell c16_2) (ax_2 (E := E)) dX4_lift_31 (fun H locs w => ?_)
      refine lv_aload_n hx hb dX4_lift_32 rfl (lv_at hl 0 rfl) ?_
      refine r_get X w CL4 0 (by decide) wf_X4_9 0 rfl rfl dX4_lift_33 ?_
      refine lv_iload_n hx hb dX4_lift_36 rfl (lv_at hl 1 rfl) ?_
      refine lv_bipush (v := (-5)) hx hb dX4_lift_37 (by decide) ?_
      refine r_iast X w (wSt E a (u2 (u2 σ 5 (σ 0 bl.toNatClampNeg).toNatClampNeg (-5)) 0 bl.toNatClampNeg (-5))) 1 rfl (in_bn c4_1) (ax_3 (E := E)) dX4_lift_39 (fun H locs w => ?_)
      have hq : fX4_lift σ bl = (u2 (u2 σ 5 (σ 0 bl.toNatClampNeg).toNatClampNeg (-5)) 0 bl.toNatClampNeg (-5)) := by simp only [fX4_lift, if_neg c4_1, if_neg c16_2]
      rw [hq]
      exact r_vret X w hr dX4_lift_40
def fX4_place (σ : N2) (bl : Int32) (ce : Int32) : N2 := if (fX4_isBallNumber bl) = 0 then ((σ)) else (if (fX1_isCell ce) = 0 then ((σ)) else ((u2 (u2 (fX4_lift σ bl) 0 bl.toNatClampNeg ce) 5 ce.toNatClampNeg bl)))
theorem dX4_place_0 : decode cX4_place 0 = .ok (.iload_n 1, 1) := by decide +kernel
theorem dX4_place_1 : decode cX4_place 1 = .ok (.invokestatic 70, 3) := by decide +kernel
theorem dX4_place_4 : decode cX4_place 4 = .ok (.ifCond .eq 29, 3) := by decide +kernel
theorem dX4_place_7 : decode cX4_place 7 = .ok (.iload_n 2, 1) := by decide +kernel
theorem dX4_place_8 : decode cX4_place 8 = .ok (.invokestatic 74, 3) := by decide +kernel
theorem dX4_place_11 : decode cX4_place 11 = .ok (.ifCond .eq 22, 3) := by decide +kernel
theorem dX4_place_14 : decode cX4_place 14 = .ok (.aload_n 0, 1) := by decide +kernel
theorem dX4_place_15 : decode cX4_place 15 = .ok (.iload_n 1, 1) := by decide +kernel
theorem dX4_place_16 : decode cX4_place 16 = .ok (.invokevirtual 90, 3) := by decide +kernel
theorem dX4_place_19 : decode cX4_place 19 = .ok (.aload_n 0, 1) := by decide +kernel
theorem dX4_place_20 : decode cX4_place 20 = .ok (.getfield 9, 3) := by decide +kernel
theorem dX4_place_23 : decode cX4_place 23 = .ok (.iload_n 1, 1) := by decide +kernel
theorem dX4_place_24 : decode cX4_place 24 = .ok (.iload_n 2, 1) := by decide +kernel
theorem dX4_place_25 : decode cX4_place 25 = .ok (.iastore, 1) := by decide +kernel
theorem dX4_place_26 : decode cX4_place 26 = .ok (.aload_n 0, 1) := by decide +kernel
theorem dX4_place_27 : decode cX4_place 27 = .ok (.getfield 27, 3) := by decide +kernel
theorem dX4_place_30 : decode cX4_place 30 = .ok (.iload_n 2, 1) := by decide +kernel
theorem dX4_place_31 : decode cX4_place 31 = .ok (.iload_n 1, 1) := by decide +kernel
theorem dX4_place_32 : decode cX4_place 32 = .ok (.iastore, 1) := by decide +kernel
theorem dX4_place_33 : decode cX4_place 33 = .ok (.return_, 1) := by decide +kernel
theorem ck_X4_90 : CkV RX4 90 RX4 yX4_lift cX4_lift 2 none 1 := ⟨wm_X4_90, wim_yX4_lift, wse_yX4_lift, wi_X4, wc_yX4_lift, by decide +kernel⟩
set_option maxHeartbeats 4000000 in
set_option maxRecDepth 100000 in
theorem kX4_place (l : Launch) (E : Ev) (a : Nat → Nat) (σ : N2) (bl : Int32) (ce : Int32) : KQ l yX4_place cX4_place 3 none 2 41 E [.ref (a 0), .int bl, .int ce] (wSt E a σ) (QV E (wSt E a σ) (wSt E a (fX4_place σ bl ce))) := by
  refine KQ.mk RX4 rfl (by decide +kernel) (Nat.le_of_ble_eq_true rfl) ?_
  intro p e s m below meth c ls X hr w hl
  have hx := X.1
  have hb := X.2.1
  have hl : lv_has ls 3 [(0, .ref (a 0)), (1, .int bl), (2, .int ce)] := hl
  refine lv_iload_n hx hb dX4_place_0 rfl (lv_at hl 1 rfl) ?_
  refine r_ci w (r_runS (As := [.int bl]) (rest := []) X w (kX4_isBallNumber l E bl ) ck_X4_70 ⟨Nat.le_of_ble_eq_true rfl, Nat.le_of_ble_eq_true rfl⟩ [] rfl (by decide +kernel) hl.1 (Nat.le_of_ble_eq_true rfl) rfl dX4_place_1 ⟨Nat.le_of_ble_eq_true rfl, Nat.le_of_ble_eq_true rfl⟩) (wSt E a σ) [] rfl (by decide +kernel) rfl rfl (fun H locs w => ?_)
  refine lv_if_eq (tgt := 33) hx hb dX4_place_4 (by decide) (fun c4_1 => ?_) (fun c4_1 => ?_)
  · have hq : fX4_place σ bl ce = (σ) := by simp only [fX4_place, if_pos c4_1]
    rw [hq]
    exact r_vret X w hr dX4_place_33
  · refine lv_iload_n hx hb dX4_place_7 rfl (lv_at hl 2 rfl) ?_
    refine r_ci w (r_runS (As := [.int ce]) (rest := []) X w (kX1_isCell l E ce ) ck_X4_74 ⟨Nat.le_of_ble_eq_true rfl, Nat.le_of_ble_eq_true rfl⟩ [] rfl (by decide +kernel) hl.1 (Nat.le_of_ble_eq_true rfl) rfl dX4_place_8 ⟨Nat.le_of_ble_eq_true rfl, Nat.le_of_ble_eq_true rfl⟩) (wSt E a σ) [] rfl (by decide +kernel) rfl rfl (fun H locs w => ?_)
    refine lv_if_eq (tgt := 33) hx hb dX4_place_11 (by decide) (fun c11_2 => ?_) (fun c11_2 => ?_)
    · have hq : fX4_place σ bl ce = (σ) := by simp only [fX4_place, if_neg c4_1, if_pos c11_2]
      rw [hq]
      exact r_vret X w hr dX4_place_33
    · refine lv_aload_n hx hb dX4_place_14 rfl (lv_at hl 0 rfl) ?_
      refine lv_iload_n hx hb dX4_place_15 rfl (lv_at hl 1 rfl) ?_
      refine r_cv w (r_runV (As := [.int bl]) (rest := []) X w (kX4_lift l E a σ bl ) ck_X4_90 ⟨Nat.le_of_ble_eq_true rfl, Nat.le_of_ble_eq_true rfl⟩ [0, 1, 2, 3, 4, 5, 6, 7, 8] (hc_1 (E := E)) (by decide +kernel) (k0 := 0) CL4 rfl hl.1 (Nat.le_of_ble_eq_true rfl) rfl dX4_place_16 ⟨Nat.le_of_ble_eq_true rfl, Nat.le_of_ble_eq_true rfl⟩) (wSt E a (fX4_lift σ bl)) [0, 1, 2, 3, 4, 5, 6, 7, 8] (hc_1 (E := E)) (by decide +kernel) (ha_1 (E := E)) (hw_1 (E := E)) (fun H locs w => ?_)
      refine lv_aload_n hx hb dX4_place_19 rfl (lv_at hl 0 rfl) ?_
      refine r_get X w CL4 0 (by decide) wf_X4_9 0 rfl rfl dX4_place_20 ?_
      refine lv_iload_n hx hb dX4_place_23 rfl (lv_at hl 1 rfl) ?_
      refine lv_iload_n hx hb dX4_place_24 rfl (lv_at hl 2 rfl) ?_
      refine r_iast X w (wSt E a (u2 (fX4_lift σ bl) 0 bl.toNatClampNeg ce)) 1 rfl (in_bn c4_1) (ax_3 (E := E)) dX4_place_25 (fun H locs w => ?_)
      refine lv_aload_n hx hb dX4_place_26 rfl (lv_at hl 0 rfl) ?_
      refine r_get X w CL4 5 (by decide) wf_X4_27 0 rfl rfl dX4_place_27 ?_
      refine lv_iload_n hx hb dX4_place_30 rfl (lv_at hl 2 rfl) ?_
      refine lv_iload_n hx hb dX4_place_31 rfl (lv_at hl 1 rfl) ?_
      refine r_iast X w (wSt E a (u2 (u2 (fX4_lift σ bl) 0 bl.toNatClampNeg ce) 5 ce.toNatClampNeg bl)) 6 rfl (in_cell c11_2) (ax_2 (E := E)) dX4_place_32 (fun H locs w => ?_)
      have hq : fX4_place σ bl ce = (u2 (u2 (fX4_lift σ bl) 0 bl.toNatClampNeg ce) 5 ce.toNatClampNeg bl) := by simp only [fX4_place, if_neg c4_1, if_neg c11_2]
      rw [hq]
      exact r_vret X w hr dX4_place_33
def fX4_addBall (σ : N2) (ce : Int32) (vl : Int32) : Int32 × N2 := if (fX4_isBallNumber (σ 8 0)) = 0 then (((-3), σ)) else ((σ 8 0, (fX4_place (u2 (u2 σ 8 0 ((σ 8 0) + 1)) 1 (σ 8 0).toNatClampNeg vl) (σ 8 0) ce)))
theorem dX4_addBall_0 : decode cX4_addBall 0 = .ok (.aload_n 0, 1) := by decide +kernel
theorem dX4_addBall_1 : decode cX4_addBall 1 = .ok (.getfield 55, 3) := by decide +kernel
theorem dX4_addBall_4 : decode cX4_addBall 4 = .ok (.istore_n 3, 1) := by decide +kernel
theorem dX4_addBall_5 : decode cX4_addBall 5 = .ok (.iload_n 3, 1) := by decide +kernel
theorem dX4_addBall_6 : decode cX4_addBall 6 = .ok (.invokestatic 70, 3) := by decide +kernel
theorem dX4_addBall_9 : decode cX4_addBall 9 = .ok (.ifCond .ne 6, 3) := by decide +kernel
theorem dX4_addBall_12 : decode cX4_addBall 12 = .ok (.bipush (-3), 2) := by decide +kernel
theorem dX4_addBall_14 : decode cX4_addBall 14 = .ok (.ireturn, 1) := by decide +kernel
theorem dX4_addBall_15 : decode cX4_addBall 15 = .ok (.aload_n 0, 1) := by decide +kernel
theorem dX4_addBall_16 : decode cX4_addBall 16 = .ok (.dup, 1) := by decide +kernel
theorem dX4_addBall_17 : decode cX4_addBall 17 = .ok (.getfield 55, 3) := by decide +kernel
theorem dX4_addBall_20 : decode cX4_addBall 20 = .ok (.iconst 1, 1) := by decide +kernel
theorem dX4_addBall_21 : decode cX4_addBall 21 = .ok (.iadd, 1) := by decide +kernel
theorem dX4_addBall_22 : decode cX4_addBall 22 = .ok (.putfield 55, 3) := by decide +kernel
theorem dX4_addBall_25 : decode cX4_addBall 25 = .ok (.aload_n 0, 1) := by decide +kernel
theorem dX4_addBall_26 : decode cX4_addBall 26 = .ok (.getfield 15, 3) := by decide +kernel
theorem dX4_addBall_29 : decode cX4_addBall 29 = .ok (.iload_n 3, 1) := by decide +kernel
theorem dX4_addBall_30 : decode cX4_addBall 30 = .ok (.iload_n 2, 1) := by decide +kernel
theorem dX4_addBall_31 : decode cX4_addBall 31 = .ok (.iastore, 1) := by decide +kernel
theorem dX4_addBall_32 : decode cX4_addBall 32 = .ok (.aload_n 0, 1) := by decide +kernel
theorem dX4_addBall_33 : decode cX4_addBall 33 = .ok (.iload_n 3, 1) := by decide +kernel
theorem dX4_addBall_34 : decode cX4_addBall 34 = .ok (.iload_n 1, 1) := by decide +kernel
theorem dX4_addBall_35 : decode cX4_addBall 35 = .ok (.invokevirtual 86, 3) := by decide +kernel
theorem dX4_addBall_38 : decode cX4_addBall 38 = .ok (.iload_n 3, 1) := by decide +kernel
theorem dX4_addBall_39 : decode cX4_addBall 39 = .ok (.ireturn, 1) := by decide +kernel
theorem ck_X4_86 : CkV RX4 86 RX4 yX4_place cX4_place 3 none 2 := ⟨wm_X4_86, wim_yX4_place, wse_yX4_place, wi_X4, wc_yX4_place, by decide +kernel⟩
theorem ax_4 {E : Ev} {a0 : Nat → Nat} {σ0 : N2} {x : Int32} : (wSt E a0 σ0).set 0 (a0 0, .inr (3, ([.ref (a0 1), .ref (a0 2), .ref (a0 3), .ref (a0 4), .ref (a0 5), .ref (a0 6), .ref (a0 7), .ref (a0 8), .int (σ0 8 0), .int (σ0 8 1), .int (σ0 8 2), .int (σ0 8 3), .int (σ0 8 4), .int (σ0 8 5)] : List Value).set 8 (.int x))) = wSt E a0 (u2 σ0 8 0 x) := rfl
theorem ax_5 {E : Ev} {a0 : Nat → Nat} {σ0 : N2} {i x : Int32} : (wSt E a0 σ0).set 2 (a0 2, .inl (E.2.1.1, 12, .inl (upd (σ0 1) i.toNatClampNeg x))) = wSt E a0 (u2 σ0 1 i.toNatClampNeg x) := rfl
set_option maxHeartbeats 4000000 in
set_option maxRecDepth 100000 in
theorem kX4_addBall (l : Launch) (E : Ev) (a : Nat → Nat) (σ : N2) (ce : Int32) (vl : Int32) : KQ l yX4_addBall cX4_addBall 4 (some .int) 3 63 E [.ref (a 0), .int ce, .int vl] (wSt E a σ) (QI E (wSt E a σ) (fX4_addBall σ ce vl).1 (wSt E a ((fX4_addBall σ ce vl).2))) := by
  refine KQ.mk RX4 rfl (by decide +kernel) (Nat.le_of_ble_eq_true rfl) ?_
  intro p e s m below meth c ls X hr w hl
  have hx := X.1
  have hb := X.2.1
  have hl : lv_has ls 4 [(0, .ref (a 0)), (1, .int ce), (2, .int vl)] := hl
  refine lv_aload_n hx hb dX4_addBall_0 rfl (lv_at hl 0 rfl) ?_
  refine r_get X w CL4 8 (by decide) wf_X4_55 0 rfl rfl dX4_addBall_1 ?_
  refine lv_istore_n (lv' := [(3, .int (σ 8 0)), (0, .ref (a 0)), (1, .int ce), (2, .int vl)]) hx hb dX4_addBall_4 rfl hl (by decide) rfl (fun ls hl => ?_)
  refine lv_iload_n hx hb dX4_addBall_5 rfl (lv_at hl 0 rfl) ?_
  refine r_ci w (r_runS (As := [.int (σ 8 0)]) (rest := []) X w (kX4_isBallNumber l E (σ 8 0) ) ck_X4_70 ⟨Nat.le_of_ble_eq_true rfl, Nat.le_of_ble_eq_true rfl⟩ [] rfl (by decide +kernel) hl.1 (Nat.le_of_ble_eq_true rfl) rfl dX4_addBall_6 ⟨Nat.le_of_ble_eq_true rfl, Nat.le_of_ble_eq_true rfl⟩) (wSt E a σ) [] rfl (by decide +kernel) rfl rfl (fun H locs w => ?_)
  refine lv_if_ne (tgt := 15) hx hb dX4_addBall_9 (by decide) (fun c9_1 => ?_) (fun c9_1 => ?_)
  · refine lv_aload_n hx hb dX4_addBall_15 rfl (lv_at hl 1 rfl) ?_
    refine lv_dup hx hb dX4_addBall_16 rfl ?_
    refine r_get X w CL4 8 (by decide) wf_X4_55 0 rfl rfl dX4_addBall_17 ?_
    refine lv_iconst (v := 1) hx hb dX4_addBall_20 (by decide) ?_
    refine lv_iadd hx hb dX4_addBall_21 ?_
    refine r_put X w (wSt E a (u2 σ 8 0 ((σ 8 0) + 1))) CL4 8 (by decide) wf_X4_55 0 rfl rfl rfl rfl (Nat.le_of_ble_eq_true rfl) (ax_4 (E := E)) dX4_addBall_22 (fun H locs w => ?_)
    refine lv_aload_n hx hb dX4_addBall_25 rfl (lv_at hl 1 rfl) ?_
    refine r_get X w CL4 1 (by decide) wf_X4_15 0 rfl rfl dX4_addBall_26 ?_
    refine lv_iload_n hx hb dX4_addBall_29 rfl (lv_at hl 0 rfl) ?_
    refine lv_iload_n hx hb dX4_addBall_30 rfl (lv_at hl 3 rfl) ?_
    refine r_iast X w (wSt E a (u2 (u2 σ 8 0 ((σ 8 0) + 1)) 1 (σ 8 0).toNatClampNeg vl)) 2 rfl (in_bn c9_1) (ax_5 (E := E)) dX4_addBall_31 (fun H locs w => ?_)
    refine lv_aload_n hx hb dX4_addBall_32 rfl (lv_at hl 1 rfl) ?_
    refine lv_iload_n hx hb dX4_addBall_33 rfl (lv_at hl 0 rfl) ?_
    refine lv_iload_n hx hb dX4_addBall_34 rfl (lv_at hl 2 rfl) ?_
    refine r_cv w (r_runV (As := [.int (σ 8 0), .int ce]) (rest := []) X w (kX4_place l E a (u2 (u2 σ 8 0 ((σ 8 0) + 1)) 1 (σ 8 0).toNatClampNeg vl) (σ 8 0) ce ) ck_X4_86 ⟨Nat.le_of_ble_eq_true rfl, Nat.le_of_ble_eq_true rfl⟩ [0, 1, 2, 3, 4, 5, 6, 7, 8] (hc_1 (E := E)) (by decide +kernel) (k0 := 0) CL4 rfl hl.1 (Nat.le_of_ble_eq_true rfl) rfl dX4_addBall_35 ⟨Nat.le_of_ble_eq_true rfl, Nat.le_of_ble_eq_true rfl⟩) (wSt E a (fX4_place (u2 (u2 σ 8 0 ((σ 8 0) + 1)) 1 (σ 8 0).toNatClampNeg vl) (σ 8 0) ce)) [0, 1, 2, 3, 4, 5, 6, 7, 8] (hc_1 (E := E)) (by decide +kernel) (ha_1 (E := E)) (hw_1 (E := E)) (fun H locs w => ?_)
    refine lv_iload_n hx hb dX4_addBall_38 rfl (lv_at hl 0 rfl) ?_
    have hq : fX4_addBall σ ce vl = (σ 8 0, (fX4_place (u2 (u2 σ 8 0 ((σ 8 0) + 1)) 1 (σ 8 0).toNatClampNeg vl) (σ 8 0) ce)) := by simp only [fX4_addBall, if_neg c9_1]
    obtain ⟨h0_, h1_⟩ := tup2 hq
    rw [h0_, h1_]
    exact r_iret X w hr rfl dX4_addBall_39
  · refine lv_bipush (v := (-3)) hx hb dX4_addBall_12 (by decide) ?_
    have hq : fX4_addBall σ ce vl = ((-3), σ) := by simp only [fX4_addBall, if_pos c9_1]
    obtain ⟨h0_, h1_⟩ := tup2 hq
    rw [h0_, h1_]
    exact r_iret X w hr rfl dX4_addBall_14
def fX4_addStep (σ : N2) (bl : Int32) : N2 := if (fX4_isBallNumber bl) = 0 then ((σ)) else ((u2 σ 2 bl.toNatClampNeg ((σ 2 bl.toNatClampNeg) + 1)))
theorem dX4_addStep_0 : decode cX4_addStep 0 = .ok (.iload_n 1, 1) := by decide +kernel
theorem dX4_addStep_1 : decode cX4_addStep 1 = .ok (.invokestatic 70, 3) := by decide +kernel
theorem dX4_addStep_4 : decode cX4_addStep 4 = .ok (.ifCond .eq 13, 3) := by decide +kernel
theorem dX4_addStep_7 : decode cX4_addStep 7 = .ok (.aload_n 0, 1) := by decide +kernel
theorem dX4_addStep_8 : decode cX4_addStep 8 = .ok (.getfield 18, 3) := by decide +kernel
theorem dX4_addStep_11 : decode cX4_addStep 11 = .ok (.iload_n 1, 1) := by decide +kernel
theorem dX4_addStep_12 : decode cX4_addStep 12 = .ok (.dup2, 1) := by decide +kernel
theorem dX4_addStep_13 : decode cX4_addStep 13 = .ok (.iaload, 1) := by decide +kernel
theorem dX4_addStep_14 : decode cX4_addStep 14 = .ok (.iconst 1, 1) := by decide +kernel
theorem dX4_addStep_15 : decode cX4_addStep 15 = .ok (.iadd, 1) := by decide +kernel
theorem dX4_addStep_16 : decode cX4_addStep 16 = .ok (.iastore, 1) := by decide +kernel
theorem dX4_addStep_17 : decode cX4_addStep 17 = .ok (.return_, 1) := by decide +kernel
theorem ax_6 {E : Ev} {a0 : Nat → Nat} {σ0 : N2} {i x : Int32} : (wSt E a0 σ0).set 3 (a0 3, .inl (E.2.1.1, 12, .inl (upd (σ0 2) i.toNatClampNeg x))) = wSt E a0 (u2 σ0 2 i.toNatClampNeg x) := rfl
set_option maxHeartbeats 4000000 in
set_option maxRecDepth 100000 in
theorem kX4_addStep (l : Launch) (E : Ev) (a : Nat → Nat) (σ : N2) (bl : Int32) : KQ l yX4_addStep cX4_addStep 2 none 1 20 E [.ref (a 0), .int bl] (wSt E a σ) (QV E (wSt E a σ) (wSt E a (fX4_addStep σ bl))) := by
  refine KQ.mk RX4 rfl (by decide +kernel) (Nat.le_of_ble_eq_true rfl) ?_
  intro p e s m below meth c ls X hr w hl
  have hx := X.1
  have hb := X.2.1
  have hl : lv_has ls 2 [(0, .ref (a 0)), (1, .int bl)] := hl
  refine lv_iload_n hx hb dX4_addStep_0 rfl (lv_at hl 1 rfl) ?_
  refine r_ci w (r_runS (As := [.int bl]) (rest := []) X w (kX4_isBallNumber l E bl ) ck_X4_70 ⟨Nat.le_of_ble_eq_true rfl, Nat.le_of_ble_eq_true rfl⟩ [] rfl (by decide +kernel) hl.1 (Nat.le_of_ble_eq_true rfl) rfl dX4_addStep_1 ⟨Nat.le_of_ble_eq_true rfl, Nat.le_of_ble_eq_true rfl⟩) (wSt E a σ) [] rfl (by decide +kernel) rfl rfl (fun H locs w => ?_)
  refine lv_if_eq (tgt := 17) hx hb dX4_addStep_4 (by decide) (fun c4_1 => ?_) (fun c4_1 => ?_)
  · have hq : fX4_addStep σ bl = (σ) := by simp only [fX4_addStep, if_pos c4_1]
    rw [hq]
    exact r_vret X w hr dX4_addStep_17
  · refine lv_aload_n hx hb dX4_addStep_7 rfl (lv_at hl 0 rfl) ?_
    refine r_get X w CL4 2 (by decide) wf_X4_18 0 rfl rfl dX4_addStep_8 ?_
    refine lv_iload_n hx hb dX4_addStep_11 rfl (lv_at hl 1 rfl) ?_
    refine lv_dup2_11 hx hb dX4_addStep_12 rfl rfl ?_
    refine r_iald X w 3 rfl (in_bn c4_1) dX4_addStep_13 ?_
    refine lv_iconst (v := 1) hx hb dX4_addStep_14 (by decide) ?_
    refine lv_iadd hx hb dX4_addStep_15 ?_
    refine r_iast X w (wSt E a (u2 σ 2 bl.toNatClampNeg ((σ 2 bl.toNatClampNeg) + 1))) 3 rfl (in_bn c4_1) (ax_6 (E := E)) dX4_addStep_16 (fun H locs w => ?_)
    have hq : fX4_addStep σ bl = (u2 σ 2 bl.toNatClampNeg ((σ 2 bl.toNatClampNeg) + 1)) := by simp only [fX4_addStep, if_neg c4_1]
    rw [hq]
    exact r_vret X w hr dX4_addStep_17
def fX4_addBank (σ : N2) (bl : Int32) : N2 := if (fX4_isBallNumber bl) = 0 then ((σ)) else ((u2 σ 3 bl.toNatClampNeg ((σ 3 bl.toNatClampNeg) + 1)))
theorem dX4_addBank_0 : decode cX4_addBank 0 = .ok (.iload_n 1, 1) := by decide +kernel
theorem dX4_addBank_1 : decode cX4_addBank 1 = .ok (.invokestatic 70, 3) := by decide +kernel
theorem dX4_addBank_4 : decode cX4_addBank 4 = .ok (.ifCond .eq 13, 3) := by decide +kernel
theorem dX4_addBank_7 : decode cX4_addBank 7 = .ok (.aload_n 0, 1) := by decide +kernel
theorem dX4_addBank_8 : decode cX4_addBank 8 = .ok (.getfield 21, 3) := by decide +kernel
theorem dX4_addBank_11 : decode cX4_addBank 11 = .ok (.iload_n 1, 1) := by decide +kernel
theorem dX4_addBank_12 : decode cX4_addBank 12 = .ok (.dup2, 1) := by decide +kernel
theorem dX4_addBank_13 : decode cX4_addBank 13 = .ok (.iaload, 1) := by decide +kernel
theorem dX4_addBank_14 : decode cX4_addBank 14 = .ok (.iconst 1, 1) := by decide +kernel
theorem dX4_addBank_15 : decode cX4_addBank 15 = .ok (.iadd, 1) := by decide +kernel
theorem dX4_addBank_16 : decode cX4_addBank 16 = .ok (.iastore, 1) := by decide +kernel
theorem dX4_addBank_17 : decode cX4_addBank 17 = .ok (.return_, 1) := by decide +kernel
theorem ax_7 {E : Ev} {a0 : Nat → Nat} {σ0 : N2} {i x : Int32} : (wSt E a0 σ0).set 4 (a0 4, .inl (E.2.1.1, 12, .inl (upd (σ0 3) i.toNatClampNeg x))) = wSt E a0 (u2 σ0 3 i.toNatClampNeg x) := rfl
set_option maxHeartbeats 4000000 in
set_option maxRecDepth 100000 in
theorem kX4_addBank (l : Launch) (E : Ev) (a : Nat → Nat) (σ : N2) (bl : Int32) : KQ l yX4_addBank cX4_addBank 2 none 1 20 E [.ref (a 0), .int bl] (wSt E a σ) (QV E (wSt E a σ) (wSt E a (fX4_addBank σ bl))) := by
  refine KQ.mk RX4 rfl (by decide +kernel) (Nat.le_of_ble_eq_true rfl) ?_
  intro p e s m below meth c ls X hr w hl
  have hx := X.1
  have hb := X.2.1
  have hl : lv_has ls 2 [(0, .ref (a 0)), (1, .int bl)] := hl
  refine lv_iload_n hx hb dX4_addBank_0 rfl (lv_at hl 1 rfl) ?_
  refine r_ci w (r_runS (As := [.int bl]) (rest := []) X w (kX4_isBallNumber l E bl ) ck_X4_70 ⟨Nat.le_of_ble_eq_true rfl, Nat.le_of_ble_eq_true rfl⟩ [] rfl (by decide +kernel) hl.1 (Nat.le_of_ble_eq_true rfl) rfl dX4_addBank_1 ⟨Nat.le_of_ble_eq_true rfl, Nat.le_of_ble_eq_true rfl⟩) (wSt E a σ) [] rfl (by decide +kernel) rfl rfl (fun H locs w => ?_)
  refine lv_if_eq (tgt := 17) hx hb dX4_addBank_4 (by decide) (fun c4_1 => ?_) (fun c4_1 => ?_)
  · have hq : fX4_addBank σ bl = (σ) := by simp only [fX4_addBank, if_pos c4_1]
    rw [hq]
    exact r_vret X w hr dX4_addBank_17
  · refine lv_aload_n hx hb dX4_addBank_7 rfl (lv_at hl 0 rfl) ?_
    refine r_get X w CL4 3 (by decide) wf_X4_21 0 rfl rfl dX4_addBank_8 ?_
    refine lv_iload_n hx hb dX4_addBank_11 rfl (lv_at hl 1 rfl) ?_
    refine lv_dup2_11 hx hb dX4_addBank_12 rfl rfl ?_
    refine r_iald X w 4 rfl (in_bn c4_1) dX4_addBank_13 ?_
    refine lv_iconst (v := 1) hx hb dX4_addBank_14 (by decide) ?_
    refine lv_iadd hx hb dX4_addBank_15 ?_
    refine r_iast X w (wSt E a (u2 σ 3 bl.toNatClampNeg ((σ 3 bl.toNatClampNeg) + 1))) 4 rfl (in_bn c4_1) (ax_7 (E := E)) dX4_addBank_16 (fun H locs w => ?_)
    have hq : fX4_addBank σ bl = (u2 σ 3 bl.toNatClampNeg ((σ 3 bl.toNatClampNeg) + 1)) := by simp only [fX4_addBank, if_neg c4_1]
    rw [hq]
    exact r_vret X w hr dX4_addBank_17
def fX4_addHit (σ : N2) (bl : Int32) : N2 := if (fX4_isBallNumber bl) = 0 then ((σ)) else ((u2 σ 4 bl.toNatClampNeg ((σ 4 bl.toNatClampNeg) + 1)))
theorem dX4_addHit_0 : decode cX4_addHit 0 = .ok (.iload_n 1, 1) := by decide +kernel
theorem dX4_addHit_1 : decode cX4_addHit 1 = .ok (.invokestatic 70, 3) := by decide +kernel
theorem dX4_addHit_4 : decode cX4_addHit 4 = .ok (.ifCond .eq 13, 3) := by decide +kernel
theorem dX4_addHit_7 : decode cX4_addHit 7 = .ok (.aload_n 0, 1) := by decide +kernel
theorem dX4_addHit_8 : decode cX4_addHit 8 = .ok (.getfield 24, 3) := by decide +kernel
theorem dX4_addHit_11 : decode cX4_addHit 11 = .ok (.iload_n 1, 1) := by decide +kernel
theorem dX4_addHit_12 : decode cX4_addHit 12 = .ok (.dup2, 1) := by decide +kernel
theorem dX4_addHit_13 : decode cX4_addHit 13 = .ok (.iaload, 1) := by decide +kernel
theorem dX4_addHit_14 : decode cX4_addHit 14 = .ok (.iconst 1, 1) := by decide +kernel
theorem dX4_addHit_15 : decode cX4_addHit 15 = .ok (.iadd, 1) := by decide +kernel
theorem dX4_addHit_16 : decode cX4_addHit 16 = .ok (.iastore, 1) := by decide +kernel
theorem dX4_addHit_17 : decode cX4_addHit 17 = .ok (.return_, 1) := by decide +kernel
theorem ax_8 {E : Ev} {a0 : Nat → Nat} {σ0 : N2} {i x : Int32} : (wSt E a0 σ0).set 5 (a0 5, .inl (E.2.1.1, 12, .inl (upd (σ0 4) i.toNatClampNeg x))) = wSt E a0 (u2 σ0 4 i.toNatClampNeg x) := rfl
set_option maxHeartbeats 4000000 in
set_option maxRecDepth 100000 in
theorem kX4_addHit (l : Launch) (E : Ev) (a : Nat → Nat) (σ : N2) (bl : Int32) : KQ l yX4_addHit cX4_addHit 2 none 1 20 E [.ref (a 0), .int bl] (wSt E a σ) (QV E (wSt E a σ) (wSt E a (fX4_addHit σ bl))) := by
  refine KQ.mk RX4 rfl (by decide +kernel) (Nat.le_of_ble_eq_true rfl) ?_
  intro p e s m below meth c ls X hr w hl
  have hx := X.1
  have hb := X.2.1
  have hl : lv_has ls 2 [(0, .ref (a 0)), (1, .int bl)] := hl
  refine lv_iload_n hx hb dX4_addHit_0 rfl (lv_at hl 1 rfl) ?_
  refine r_ci w (r_runS (As := [.int bl]) (rest := []) X w (kX4_isBallNumber l E bl ) ck_X4_70 ⟨Nat.le_of_ble_eq_true rfl, Nat.le_of_ble_eq_true rfl⟩ [] rfl (by decide +kernel) hl.1 (Nat.le_of_ble_eq_true rfl) rfl dX4_addHit_1 ⟨Nat.le_of_ble_eq_true rfl, Nat.le_of_ble_eq_true rfl⟩) (wSt E a σ) [] rfl (by decide +kernel) rfl rfl (fun H locs w => ?_)
  refine lv_if_eq (tgt := 17) hx hb dX4_addHit_4 (by decide) (fun c4_1 => ?_) (fun c4_1 => ?_)
  · have hq : fX4_addHit σ bl = (σ) := by simp only [fX4_addHit, if_pos c4_1]
    rw [hq]
    exact r_vret X w hr dX4_addHit_17
  · refine lv_aload_n hx hb dX4_addHit_7 rfl (lv_at hl 0 rfl) ?_
    refine r_get X w CL4 4 (by decide) wf_X4_24 0 rfl rfl dX4_addHit_8 ?_
    refine lv_iload_n hx hb dX4_addHit_11 rfl (lv_at hl 1 rfl) ?_
    refine lv_dup2_11 hx hb dX4_addHit_12 rfl rfl ?_
    refine r_iald X w 5 rfl (in_bn c4_1) dX4_addHit_13 ?_
    refine lv_iconst (v := 1) hx hb dX4_addHit_14 (by decide) ?_
    refine lv_iadd hx hb dX4_addHit_15 ?_
    refine r_iast X w (wSt E a (u2 σ 4 bl.toNatClampNeg ((σ 4 bl.toNatClampNeg) + 1))) 5 rfl (in_bn c4_1) (ax_8 (E := E)) dX4_addHit_16 (fun H locs w => ?_)
    have hq : fX4_addHit σ bl = (u2 σ 4 bl.toNatClampNeg ((σ 4 bl.toNatClampNeg) + 1)) := by simp only [fX4_addHit, if_neg c4_1]
    rw [hq]
    exact r_vret X w hr dX4_addHit_17
def fX4_changeTurn (σ : N2) : N2 := (u2 (u2 σ 8 2 (1 - (σ 8 2))) 8 3 0)
theorem dX4_changeTurn_0 : decode cX4_changeTurn 0 = .ok (.aload_n 0, 1) := by decide +kernel
theorem dX4_changeTurn_1 : decode cX4_changeTurn 1 = .ok (.iconst 1, 1) := by decide +kernel
theorem dX4_changeTurn_2 : decode cX4_changeTurn 2 = .ok (.aload_n 0, 1) := by decide +kernel
theorem dX4_changeTurn_3 : decode cX4_changeTurn 3 = .ok (.getfield 58, 3) := by decide +kernel
theorem dX4_changeTurn_6 : decode cX4_changeTurn 6 = .ok (.isub, 1) := by decide +kernel
theorem dX4_changeTurn_7 : decode cX4_changeTurn 7 = .ok (.putfield 58, 3) := by decide +kernel
theorem dX4_changeTurn_10 : decode cX4_changeTurn 10 = .ok (.aload_n 0, 1) := by decide +kernel
theorem dX4_changeTurn_11 : decode cX4_changeTurn 11 = .ok (.iconst 0, 1) := by decide +kernel
theorem dX4_changeTurn_12 : decode cX4_changeTurn 12 = .ok (.putfield 61, 3) := by decide +kernel
theorem dX4_changeTurn_15 : decode cX4_changeTurn 15 = .ok (.return_, 1) := by decide +kernel
theorem ax_9 {E : Ev} {a0 : Nat → Nat} {σ0 : N2} {x : Int32} : (wSt E a0 σ0).set 0 (a0 0, .inr (3, ([.ref (a0 1), .ref (a0 2), .ref (a0 3), .ref (a0 4), .ref (a0 5), .ref (a0 6), .ref (a0 7), .ref (a0 8), .int (σ0 8 0), .int (σ0 8 1), .int (σ0 8 2), .int (σ0 8 3), .int (σ0 8 4), .int (σ0 8 5)] : List Value).set 10 (.int x))) = wSt E a0 (u2 σ0 8 2 x) := rfl
theorem ax_10 {E : Ev} {a0 : Nat → Nat} {σ0 : N2} {x : Int32} : (wSt E a0 σ0).set 0 (a0 0, .inr (3, ([.ref (a0 1), .ref (a0 2), .ref (a0 3), .ref (a0 4), .ref (a0 5), .ref (a0 6), .ref (a0 7), .ref (a0 8), .int (σ0 8 0), .int (σ0 8 1), .int (σ0 8 2), .int (σ0 8 3), .int (σ0 8 4), .int (σ0 8 5)] : List Value).set 11 (.int x))) = wSt E a0 (u2 σ0 8 3 x) := rfl
set_option maxHeartbeats 4000000 in
set_option maxRecDepth 100000 in
theorem kX4_changeTurn (l : Launch) (E : Ev) (a : Nat → Nat) (σ : N2) : KQ l yX4_changeTurn cX4_changeTurn 1 none 0 0 E [.ref (a 0)] (wSt E a σ) (QV E (wSt E a σ) (wSt E a (fX4_changeTurn σ))) := by
  refine KQ.mk RX4 rfl (by decide +kernel) (Nat.le_of_ble_eq_true rfl) ?_
  intro p e s m below meth c ls X hr w hl
  have hx := X.1
  have hb := X.2.1
  have hl : lv_has ls 1 [(0, .ref (a 0))] := hl
  refine lv_aload_n hx hb dX4_changeTurn_0 rfl (lv_at hl 0 rfl) ?_
  refine lv_iconst (v := 1) hx hb dX4_changeTurn_1 (by decide) ?_
  refine lv_aload_n hx hb dX4_changeTurn_2 rfl (lv_at hl 0 rfl) ?_
  refine r_get X w CL4 10 (by decide) wf_X4_58 0 rfl rfl dX4_changeTurn_3 ?_
  refine lv_isub hx hb dX4_changeTurn_6 ?_
  refine r_put X w (wSt E a (u2 σ 8 2 (1 - (σ 8 2)))) CL4 10 (by decide) wf_X4_58 0 rfl rfl rfl rfl (Nat.le_of_ble_eq_true rfl) (ax_9 (E := E)) dX4_changeTurn_7 (fun H locs w => ?_)
  refine lv_aload_n hx hb dX4_changeTurn_10 rfl (lv_at hl 0 rfl) ?_
  refine lv_iconst (v := 0) hx hb dX4_changeTurn_11 (by decide) ?_
  refine r_put X w (wSt E a (u2 (u2 σ 8 2 (1 - (σ 8 2))) 8 3 0)) CL4 11 (by decide) wf_X4_61 0 rfl rfl rfl rfl (Nat.le_of_ble_eq_true rfl) (ax_10 (E := E)) dX4_changeTurn_12 (fun H locs w => ?_)
  have hq : fX4_changeTurn σ = (u2 (u2 σ 8 2 (1 - (σ 8 2))) 8 3 0) := rfl
  rw [hq]
  exact r_vret X w hr dX4_changeTurn_15
def fX6_isPlayer (pl : Int32) : Int32 := if pl < 0 then ((0)) else (if 2 ≤ pl then ((0)) else ((1)))
theorem dX6_isPlayer_0 : decode cX6_isPlayer 0 = .ok (.iload_n 0, 1) := by decide +kernel
theorem dX6_isPlayer_1 : decode cX6_isPlayer 1 = .ok (.ifCond .lt 12, 3) := by decide +kernel
theorem dX6_isPlayer_4 : decode cX6_isPlayer 4 = .ok (.iload_n 0, 1) := by decide +kernel
theorem dX6_isPlayer_5 : decode cX6_isPlayer 5 = .ok (.iconst 2, 1) := by decide +kernel
theorem dX6_isPlayer_6 : decode cX6_isPlayer 6 = .ok (.if_icmp .ge 7, 3) := by decide +kernel
theorem dX6_isPlayer_9 : decode cX6_isPlayer 9 = .ok (.iconst 1, 1) := by decide +kernel
theorem dX6_isPlayer_10 : decode cX6_isPlayer 10 = .ok (.goto 4, 3) := by decide +kernel
theorem dX6_isPlayer_13 : decode cX6_isPlayer 13 = .ok (.iconst 0, 1) := by decide +kernel
theorem dX6_isPlayer_14 : decode cX6_isPlayer 14 = .ok (.ireturn, 1) := by decide +kernel
set_option maxHeartbeats 4000000 in
set_option maxRecDepth 100000 in
theorem kX6_isPlayer (l : Launch) (E : Ev) (pl : Int32) : KQ l yX6_isPlayer cX6_isPlayer 1 (some .boolean) 0 0 E [.int pl] [] (QI E [] (fX6_isPlayer pl) []) := by
  refine KQ.mk RX6 rfl (by decide +kernel) (Nat.le_of_ble_eq_true rfl) ?_
  intro p e s m below meth c ls X hr w hl
  have hx := X.1
  have hb := X.2.1
  have hl : lv_has ls 1 [(0, .int pl)] := hl
  refine lv_iload_n hx hb dX6_isPlayer_0 rfl (lv_at hl 0 rfl) ?_
  refine lv_if_lt (tgt := 13) hx hb dX6_isPlayer_1 (by decide) (fun c1_1 => ?_) (fun c1_1 => ?_)
  · refine lv_iconst (v := 0) hx hb dX6_isPlayer_13 (by decide) ?_
    have hq : fX6_isPlayer pl = (0) := by simp only [fX6_isPlayer, if_pos c1_1]
    rw [hq]
    exact r_zret X w hr (Or.inl rfl) rfl dX6_isPlayer_14
  · refine lv_iload_n hx hb dX6_isPlayer_4 rfl (lv_at hl 0 rfl) ?_
    refine lv_iconst (v := 2) hx hb dX6_isPlayer_5 (by decide) ?_
    refine lv_icmp_ge (tgt := 13) hx hb dX6_isPlayer_6 (by decide) (fun c6_2 => ?_) (fun c6_2 => ?_)
    · refine lv_iconst (v := 0) hx hb dX6_isPlayer_13 (by decide) ?_
      have hq : fX6_isPlayer pl = (0) := by simp only [fX6_isPlayer, if_neg c1_1, if_pos c6_2]
      rw [hq]
      exact r_zret X w hr (Or.inl rfl) rfl dX6_isPlayer_14
    · refine lv_iconst (v := 1) hx hb dX6_isPlayer_9 (by decide) ?_
      refine lv_goto (tgt := 14) hx hb dX6_isPlayer_10 (by decide) ?_
      have hq : fX6_isPlayer pl = (1) := by simp only [fX6_isPlayer, if_neg c1_1, if_neg c6_2]
      rw [hq]
      exact r_zret X w hr (Or.inr rfl) rfl dX6_isPlayer_14
theorem zX6_isPlayer (pl : Int32) : fX6_isPlayer pl = 0 ∨ fX6_isPlayer pl = 1 := by
  unfold fX6_isPlayer
  repeat' split
  all_goals first | exact Or.inl rfl | exact Or.inr rfl | (simp; done) | exact Or.inl rfl
theorem in_pl {pl : Int32} (h : ¬ fX6_isPlayer pl = 0) : vp_in pl 2 := by
  unfold fX6_isPlayer at h
  split at h
  · exact absurd rfl h
  · split at h
    · exact absurd rfl h
    · exact vin_ge 2 rfl ‹_› ‹_›
def fX4_scoreShot (σ : N2) (wo : Int32) : N2 := if wo = 0 then (((fX4_changeTurn (u2 σ 8 4 ((σ 8 4) + 1))))) else (if (fX6_isPlayer ((u2 (u2 (u2 σ 8 4 ((σ 8 4) + 1)) 8 5 (((u2 σ 8 4 ((σ 8 4) + 1)) 8 5) + 1)) 8 3 (((u2 (u2 σ 8 4 ((σ 8 4) + 1)) 8 5 (((u2 σ 8 4 ((σ 8 4) + 1)) 8 5) + 1)) 8 3) + 1)) 8 2)) = 0 then ((u2 (u2 (u2 σ 8 4 ((σ 8 4) + 1)) 8 5 (((u2 σ 8 4 ((σ 8 4) + 1)) 8 5) + 1)) 8 3 (((u2 (u2 σ 8 4 ((σ 8 4) + 1)) 8 5 (((u2 σ 8 4 ((σ 8 4) + 1)) 8 5) + 1)) 8 3) + 1))) else ((u2 (u2 (u2 (u2 σ 8 4 ((σ 8 4) + 1)) 8 5 (((u2 σ 8 4 ((σ 8 4) + 1)) 8 5) + 1)) 8 3 (((u2 (u2 σ 8 4 ((σ 8 4) + 1)) 8 5 (((u2 σ 8 4 ((σ 8 4) + 1)) 8 5) + 1)) 8 3) + 1)) 7 ((u2 (u2 (u2 σ 8 4 ((σ 8 4) + 1)) 8 5 (((u2 σ 8 4 ((σ 8 4) + 1)) 8 5) + 1)) 8 3 (((u2 (u2 σ 8 4 ((σ 8 4) + 1)) 8 5 (((u2 σ 8 4 ((σ 8 4) + 1)) 8 5) + 1)) 8 3) + 1)) 8 2).toNatClampNeg (((u2 (u2 (u2 σ 8 4 ((σ 8 4) + 1)) 8 5 (((u2 σ 8 4 ((σ 8 4) + 1)) 8 5) + 1)) 8 3 (((u2 (u2 σ 8 4 ((σ 8 4) + 1)) 8 5 (((u2 σ 8 4 ((σ 8 4) + 1)) 8 5) + 1)) 8 3) + 1)) 7 ((u2 (u2 (u2 σ 8 4 ((σ 8 4) + 1)) 8 5 (((u2 σ 8 4 ((σ 8 4) + 1)) 8 5) + 1)) 8 3 (((u2 (u2 σ 8 4 ((σ 8 4) + 1)) 8 5 (((u2 σ 8 4 ((σ 8 4) + 1)) 8 5) + 1)) 8 3) + 1)) 8 2).toNatClampNeg) + wo))))
theorem dX4_scoreShot_0 : decode cX4_scoreShot 0 = .ok (.aload_n 0, 1) := by decide +kernel
theorem dX4_scoreShot_1 : decode cX4_scoreShot 1 = .ok (.dup, 1) := by decide +kernel
theorem dX4_scoreShot_2 : decode cX4_scoreShot 2 = .ok (.getfield 64, 3) := by decide +kernel
theorem dX4_scoreShot_5 : decode cX4_scoreShot 5 = .ok (.iconst 1, 1) := by decide +kernel
theorem dX4_scoreShot_6 : decode cX4_scoreShot 6 = .ok (.iadd, 1) := by decide +kernel
theorem dX4_scoreShot_7 : decode cX4_scoreShot 7 = .ok (.putfield 64, 3) := by decide +kernel
theorem dX4_scoreShot_10 : decode cX4_scoreShot 10 = .ok (.iload_n 1, 1) := by decide +kernel
theorem dX4_scoreShot_11 : decode cX4_scoreShot 11 = .ok (.ifCond .ne 8, 3) := by decide +kernel
theorem dX4_scoreShot_14 : decode cX4_scoreShot 14 = .ok (.aload_n 0, 1) := by decide +kernel
theorem dX4_scoreShot_15 : decode cX4_scoreShot 15 = .ok (.invokevirtual 94, 3) := by decide +kernel
theorem dX4_scoreShot_18 : decode cX4_scoreShot 18 = .ok (.return_, 1) := by decide +kernel
theorem dX4_scoreShot_19 : decode cX4_scoreShot 19 = .ok (.aload_n 0, 1) := by decide +kernel
theorem dX4_scoreShot_20 : decode cX4_scoreShot 20 = .ok (.dup, 1) := by decide +kernel
theorem dX4_scoreShot_21 : decode cX4_scoreShot 21 = .ok (.getfield 67, 3) := by decide +kernel
theorem dX4_scoreShot_24 : decode cX4_scoreShot 24 = .ok (.iconst 1, 1) := by decide +kernel
theorem dX4_scoreShot_25 : decode cX4_scoreShot 25 = .ok (.iadd, 1) := by decide +kernel
theorem dX4_scoreShot_26 : decode cX4_scoreShot 26 = .ok (.putfield 67, 3) := by decide +kernel
theorem dX4_scoreShot_29 : decode cX4_scoreShot 29 = .ok (.aload_n 0, 1) := by decide +kernel
theorem dX4_scoreShot_30 : decode cX4_scoreShot 30 = .ok (.dup, 1) := by decide +kernel
theorem dX4_scoreShot_31 : decode cX4_scoreShot 31 = .ok (.getfield 61, 3) := by decide +kernel
theorem dX4_scoreShot_34 : decode cX4_scoreShot 34 = .ok (.iconst 1, 1) := by decide +kernel
theorem dX4_scoreShot_35 : decode cX4_scoreShot 35 = .ok (.iadd, 1) := by decide +kernel
theorem dX4_scoreShot_36 : decode cX4_scoreShot 36 = .ok (.putfield 61, 3) := by decide +kernel
theorem dX4_scoreShot_39 : decode cX4_scoreShot 39 = .ok (.aload_n 0, 1) := by decide +kernel
theorem dX4_scoreShot_40 : decode cX4_scoreShot 40 = .ok (.getfield 58, 3) := by decide +kernel
theorem dX4_scoreShot_43 : decode cX4_scoreShot 43 = .ok (.invokestatic 97, 3) := by decide +kernel
theorem dX4_scoreShot_46 : decode cX4_scoreShot 46 = .ok (.ifCond .eq 16, 3) := by decide +kernel
theorem dX4_scoreShot_49 : decode cX4_scoreShot 49 = .ok (.aload_n 0, 1) := by decide +kernel
theorem dX4_scoreShot_50 : decode cX4_scoreShot 50 = .ok (.getfield 33, 3) := by decide +kernel
theorem dX4_scoreShot_53 : decode cX4_scoreShot 53 = .ok (.aload_n 0, 1) := by decide +kernel
theorem dX4_scoreShot_54 : decode cX4_scoreShot 54 = .ok (.getfield 58, 3) := by decide +kernel
theorem dX4_scoreShot_57 : decode cX4_scoreShot 57 = .ok (.dup2, 1) := by decide +kernel
theorem dX4_scoreShot_58 : decode cX4_scoreShot 58 = .ok (.iaload, 1) := by decide +kernel
theorem dX4_scoreShot_59 : decode cX4_scoreShot 59 = .ok (.iload_n 1, 1) := by decide +kernel
theorem dX4_scoreShot_60 : decode cX4_scoreShot 60 = .ok (.iadd, 1) := by decide +kernel
theorem dX4_scoreShot_61 : decode cX4_scoreShot 61 = .ok (.iastore, 1) := by decide +kernel
theorem dX4_scoreShot_62 : decode cX4_scoreShot 62 = .ok (.return_, 1) := by decide +kernel
theorem ck_X4_94 : CkV RX4 94 RX4 yX4_changeTurn cX4_changeTurn 1 none 0 := ⟨wm_X4_94, wim_yX4_changeTurn, wse_yX4_changeTurn, wi_X4, wc_yX4_changeTurn, by decide +kernel⟩
theorem ck_X4_97 : CkN RX4 97 yX6_isPlayer cX6_isPlayer 1 (some .boolean) 1 := ⟨nl_31, wst_yX6_isPlayer, wi_X6, wc_yX6_isPlayer, by decide +kernel⟩
theorem ax_11 {E : Ev} {a0 : Nat → Nat} {σ0 : N2} {x : Int32} : (wSt E a0 σ0).set 0 (a0 0, .inr (3, ([.ref (a0 1), .ref (a0 2), .ref (a0 3), .ref (a0 4), .ref (a0 5), .ref (a0 6), .ref (a0 7), .ref (a0 8), .int (σ0 8 0), .int (σ0 8 1), .int (σ0 8 2), .int (σ0 8 3), .int (σ0 8 4), .int (σ0 8 5)] : List Value).set 12 (.int x))) = wSt E a0 (u2 σ0 8 4 x) := rfl
theorem ax_12 {E : Ev} {a0 : Nat → Nat} {σ0 : N2} {x : Int32} : (wSt E a0 σ0).set 0 (a0 0, .inr (3, ([.ref (a0 1), .ref (a0 2), .ref (a0 3), .ref (a0 4), .ref (a0 5), .ref (a0 6), .ref (a0 7), .ref (a0 8), .int (σ0 8 0), .int (σ0 8 1), .int (σ0 8 2), .int (σ0 8 3), .int (σ0 8 4), .int (σ0 8 5)] : List Value).set 13 (.int x))) = wSt E a0 (u2 σ0 8 5 x) := rfl
theorem ax_13 {E : Ev} {a0 : Nat → Nat} {σ0 : N2} {i x : Int32} : (wSt E a0 σ0).set 8 (a0 8, .inl (E.2.1.1, 2, .inl (upd (σ0 7) i.toNatClampNeg x))) = wSt E a0 (u2 σ0 7 i.toNatClampNeg x) := rfl
set_option maxHeartbeats 4000000 in
set_option maxRecDepth 100000 in
theorem kX4_scoreShot (l : Launch) (E : Ev) (a : Nat → Nat) (σ : N2) (wo : Int32) : KQ l yX4_scoreShot cX4_scoreShot 2 none 1 20 E [.ref (a 0), .int wo] (wSt E a σ) (QV E (wSt E a σ) (wSt E a (fX4_scoreShot σ wo))) := by
  refine KQ.mk RX4 rfl (by decide +kernel) (Nat.le_of_ble_eq_true rfl) ?_
  intro p e s m below meth c ls X hr w hl
  have hx := X.1
  have hb := X.2.1
  have hl : lv_has ls 2 [(0, .ref (a 0)), (1, .int wo)] := hl
  refine lv_aload_n hx hb dX4_scoreShot_0 rfl (lv_at hl 0 rfl) ?_
  refine lv_dup hx hb dX4_scoreShot_1 rfl ?_
  refine r_get X w CL4 12 (by decide) wf_X4_64 0 rfl rfl dX4_scoreShot_2 ?_
  refine lv_iconst (v := 1) hx hb dX4_scoreShot_5 (by decide) ?_
  refine lv_iadd hx hb dX4_scoreShot_6 ?_
  refine r_put X w (wSt E a (u2 σ 8 4 ((σ 8 4) + 1))) CL4 12 (by decide) wf_X4_64 0 rfl rfl rfl rfl (Nat.le_of_ble_eq_true rfl) (ax_11 (E := E)) dX4_scoreShot_7 (fun H locs w => ?_)
  refine lv_iload_n hx hb dX4_scoreShot_10 rfl (lv_at hl 1 rfl) ?_
  refine lv_if_ne (tgt := 19) hx hb dX4_scoreShot_11 (by decide) (fun c11_1 => ?_) (fun c11_1 => ?_)
  · refine lv_aload_n hx hb dX4_scoreShot_19 rfl (lv_at hl 0 rfl) ?_
    refine lv_dup hx hb dX4_scoreShot_20 rfl ?_
    refine r_get X w CL4 13 (by decide) wf_X4_67 0 rfl rfl dX4_scoreShot_21 ?_
    refine lv_iconst (v := 1) hx hb dX4_scoreShot_24 (by decide) ?_
    refine lv_iadd hx hb dX4_scoreShot_25 ?_
    refine r_put X w (wSt E a (u2 (u2 σ 8 4 ((σ 8 4) + 1)) 8 5 (((u2 σ 8 4 ((σ 8 4) + 1)) 8 5) + 1))) CL4 13 (by decide) wf_X4_67 0 rfl rfl rfl rfl (Nat.le_of_ble_eq_true rfl) (ax_12 (E := E)) dX4_scoreShot_26 (fun H locs w => ?_)
    refine lv_aload_n hx hb dX4_scoreShot_29 rfl (lv_at hl 0 rfl) ?_
    refine lv_dup hx hb dX4_scoreShot_30 rfl ?_
    refine r_get X w CL4 11 (by decide) wf_X4_61 0 rfl rfl dX4_scoreShot_31 ?_
    refine lv_iconst (v := 1) hx hb dX4_scoreShot_34 (by decide) ?_
    refine lv_iadd hx hb dX4_scoreShot_35 ?_
    refine r_put X w (wSt E a (u2 (u2 (u2 σ 8 4 ((σ 8 4) + 1)) 8 5 (((u2 σ 8 4 ((σ 8 4) + 1)) 8 5) + 1)) 8 3 (((u2 (u2 σ 8 4 ((σ 8 4) + 1)) 8 5 (((u2 σ 8 4 ((σ 8 4) + 1)) 8 5) + 1)) 8 3) + 1))) CL4 11 (by decide) wf_X4_61 0 rfl rfl rfl rfl (Nat.le_of_ble_eq_true rfl) (ax_10 (E := E)) dX4_scoreShot_36 (fun H locs w => ?_)
    refine lv_aload_n hx hb dX4_scoreShot_39 rfl (lv_at hl 0 rfl) ?_
    refine r_get X w CL4 10 (by decide) wf_X4_58 0 rfl rfl dX4_scoreShot_40 ?_
    refine r_ci w (r_runSN (As := [.int ((u2 (u2 (u2 σ 8 4 ((σ 8 4) + 1)) 8 5 (((u2 σ 8 4 ((σ 8 4) + 1)) 8 5) + 1)) 8 3 (((u2 (u2 σ 8 4 ((σ 8 4) + 1)) 8 5 (((u2 σ 8 4 ((σ 8 4) + 1)) 8 5) + 1)) 8 3) + 1)) 8 2)]) (rest := []) X w (kX6_isPlayer l E ((u2 (u2 (u2 σ 8 4 ((σ 8 4) + 1)) 8 5 (((u2 σ 8 4 ((σ 8 4) + 1)) 8 5) + 1)) 8 3 (((u2 (u2 σ 8 4 ((σ 8 4) + 1)) 8 5 (((u2 σ 8 4 ((σ 8 4) + 1)) 8 5) + 1)) 8 3) + 1)) 8 2) ) ck_X4_97 ⟨Nat.le_of_ble_eq_true rfl, Nat.le_of_ble_eq_true rfl⟩ [] rfl (by decide +kernel) hl.1 (Nat.le_of_ble_eq_true rfl) rfl dX4_scoreShot_43 ⟨Nat.le_of_ble_eq_true rfl, Nat.le_of_ble_eq_true rfl⟩) (wSt E a (u2 (u2 (u2 σ 8 4 ((σ 8 4) + 1)) 8 5 (((u2 σ 8 4 ((σ 8 4) + 1)) 8 5) + 1)) 8 3 (((u2 (u2 σ 8 4 ((σ 8 4) + 1)) 8 5 (((u2 σ 8 4 ((σ 8 4) + 1)) 8 5) + 1)) 8 3) + 1))) [] rfl (by decide +kernel) rfl rfl (fun H locs w => ?_)
    refine lv_if_eq (tgt := 62) hx hb dX4_scoreShot_46 (by decide) (fun c46_2 => ?_) (fun c46_2 => ?_)
    · have hq : fX4_scoreShot σ wo = (u2 (u2 (u2 σ 8 4 ((σ 8 4) + 1)) 8 5 (((u2 σ 8 4 ((σ 8 4) + 1)) 8 5) + 1)) 8 3 (((u2 (u2 σ 8 4 ((σ 8 4) + 1)) 8 5 (((u2 σ 8 4 ((σ 8 4) + 1)) 8 5) + 1)) 8 3) + 1)) := by simp only [fX4_scoreShot, if_neg c11_1, if_pos c46_2]
      rw [hq]
      exact r_vret X w hr dX4_scoreShot_62
    · refine lv_aload_n hx hb dX4_scoreShot_49 rfl (lv_at hl 0 rfl) ?_
      refine r_get X w CL4 7 (by decide) wf_X4_33 0 rfl rfl dX4_scoreShot_50 ?_
      refine lv_aload_n hx hb dX4_scoreShot_53 rfl (lv_at hl 0 rfl) ?_
      refine r_get X w CL4 10 (by decide) wf_X4_58 0 rfl rfl dX4_scoreShot_54 ?_
      refine lv_dup2_11 hx hb dX4_scoreShot_57 rfl rfl ?_
      refine r_iald X w 8 rfl (in_pl c46_2) dX4_scoreShot_58 ?_
      refine lv_iload_n hx hb dX4_scoreShot_59 rfl (lv_at hl 1 rfl) ?_
      refine lv_iadd hx hb dX4_scoreShot_60 ?_
      refine r_iast X w (wSt E a (u2 (u2 (u2 (u2 σ 8 4 ((σ 8 4) + 1)) 8 5 (((u2 σ 8 4 ((σ 8 4) + 1)) 8 5) + 1)) 8 3 (((u2 (u2 σ 8 4 ((σ 8 4) + 1)) 8 5 (((u2 σ 8 4 ((σ 8 4) + 1)) 8 5) + 1)) 8 3) + 1)) 7 ((u2 (u2 (u2 σ 8 4 ((σ 8 4) + 1)) 8 5 (((u2 σ 8 4 ((σ 8 4) + 1)) 8 5) + 1)) 8 3 (((u2 (u2 σ 8 4 ((σ 8 4) + 1)) 8 5 (((u2 σ 8 4 ((σ 8 4) + 1)) 8 5) + 1)) 8 3) + 1)) 8 2).toNatClampNeg (((u2 (u2 (u2 σ 8 4 ((σ 8 4) + 1)) 8 5 (((u2 σ 8 4 ((σ 8 4) + 1)) 8 5) + 1)) 8 3 (((u2 (u2 σ 8 4 ((σ 8 4) + 1)) 8 5 (((u2 σ 8 4 ((σ 8 4) + 1)) 8 5) + 1)) 8 3) + 1)) 7 ((u2 (u2 (u2 σ 8 4 ((σ 8 4) + 1)) 8 5 (((u2 σ 8 4 ((σ 8 4) + 1)) 8 5) + 1)) 8 3 (((u2 (u2 σ 8 4 ((σ 8 4) + 1)) 8 5 (((u2 σ 8 4 ((σ 8 4) + 1)) 8 5) + 1)) 8 3) + 1)) 8 2).toNatClampNeg) + wo))) 8 rfl (in_pl c46_2) (ax_13 (E := E)) dX4_scoreShot_61 (fun H locs w => ?_)
      have hq : fX4_scoreShot σ wo = (u2 (u2 (u2 (u2 σ 8 4 ((σ 8 4) + 1)) 8 5 (((u2 σ 8 4 ((σ 8 4) + 1)) 8 5) + 1)) 8 3 (((u2 (u2 σ 8 4 ((σ 8 4) + 1)) 8 5 (((u2 σ 8 4 ((σ 8 4) + 1)) 8 5) + 1)) 8 3) + 1)) 7 ((u2 (u2 (u2 σ 8 4 ((σ 8 4) + 1)) 8 5 (((u2 σ 8 4 ((σ 8 4) + 1)) 8 5) + 1)) 8 3 (((u2 (u2 σ 8 4 ((σ 8 4) + 1)) 8 5 (((u2 σ 8 4 ((σ 8 4) + 1)) 8 5) + 1)) 8 3) + 1)) 8 2).toNatClampNeg (((u2 (u2 (u2 σ 8 4 ((σ 8 4) + 1)) 8 5 (((u2 σ 8 4 ((σ 8 4) + 1)) 8 5) + 1)) 8 3 (((u2 (u2 σ 8 4 ((σ 8 4) + 1)) 8 5 (((u2 σ 8 4 ((σ 8 4) + 1)) 8 5) + 1)) 8 3) + 1)) 7 ((u2 (u2 (u2 σ 8 4 ((σ 8 4) + 1)) 8 5 (((u2 σ 8 4 ((σ 8 4) + 1)) 8 5) + 1)) 8 3 (((u2 (u2 σ 8 4 ((σ 8 4) + 1)) 8 5 (((u2 σ 8 4 ((σ 8 4) + 1)) 8 5) + 1)) 8 3) + 1)) 8 2).toNatClampNeg) + wo)) := by simp only [fX4_scoreShot, if_neg c11_1, if_neg c46_2]
      rw [hq]
      exact r_vret X w hr dX4_scoreShot_62
  · refine lv_aload_n hx hb dX4_scoreShot_14 rfl (lv_at hl 0 rfl) ?_
    refine r_cv w (r_runV (As := []) (rest := []) X w (kX4_changeTurn l E a (u2 σ 8 4 ((σ 8 4) + 1)) ) ck_X4_94 ⟨Nat.le_of_ble_eq_true rfl, Nat.le_of_ble_eq_true rfl⟩ [0, 1, 2, 3, 4, 5, 6, 7, 8] (hc_1 (E := E)) (by decide +kernel) (k0 := 0) CL4 rfl hl.1 (Nat.le_of_ble_eq_true rfl) rfl dX4_scoreShot_15 ⟨Nat.le_of_ble_eq_true rfl, Nat.le_of_ble_eq_true rfl⟩) (wSt E a (fX4_changeTurn (u2 σ 8 4 ((σ 8 4) + 1)))) [0, 1, 2, 3, 4, 5, 6, 7, 8] (hc_1 (E := E)) (by decide +kernel) (ha_1 (E := E)) (hw_1 (E := E)) (fun H locs w => ?_)
    have hq : fX4_scoreShot σ wo = ((fX4_changeTurn (u2 σ 8 4 ((σ 8 4) + 1)))) := by simp only [fX4_scoreShot, if_pos c11_1]
    rw [hq]
    exact r_vret X w hr dX4_scoreShot_18
def fX4_copyFrom (σ : N2) (σo : N2) : N2 := (σo)
theorem dX4_copyFrom_0 : decode cX4_copyFrom 0 = .ok (.aload_n 1, 1) := by decide +kernel
theorem dX4_copyFrom_1 : decode cX4_copyFrom 1 = .ok (.getfield 9, 3) := by decide +kernel
theorem dX4_copyFrom_4 : decode cX4_copyFrom 4 = .ok (.iconst 0, 1) := by decide +kernel
theorem dX4_copyFrom_5 : decode cX4_copyFrom 5 = .ok (.aload_n 0, 1) := by decide +kernel
theorem dX4_copyFrom_6 : decode cX4_copyFrom 6 = .ok (.getfield 9, 3) := by decide +kernel
theorem dX4_copyFrom_9 : decode cX4_copyFrom 9 = .ok (.iconst 0, 1) := by decide +kernel
theorem dX4_copyFrom_10 : decode cX4_copyFrom 10 = .ok (.bipush 12, 2) := by decide +kernel
theorem dX4_copyFrom_12 : decode cX4_copyFrom 12 = .ok (.invokestatic 45, 3) := by decide +kernel
theorem dX4_copyFrom_15 : decode cX4_copyFrom 15 = .ok (.aload_n 1, 1) := by decide +kernel
theorem dX4_copyFrom_16 : decode cX4_copyFrom 16 = .ok (.getfield 15, 3) := by decide +kernel
theorem dX4_copyFrom_19 : decode cX4_copyFrom 19 = .ok (.iconst 0, 1) := by decide +kernel
theorem dX4_copyFrom_20 : decode cX4_copyFrom 20 = .ok (.aload_n 0, 1) := by decide +kernel
theorem dX4_copyFrom_21 : decode cX4_copyFrom 21 = .ok (.getfield 15, 3) := by decide +kernel
theorem dX4_copyFrom_24 : decode cX4_copyFrom 24 = .ok (.iconst 0, 1) := by decide +kernel
theorem dX4_copyFrom_25 : decode cX4_copyFrom 25 = .ok (.bipush 12, 2) := by decide +kernel
theorem dX4_copyFrom_27 : decode cX4_copyFrom 27 = .ok (.invokestatic 45, 3) := by decide +kernel
theorem dX4_copyFrom_30 : decode cX4_copyFrom 30 = .ok (.aload_n 1, 1) := by decide +kernel
theorem dX4_copyFrom_31 : decode cX4_copyFrom 31 = .ok (.getfield 18, 3) := by decide +kernel
theorem dX4_copyFrom_34 : decode cX4_copyFrom 34 = .ok (.iconst 0, 1) := by decide +kernel
theorem dX4_copyFrom_35 : decode cX4_copyFrom 35 = .ok (.aload_n 0, 1) := by decide +kernel
theorem dX4_copyFrom_36 : decode cX4_copyFrom 36 = .ok (.getfield 18, 3) := by decide +kernel
theorem dX4_copyFrom_39 : decode cX4_copyFrom 39 = .ok (.iconst 0, 1) := by decide +kernel
theorem dX4_copyFrom_40 : decode cX4_copyFrom 40 = .ok (.bipush 12, 2) := by decide +kernel
theorem dX4_copyFrom_42 : decode cX4_copyFrom 42 = .ok (.invokestatic 45, 3) := by decide +kernel
theorem dX4_copyFrom_45 : decode cX4_copyFrom 45 = .ok (.aload_n 1, 1) := by decide +kernel
theorem dX4_copyFrom_46 : decode cX4_copyFrom 46 = .ok (.getfield 21, 3) := by decide +kernel
theorem dX4_copyFrom_49 : decode cX4_copyFrom 49 = .ok (.iconst 0, 1) := by decide +kernel
theorem dX4_copyFrom_50 : decode cX4_copyFrom 50 = .ok (.aload_n 0, 1) := by decide +kernel
theorem dX4_copyFrom_51 : decode cX4_copyFrom 51 = .ok (.getfield 21, 3) := by decide +kernel
theorem dX4_copyFrom_54 : decode cX4_copyFrom 54 = .ok (.iconst 0, 1) := by decide +kernel
theorem dX4_copyFrom_55 : decode cX4_copyFrom 55 = .ok (.bipush 12, 2) := by decide +kernel
theorem dX4_copyFrom_57 : decode cX4_copyFrom 57 = .ok (.invokestatic 45, 3) := by decide +kernel
theorem dX4_copyFrom_60 : decode cX4_copyFrom 60 = .ok (.aload_n 1, 1) := by decide +kernel
theorem dX4_copyFrom_61 : decode cX4_copyFrom 61 = .ok (.getfield 24, 3) := by decide +kernel
theorem dX4_copyFrom_64 : decode cX4_copyFrom 64 = .ok (.iconst 0, 1) := by decide +kernel
theorem dX4_copyFrom_65 : decode cX4_copyFrom 65 = .ok (.aload_n 0, 1) := by decide +kernel
theorem dX4_copyFrom_66 : decode cX4_copyFrom 66 = .ok (.getfield 24, 3) := by decide +kernel
theorem dX4_copyFrom_69 : decode cX4_copyFrom 69 = .ok (.iconst 0, 1) := by decide +kernel
theorem dX4_copyFrom_70 : decode cX4_copyFrom 70 = .ok (.bipush 12, 2) := by decide +kernel
theorem dX4_copyFrom_72 : decode cX4_copyFrom 72 = .ok (.invokestatic 45, 3) := by decide +kernel
theorem dX4_copyFrom_75 : decode cX4_copyFrom 75 = .ok (.aload_n 1, 1) := by decide +kernel
theorem dX4_copyFrom_76 : decode cX4_copyFrom 76 = .ok (.getfield 27, 3) := by decide +kernel
theorem dX4_copyFrom_79 : decode cX4_copyFrom 79 = .ok (.iconst 0, 1) := by decide +kernel
theorem dX4_copyFrom_80 : decode cX4_copyFrom 80 = .ok (.aload_n 0, 1) := by decide +kernel
theorem dX4_copyFrom_81 : decode cX4_copyFrom 81 = .ok (.getfield 27, 3) := by decide +kernel
theorem dX4_copyFrom_84 : decode cX4_copyFrom 84 = .ok (.iconst 0, 1) := by decide +kernel
theorem dX4_copyFrom_85 : decode cX4_copyFrom 85 = .ok (.bipush 61, 2) := by decide +kernel
theorem dX4_copyFrom_87 : decode cX4_copyFrom 87 = .ok (.invokestatic 45, 3) := by decide +kernel
theorem dX4_copyFrom_90 : decode cX4_copyFrom 90 = .ok (.aload_n 1, 1) := by decide +kernel
theorem dX4_copyFrom_91 : decode cX4_copyFrom 91 = .ok (.getfield 30, 3) := by decide +kernel
theorem dX4_copyFrom_94 : decode cX4_copyFrom 94 = .ok (.iconst 0, 1) := by decide +kernel
theorem dX4_copyFrom_95 : decode cX4_copyFrom 95 = .ok (.aload_n 0, 1) := by decide +kernel
theorem dX4_copyFrom_96 : decode cX4_copyFrom 96 = .ok (.getfield 30, 3) := by decide +kernel
theorem dX4_copyFrom_99 : decode cX4_copyFrom 99 = .ok (.iconst 0, 1) := by decide +kernel
theorem dX4_copyFrom_100 : decode cX4_copyFrom 100 = .ok (.iconst 3, 1) := by decide +kernel
theorem dX4_copyFrom_101 : decode cX4_copyFrom 101 = .ok (.invokestatic 45, 3) := by decide +kernel
theorem dX4_copyFrom_104 : decode cX4_copyFrom 104 = .ok (.aload_n 1, 1) := by decide +kernel
theorem dX4_copyFrom_105 : decode cX4_copyFrom 105 = .ok (.getfield 33, 3) := by decide +kernel
theorem dX4_copyFrom_108 : decode cX4_copyFrom 108 = .ok (.iconst 0, 1) := by decide +kernel
theorem dX4_copyFrom_109 : decode cX4_copyFrom 109 = .ok (.aload_n 0, 1) := by decide +kernel
theorem dX4_copyFrom_110 : decode cX4_copyFrom 110 = .ok (.getfield 33, 3) := by decide +kernel
theorem dX4_copyFrom_113 : decode cX4_copyFrom 113 = .ok (.iconst 0, 1) := by decide +kernel
theorem dX4_copyFrom_114 : decode cX4_copyFrom 114 = .ok (.iconst 2, 1) := by decide +kernel
theorem dX4_copyFrom_115 : decode cX4_copyFrom 115 = .ok (.invokestatic 45, 3) := by decide +kernel
theorem dX4_copyFrom_118 : decode cX4_copyFrom 118 = .ok (.aload_n 0, 1) := by decide +kernel
theorem dX4_copyFrom_119 : decode cX4_copyFrom 119 = .ok (.aload_n 1, 1) := by decide +kernel
theorem dX4_copyFrom_120 : decode cX4_copyFrom 120 = .ok (.getfield 55, 3) := by decide +kernel
theorem dX4_copyFrom_123 : decode cX4_copyFrom 123 = .ok (.putfield 55, 3) := by decide +kernel
theorem dX4_copyFrom_126 : decode cX4_copyFrom 126 = .ok (.aload_n 0, 1) := by decide +kernel
theorem dX4_copyFrom_127 : decode cX4_copyFrom 127 = .ok (.aload_n 1, 1) := by decide +kernel
theorem dX4_copyFrom_128 : decode cX4_copyFrom 128 = .ok (.getfield 51, 3) := by decide +kernel
theorem dX4_copyFrom_131 : decode cX4_copyFrom 131 = .ok (.putfield 51, 3) := by decide +kernel
theorem dX4_copyFrom_134 : decode cX4_copyFrom 134 = .ok (.aload_n 0, 1) := by decide +kernel
theorem dX4_copyFrom_135 : decode cX4_copyFrom 135 = .ok (.aload_n 1, 1) := by decide +kernel
theorem dX4_copyFrom_136 : decode cX4_copyFrom 136 = .ok (.getfield 58, 3) := by decide +kernel
theorem dX4_copyFrom_139 : decode cX4_copyFrom 139 = .ok (.putfield 58, 3) := by decide +kernel
theorem dX4_copyFrom_142 : decode cX4_copyFrom 142 = .ok (.aload_n 0, 1) := by decide +kernel
theorem dX4_copyFrom_143 : decode cX4_copyFrom 143 = .ok (.aload_n 1, 1) := by decide +kernel
theorem dX4_copyFrom_144 : decode cX4_copyFrom 144 = .ok (.getfield 61, 3) := by decide +kernel
theorem dX4_copyFrom_147 : decode cX4_copyFrom 147 = .ok (.putfield 61, 3) := by decide +kernel
theorem dX4_copyFrom_150 : decode cX4_copyFrom 150 = .ok (.aload_n 0, 1) := by decide +kernel
theorem dX4_copyFrom_151 : decode cX4_copyFrom 151 = .ok (.aload_n 1, 1) := by decide +kernel
theorem dX4_copyFrom_152 : decode cX4_copyFrom 152 = .ok (.getfield 64, 3) := by decide +kernel
theorem dX4_copyFrom_155 : decode cX4_copyFrom 155 = .ok (.putfield 64, 3) := by decide +kernel
theorem dX4_copyFrom_158 : decode cX4_copyFrom 158 = .ok (.aload_n 0, 1) := by decide +kernel
theorem dX4_copyFrom_159 : decode cX4_copyFrom 159 = .ok (.aload_n 1, 1) := by decide +kernel
theorem dX4_copyFrom_160 : decode cX4_copyFrom 160 = .ok (.getfield 67, 3) := by decide +kernel
theorem dX4_copyFrom_163 : decode cX4_copyFrom 163 = .ok (.putfield 67, 3) := by decide +kernel
theorem dX4_copyFrom_166 : decode cX4_copyFrom 166 = .ok (.return_, 1) := by decide +kernel
theorem ax_14 {E : Ev} {a0 : Nat → Nat} {σ0 : N2} {a1 : Nat → Nat} {σ1 : N2} {x : Int32} : (wSt E a0 σ0 ++ wSt E a1 σ1).set 0 (a0 0, .inr (3, ([.ref (a0 1), .ref (a0 2), .ref (a0 3), .ref (a0 4), .ref (a0 5), .ref (a0 6), .ref (a0 7), .ref (a0 8), .int (σ0 8 0), .int (σ0 8 1), .int (σ0 8 2), .int (σ0 8 3), .int (σ0 8 4), .int (σ0 8 5)] : List Value).set 8 (.int x))) = wSt E a0 (u2 σ0 8 0 x) ++ wSt E a1 σ1 := rfl
theorem ax_15 {E : Ev} {a0 : Nat → Nat} {σ0 : N2} {a1 : Nat → Nat} {σ1 : N2} {x : Int32} : (wSt E a0 σ0 ++ wSt E a1 σ1).set 0 (a0 0, .inr (3, ([.ref (a0 1), .ref (a0 2), .ref (a0 3), .ref (a0 4), .ref (a0 5), .ref (a0 6), .ref (a0 7), .ref (a0 8), .int (σ0 8 0), .int (σ0 8 1), .int (σ0 8 2), .int (σ0 8 3), .int (σ0 8 4), .int (σ0 8 5)] : List Value).set 9 (.int x))) = wSt E a0 (u2 σ0 8 1 x) ++ wSt E a1 σ1 := rfl
theorem ax_16 {E : Ev} {a0 : Nat → Nat} {σ0 : N2} {a1 : Nat → Nat} {σ1 : N2} {x : Int32} : (wSt E a0 σ0 ++ wSt E a1 σ1).set 0 (a0 0, .inr (3, ([.ref (a0 1), .ref (a0 2), .ref (a0 3), .ref (a0 4), .ref (a0 5), .ref (a0 6), .ref (a0 7), .ref (a0 8), .int (σ0 8 0), .int (σ0 8 1), .int (σ0 8 2), .int (σ0 8 3), .int (σ0 8 4), .int (σ0 8 5)] : List Value).set 10 (.int x))) = wSt E a0 (u2 σ0 8 2 x) ++ wSt E a1 σ1 := rfl
theorem ax_17 {E : Ev} {a0 : Nat → Nat} {σ0 : N2} {a1 : Nat → Nat} {σ1 : N2} {x : Int32} : (wSt E a0 σ0 ++ wSt E a1 σ1).set 0 (a0 0, .inr (3, ([.ref (a0 1), .ref (a0 2), .ref (a0 3), .ref (a0 4), .ref (a0 5), .ref (a0 6), .ref (a0 7), .ref (a0 8), .int (σ0 8 0), .int (σ0 8 1), .int (σ0 8 2), .int (σ0 8 3), .int (σ0 8 4), .int (σ0 8 5)] : List Value).set 11 (.int x))) = wSt E a0 (u2 σ0 8 3 x) ++ wSt E a1 σ1 := rfl
theorem ax_18 {E : Ev} {a0 : Nat → Nat} {σ0 : N2} {a1 : Nat → Nat} {σ1 : N2} {x : Int32} : (wSt E a0 σ0 ++ wSt E a1 σ1).set 0 (a0 0, .inr (3, ([.ref (a0 1), .ref (a0 2), .ref (a0 3), .ref (a0 4), .ref (a0 5), .ref (a0 6), .ref (a0 7), .ref (a0 8), .int (σ0 8 0), .int (σ0 8 1), .int (σ0 8 2), .int (σ0 8 3), .int (σ0 8 4), .int (σ0 8 5)] : List Value).set 12 (.int x))) = wSt E a0 (u2 σ0 8 4 x) ++ wSt E a1 σ1 := rfl
theorem ax_19 {E : Ev} {a0 : Nat → Nat} {σ0 : N2} {a1 : Nat → Nat} {σ1 : N2} {x : Int32} : (wSt E a0 σ0 ++ wSt E a1 σ1).set 0 (a0 0, .inr (3, ([.ref (a0 1), .ref (a0 2), .ref (a0 3), .ref (a0 4), .ref (a0 5), .ref (a0 6), .ref (a0 7), .ref (a0 8), .int (σ0 8 0), .int (σ0 8 1), .int (σ0 8 2), .int (σ0 8 3), .int (σ0 8 4), .int (σ0 8 5)] : List Value).set 13 (.int x))) = wSt E a0 (u2 σ0 8 5 x) ++ wSt E a1 σ1 := rfl
set_option maxHeartbeats 4000000 in
set_option maxRecDepth 100000 in
theorem kX4_copyFrom (l : Launch) (E : Ev) (a : Nat → Nat) (σ : N2) (b : Nat → Nat) (σo : N2) : KQ l yX4_copyFrom cX4_copyFrom 2 none 1 60 E [.ref (a 0), .ref (b 0)] (wSt E a σ ++ wSt E b σo) (QV E (wSt E a σ ++ wSt E b σo) (wSt E a (fX4_copyFrom σ σo) ++ wSt E b σo)) := by
  refine KQ.mk RX4 rfl (by decide +kernel) (Nat.le_of_ble_eq_true rfl) ?_
  intro p e s m below meth c ls X hr w hl
  have hx := X.1
  have hb := X.2.1
  have hl : lv_has ls 2 [(0, .ref (a 0)), (1, .ref (b 0))] := hl
  refine lv_aload_n hx hb dX4_copyFrom_0 rfl (lv_at hl 1 rfl) ?_
  refine r_get X w CL4 0 (by decide) wf_X4_9 9 rfl rfl dX4_copyFrom_1 ?_
  refine lv_iconst (v := 0) hx hb dX4_copyFrom_4 (by decide) ?_
  refine lv_aload_n hx hb dX4_copyFrom_5 rfl (lv_at hl 0 rfl) ?_
  refine r_get X w CL4 0 (by decide) wf_X4_9 0 rfl rfl dX4_copyFrom_6 ?_
  refine lv_iconst (v := 0) hx hb dX4_copyFrom_9 (by decide) ?_
  refine lv_bipush (v := 12) hx hb dX4_copyFrom_10 (by decide) ?_
  refine r_copy X w (wSt E a (va_up σ 0 (σo 0)) ++ wSt E b σo) wm_X4_45 10 1 rfl rfl (by decide) rfl rfl hl.1 (Nat.le_of_ble_eq_true rfl) (Nat.le_of_ble_eq_true rfl) dX4_copyFrom_12 (fun H locs w => ?_)
  refine lv_aload_n hx hb dX4_copyFrom_15 rfl (lv_at hl 1 rfl) ?_
  refine r_get X w CL4 1 (by decide) wf_X4_15 9 rfl rfl dX4_copyFrom_16 ?_
  refine lv_iconst (v := 0) hx hb dX4_copyFrom_19 (by decide) ?_
  refine lv_aload_n hx hb dX4_copyFrom_20 rfl (lv_at hl 0 rfl) ?_
  refine r_get X w CL4 1 (by decide) wf_X4_15 0 rfl rfl dX4_copyFrom_21 ?_
  refine lv_iconst (v := 0) hx hb dX4_copyFrom_24 (by decide) ?_
  refine lv_bipush (v := 12) hx hb dX4_copyFrom_25 (by decide) ?_
  refine r_copy X w (wSt E a (va_up (va_up σ 0 (σo 0)) 1 (σo 1)) ++ wSt E b σo) wm_X4_45 11 2 rfl rfl (by decide) rfl rfl hl.1 (Nat.le_of_ble_eq_true rfl) (Nat.le_of_ble_eq_true rfl) dX4_copyFrom_27 (fun H locs w => ?_)
  refine lv_aload_n hx hb dX4_copyFrom_30 rfl (lv_at hl 1 rfl) ?_
  refine r_get X w CL4 2 (by decide) wf_X4_18 9 rfl rfl dX4_copyFrom_31 ?_
  refine lv_iconst (v := 0) hx hb dX4_copyFrom_34 (by decide) ?_
  refine lv_aload_n hx hb dX4_copyFrom_35 rfl (lv_at hl 0 rfl) ?_
  refine r_get X w CL4 2 (by decide) wf_X4_18 0 rfl rfl dX4_copyFrom_36 ?_
  refine lv_iconst (v := 0) hx hb dX4_copyFrom_39 (by decide) ?_
  refine lv_bipush (v := 12) hx hb dX4_copyFrom_40 (by decide) ?_
  refine r_copy X w (wSt E a (va_up (va_up (va_up σ 0 (σo 0)) 1 (σo 1)) 2 (σo 2)) ++ wSt E b σo) wm_X4_45 12 3 rfl rfl (by decide) rfl rfl hl.1 (Nat.le_of_ble_eq_true rfl) (Nat.le_of_ble_eq_true rfl) dX4_copyFrom_42 (fun H locs w => ?_)
  refine lv_aload_n hx hb dX4_copyFrom_45 rfl (lv_at hl 1 rfl) ?_
  refine r_get X w CL4 3 (by decide) wf_X4_21 9 rfl rfl dX4_copyFrom_46 ?_
  refine lv_iconst (v := 0) hx hb dX4_copyFrom_49 (by decide) ?_
  refine lv_aload_n hx hb dX4_copyFrom_50 rfl (lv_at hl 0 rfl) ?_
  refine r_get X w CL4 3 (by decide) wf_X4_21 0 rfl rfl dX4_copyFrom_51 ?_
  refine lv_iconst (v := 0) hx hb dX4_copyFrom_54 (by decide) ?_
  refine lv_bipush (v := 12) hx hb dX4_copyFrom_55 (by decide) ?_
  refine r_copy X w (wSt E a (va_up (va_up (va_up (va_up σ 0 (σo 0)) 1 (σo 1)) 2 (σo 2)) 3 (σo 3)) ++ wSt E b σo) wm_X4_45 13 4 rfl rfl (by decide) rfl rfl hl.1 (Nat.le_of_ble_eq_true rfl) (Nat.le_of_ble_eq_true rfl) dX4_copyFrom_57 (fun H locs w => ?_)
  refine lv_aload_n hx hb dX4_copyFrom_60 rfl (lv_at hl 1 rfl) ?_
  refine r_get X w CL4 4 (by decide) wf_X4_24 9 rfl rfl dX4_copyFrom_61 ?_
  refine lv_iconst (v := 0) hx hb dX4_copyFrom_64 (by decide) ?_
  refine lv_aload_n hx hb dX4_copyFrom_65 rfl (lv_at hl 0 rfl) ?_
  refine r_get X w CL4 4 (by decide) wf_X4_24 0 rfl rfl dX4_copyFrom_66 ?_
  refine lv_iconst (v := 0) hx hb dX4_copyFrom_69 (by decide) ?_
  refine lv_bipush (v := 12) hx hb dX4_copyFrom_70 (by decide) ?_
  refine r_copy X w (wSt E a (va_up (va_up (va_up (va_up (va_up σ 0 (σo 0)) 1 (σo 1)) 2 (σo 2)) 3 (σo 3)) 4 (σo 4)) ++ wSt E b σo) wm_X4_45 14 5 rfl rfl (by decide) rfl rfl hl.1 (Nat.le_of_ble_eq_true rfl) (Nat.le_of_ble_eq_true rfl) dX4_copyFrom_72 (fun H locs w => ?_)
  refine lv_aload_n hx hb dX4_copyFrom_75 rfl (lv_at hl 1 rfl) ?_
  refine r_get X w CL4 5 (by decide) wf_X4_27 9 rfl rfl dX4_copyFrom_76 ?_
  refine lv_iconst (v := 0) hx hb dX4_copyFrom_79 (by decide) ?_
  refine lv_aload_n hx hb dX4_copyFrom_80 rfl (lv_at hl 0 rfl) ?_
  refine r_get X w CL4 5 (by decide) wf_X4_27 0 rfl rfl dX4_copyFrom_81 ?_
  refine lv_iconst (v := 0) hx hb dX4_copyFrom_84 (by decide) ?_
  refine lv_bipush (v := 61) hx hb dX4_copyFrom_85 (by decide) ?_
  refine r_copy X w (wSt E a (va_up (va_up (va_up (va_up (va_up (va_up σ 0 (σo 0)) 1 (σo 1)) 2 (σo 2)) 3 (σo 3)) 4 (σo 4)) 5 (σo 5)) ++ wSt E b σo) wm_X4_45 15 6 rfl rfl (by decide) rfl rfl hl.1 (Nat.le_of_ble_eq_true rfl) (Nat.le_of_ble_eq_true rfl) dX4_copyFrom_87 (fun H locs w => ?_)
  refine lv_aload_n hx hb dX4_copyFrom_90 rfl (lv_at hl 1 rfl) ?_
  refine r_get X w CL4 6 (by decide) wf_X4_30 9 rfl rfl dX4_copyFrom_91 ?_
  refine lv_iconst (v := 0) hx hb dX4_copyFrom_94 (by decide) ?_
  refine lv_aload_n hx hb dX4_copyFrom_95 rfl (lv_at hl 0 rfl) ?_
  refine r_get X w CL4 6 (by decide) wf_X4_30 0 rfl rfl dX4_copyFrom_96 ?_
  refine lv_iconst (v := 0) hx hb dX4_copyFrom_99 (by decide) ?_
  refine lv_iconst (v := 3) hx hb dX4_copyFrom_100 (by decide) ?_
  refine r_copy X w (wSt E a (va_up (va_up (va_up (va_up (va_up (va_up (va_up σ 0 (σo 0)) 1 (σo 1)) 2 (σo 2)) 3 (σo 3)) 4 (σo 4)) 5 (σo 5)) 6 (σo 6)) ++ wSt E b σo) wm_X4_45 16 7 rfl rfl (by decide) rfl rfl hl.1 (Nat.le_of_ble_eq_true rfl) (Nat.le_of_ble_eq_true rfl) dX4_copyFrom_101 (fun H locs w => ?_)
  refine lv_aload_n hx hb dX4_copyFrom_104 rfl (lv_at hl 1 rfl) ?_
  refine r_get X w CL4 7 (by decide) wf_X4_33 9 rfl rfl dX4_copyFrom_105 ?_
  refine lv_iconst (v := 0) hx hb dX4_copyFrom_108 (by decide) ?_
  refine lv_aload_n hx hb dX4_copyFrom_109 rfl (lv_at hl 0 rfl) ?_
  refine r_get X w CL4 7 (by decide) wf_X4_33 0 rfl rfl dX4_copyFrom_110 ?_
  refine lv_iconst (v := 0) hx hb dX4_copyFrom_113 (by decide) ?_
  refine lv_iconst (v := 2) hx hb dX4_copyFrom_114 (by decide) ?_
  refine r_copy X w (wSt E a (va_up (va_up (va_up (va_up (va_up (va_up (va_up (va_up σ 0 (σo 0)) 1 (σo 1)) 2 (σo 2)) 3 (σo 3)) 4 (σo 4)) 5 (σo 5)) 6 (σo 6)) 7 (σo 7)) ++ wSt E b σo) wm_X4_45 17 8 rfl rfl (by decide) rfl rfl hl.1 (Nat.le_of_ble_eq_true rfl) (Nat.le_of_ble_eq_true rfl) dX4_copyFrom_115 (fun H locs w => ?_)
  refine lv_aload_n hx hb dX4_copyFrom_118 rfl (lv_at hl 0 rfl) ?_
  refine lv_aload_n hx hb dX4_copyFrom_119 rfl (lv_at hl 1 rfl) ?_
  refine r_get X w CL4 8 (by decide) wf_X4_55 9 rfl rfl dX4_copyFrom_120 ?_
  refine r_put X w (wSt E a (u2 (va_up (va_up (va_up (va_up (va_up (va_up (va_up (va_up σ 0 (σo 0)) 1 (σo 1)) 2 (σo 2)) 3 (σo 3)) 4 (σo 4)) 5 (σo 5)) 6 (σo 6)) 7 (σo 7)) 8 0 (σo 8 0)) ++ wSt E b σo) CL4 8 (by decide) wf_X4_55 0 rfl rfl rfl rfl (Nat.le_of_ble_eq_true rfl) (ax_14 (E := E)) dX4_copyFrom_123 (fun H locs w => ?_)
  refine lv_aload_n hx hb dX4_copyFrom_126 rfl (lv_at hl 0 rfl) ?_
  refine lv_aload_n hx hb dX4_copyFrom_127 rfl (lv_at hl 1 rfl) ?_
  refine r_get X w CL4 9 (by decide) wf_X4_51 9 rfl rfl dX4_copyFrom_128 ?_
  refine r_put X w (wSt E a (u2 (u2 (va_up (va_up (va_up (va_up (va_up (va_up (va_up (va_up σ 0 (σo 0)) 1 (σo 1)) 2 (σo 2)) 3 (σo 3)) 4 (σo 4)) 5 (σo 5)) 6 (σo 6)) 7 (σo 7)) 8 0 (σo 8 0)) 8 1 (σo 8 1)) ++ wSt E b σo) CL4 9 (by decide) wf_X4_51 0 rfl rfl rfl rfl (Nat.le_of_ble_eq_true rfl) (ax_15 (E := E)) dX4_copyFrom_131 (fun H locs w => ?_)
  refine lv_aload_n hx hb dX4_copyFrom_134 rfl (lv_at hl 0 rfl) ?_
  refine lv_aload_n hx hb dX4_copyFrom_135 rfl (lv_at hl 1 rfl) ?_
  refine r_get X w CL4 10 (by decide) wf_X4_58 9 rfl rfl dX4_copyFrom_136 ?_
  refine r_put X w (wSt E a (u2 (u2 (u2 (va_up (va_up (va_up (va_up (va_up (va_up (va_up (va_up σ 0 (σo 0)) 1 (σo 1)) 2 (σo 2)) 3 (σo 3)) 4 (σo 4)) 5 (σo 5)) 6 (σo 6)) 7 (σo 7)) 8 0 (σo 8 0)) 8 1 (σo 8 1)) 8 2 (σo 8 2)) ++ wSt E b σo) CL4 10 (by decide) wf_X4_58 0 rfl rfl rfl rfl (Nat.le_of_ble_eq_true rfl) (ax_16 (E := E)) dX4_copyFrom_139 (fun H locs w => ?_)
  refine lv_aload_n hx hb dX4_copyFrom_142 rfl (lv_at hl 0 rfl) ?_
  refine lv_aload_n hx hb dX4_copyFrom_143 rfl (lv_at hl 1 rfl) ?_
  refine r_get X w CL4 11 (by decide) wf_X4_61 9 rfl rfl dX4_copyFrom_144 ?_
  refine r_put X w (wSt E a (u2 (u2 (u2 (u2 (va_up (va_up (va_up (va_up (va_up (va_up (va_up (va_up σ 0 (σo 0)) 1 (σo 1)) 2 (σo 2)) 3 (σo 3)) 4 (σo 4)) 5 (σo 5)) 6 (σo 6)) 7 (σo 7)) 8 0 (σo 8 0)) 8 1 (σo 8 1)) 8 2 (σo 8 2)) 8 3 (σo 8 3)) ++ wSt E b σo) CL4 11 (by decide) wf_X4_61 0 rfl rfl rfl rfl (Nat.le_of_ble_eq_true rfl) (ax_17 (E := E)) dX4_copyFrom_147 (fun H locs w => ?_)
  refine lv_aload_n hx hb dX4_copyFrom_150 rfl (lv_at hl 0 rfl) ?_
  refine lv_aload_n hx hb dX4_copyFrom_151 rfl (lv_at hl 1 rfl) ?_
  refine r_get X w CL4 12 (by decide) wf_X4_64 9 rfl rfl dX4_copyFrom_152 ?_
  refine r_put X w (wSt E a (u2 (u2 (u2 (u2 (u2 (va_up (va_up (va_up (va_up (va_up (va_up (va_up (va_up σ 0 (σo 0)) 1 (σo 1)) 2 (σo 2)) 3 (σo 3)) 4 (σo 4)) 5 (σo 5)) 6 (σo 6)) 7 (σo 7)) 8 0 (σo 8 0)) 8 1 (σo 8 1)) 8 2 (σo 8 2)) 8 3 (σo 8 3)) 8 4 (σo 8 4)) ++ wSt E b σo) CL4 12 (by decide) wf_X4_64 0 rfl rfl rfl rfl (Nat.le_of_ble_eq_true rfl) (ax_18 (E := E)) dX4_copyFrom_155 (fun H locs w => ?_)
  refine lv_aload_n hx hb dX4_copyFrom_158 rfl (lv_at hl 0 rfl) ?_
  refine lv_aload_n hx hb dX4_copyFrom_159 rfl (lv_at hl 1 rfl) ?_
  refine r_get X w CL4 13 (by decide) wf_X4_67 9 rfl rfl dX4_copyFrom_160 ?_
  refine r_put X w (wSt E a (u2 (u2 (u2 (u2 (u2 (u2 (va_up (va_up (va_up (va_up (va_up (va_up (va_up (va_up σ 0 (σo 0)) 1 (σo 1)) 2 (σo 2)) 3 (σo 3)) 4 (σo 4)) 5 (σo 5)) 6 (σo 6)) 7 (σo 7)) 8 0 (σo 8 0)) 8 1 (σo 8 1)) 8 2 (σo 8 2)) 8 3 (σo 8 3)) 8 4 (σo 8 4)) 8 5 (σo 8 5)) ++ wSt E b σo) CL4 13 (by decide) wf_X4_67 0 rfl rfl rfl rfl (Nat.le_of_ble_eq_true rfl) (ax_19 (E := E)) dX4_copyFrom_163 (fun H locs w => ?_)
  have hq : fX4_copyFrom σ σo = (σo) := rfl
  rw [hq]
  exact r_vret X w hr dX4_copyFrom_166
