/-! the reference: its face, without shots and texts (printed by wip/whole/gen/p16.py) -/
theorem isBall_ix {μ : N2} {sp : UInt32} {bl : Int32} (hev : gE μ) (h : ¬ fX7_isBall μ sp bl = 0) : vp_in (13 + bl) 73 ∧ vp_in bl 12 ∧ 0 ≤ bl.toInt ∧ bl.toInt < (μ 0 12).toInt ∧ ¬ μ 0 (13 + bl).toNatClampNeg = (-5) := by
  unfold fX7_isBall at h
  split at h
  · exact absurd rfl h
  · rename_i h1
    split at h
    · exact absurd rfl h
    · rename_i h2
      obtain ⟨a1, a2, a3, a4⟩ := isb_in hev.le h1
      exact ⟨a1, a2, a3, a4, h2⟩
theorem puts_9 (μ : N2) (sp : UInt32) (ce vl : Int32) : (fX7_puts μ sp ce vl).2 9 = μ 9 := by
  unfold fX7_puts
  repeat' split
  all_goals rfl
theorem in2_ix {wh : Int32} (h : ¬ fX7_in wh.toInt64 0 2 = 0) : vp_in wh 73 := by
  rw [in_iff] at h
  have e0 : (0 : Int64).toInt = 0 := rfl
  have e1 : (2 : Int64).toInt = 2 := rfl
  rw [vp_in_iff]
  omega
theorem ball_ix {wt bl : Int32} (h : ¬ fX7_in wt.toInt64 0 4 = 0) (hb : vp_in bl 12) : vp_in ((13 + (12 * wt)) + bl) 73 := by
  rw [in_iff] at h
  have e0 : (0 : Int64).toInt = 0 := rfl
  have e1 : (4 : Int64).toInt = 4 := rfl
  have e12 : (12 : Int32).toInt = 12 := rfl
  have e13 : (13 : Int32).toInt = 13 := rfl
  rw [vp_in_iff] at hb
  have a1 : (12 * wt).toInt = 12 * wt.toInt := by rw [ti_mul (by rw [e12]; omega) (by rw [e12]; omega), e12]
  have a2 : (13 + (12 * wt)).toInt = 13 + 12 * wt.toInt := by rw [ti_add (by rw [e13, a1]; omega) (by rw [e13, a1]; omega), e13, a1]
  rw [vp_in_iff, ti_add (by rw [a2]; omega) (by rw [a2]; omega), a2]
  omega
def fX7_put (μ : N2) (sp : UInt32) (ce : Int32) (vl : Int32) : Int32 × N2 := if (fX7_isCell ce) = 0 then (((-1), μ)) else (if (fX7_in vl.toInt64 1 20) = 0 then (((-2), μ)) else (if 0 ≤ ((fX7_puts (fX7_remember μ sp) sp ce vl).1) then (((fX7_acted ((fX7_puts (fX7_remember μ sp) sp ce vl).2) sp ((fX7_puts (fX7_remember μ sp) sp ce vl).1)).1, (fX7_acted ((fX7_puts (fX7_remember μ sp) sp ce vl).2) sp ((fX7_puts (fX7_remember μ sp) sp ce vl).1)).2)) else (((fX7_puts (fX7_remember μ sp) sp ce vl).1, (fX7_puts (fX7_remember μ sp) sp ce vl).2))))
theorem dX7_put_0 : decode cX7_put 0 = .ok (.iload_n 1, 1) := by decide +kernel
theorem dX7_put_1 : decode cX7_put 1 = .ok (.invokestatic 130, 3) := by decide +kernel
theorem dX7_put_4 : decode cX7_put 4 = .ok (.ifCond .ne 5, 3) := by decide +kernel
theorem dX7_put_7 : decode cX7_put 7 = .ok (.iconst (-1), 1) := by decide +kernel
theorem dX7_put_8 : decode cX7_put 8 = .ok (.ireturn, 1) := by decide +kernel
theorem dX7_put_9 : decode cX7_put 9 = .ok (.iload_n 2, 1) := by decide +kernel
theorem dX7_put_10 : decode cX7_put 10 = .ok (.i2l, 1) := by decide +kernel
theorem dX7_put_11 : decode cX7_put 11 = .ok (.lconst 1, 1) := by decide +kernel
theorem dX7_put_12 : decode cX7_put 12 = .ok (.ldc2_w 134, 3) := by decide +kernel
theorem dX7_put_15 : decode cX7_put 15 = .ok (.invokestatic 41, 3) := by decide +kernel
theorem dX7_put_18 : decode cX7_put 18 = .ok (.ifCond .ne 6, 3) := by decide +kernel
theorem dX7_put_21 : decode cX7_put 21 = .ok (.bipush (-2), 2) := by decide +kernel
theorem dX7_put_23 : decode cX7_put 23 = .ok (.ireturn, 1) := by decide +kernel
theorem dX7_put_24 : decode cX7_put 24 = .ok (.aload_n 0, 1) := by decide +kernel
theorem dX7_put_25 : decode cX7_put 25 = .ok (.invokevirtual 136, 3) := by decide +kernel
theorem dX7_put_28 : decode cX7_put 28 = .ok (.aload_n 0, 1) := by decide +kernel
theorem dX7_put_29 : decode cX7_put 29 = .ok (.iload_n 1, 1) := by decide +kernel
theorem dX7_put_30 : decode cX7_put 30 = .ok (.iload_n 2, 1) := by decide +kernel
theorem dX7_put_31 : decode cX7_put 31 = .ok (.invokevirtual 139, 3) := by decide +kernel
theorem dX7_put_34 : decode cX7_put 34 = .ok (.istore_n 3, 1) := by decide +kernel
theorem dX7_put_35 : decode cX7_put 35 = .ok (.iload_n 3, 1) := by decide +kernel
theorem dX7_put_36 : decode cX7_put 36 = .ok (.ifCond .ge 7, 3) := by decide +kernel
theorem dX7_put_39 : decode cX7_put 39 = .ok (.iload_n 3, 1) := by decide +kernel
theorem dX7_put_40 : decode cX7_put 40 = .ok (.goto 8, 3) := by decide +kernel
theorem dX7_put_43 : decode cX7_put 43 = .ok (.aload_n 0, 1) := by decide +kernel
theorem dX7_put_44 : decode cX7_put 44 = .ok (.iload_n 3, 1) := by decide +kernel
theorem dX7_put_45 : decode cX7_put 45 = .ok (.invokevirtual 142, 3) := by decide +kernel
theorem dX7_put_48 : decode cX7_put 48 = .ok (.ireturn, 1) := by decide +kernel
theorem ck_X7_130 : CkS RX7 130 yX7_isCell cX7_isCell 1 (some .boolean) 1 := ⟨wm_X7_130, wst_yX7_isCell, wi_X7, wc_yX7_isCell, by decide +kernel⟩
theorem ck_X7_136 : CkV RX7 136 RX7 yX7_remember cX7_remember 1 none 0 := ⟨wm_X7_136, wim_yX7_remember, wse_yX7_remember, wi_X7, wc_yX7_remember, by decide +kernel⟩
theorem ck_X7_139 : CkV RX7 139 RX7 yX7_puts cX7_puts 4 (some .int) 2 := ⟨wm_X7_139, wim_yX7_puts, wse_yX7_puts, wi_X7, wc_yX7_puts, by decide +kernel⟩
theorem ck_X7_142 : CkV RX7 142 RX7 yX7_acted cX7_acted 3 (some .int) 1 := ⟨wm_X7_142, wim_yX7_acted, wse_yX7_acted, wi_X7, wc_yX7_acted, by decide +kernel⟩
set_option maxHeartbeats 4000000 in
set_option maxRecDepth 100000 in
theorem kX7_put (l : Launch) (E : Ev) (a : Nat → Nat) (μ : N2) (sp : UInt32) (ce : Int32) (vl : Int32) (hev : gE μ) (hH : gH μ) : KQ l yX7_put cX7_put 4 (some .int) 2 45 E [.ref (a 0), .int ce, .int vl] (wMd E a μ sp) (QI E (wMd E a μ sp) (fX7_put μ sp ce vl).1 (wMd E a ((fX7_put μ sp ce vl).2) sp)) := by
  refine KQ.mk RX7 rfl (by decide +kernel) (Nat.le_of_ble_eq_true rfl) ?_
  intro p e s m below meth c ls X hr w hl
  have hx := X.1
  have hb := X.2.1
  have hl : lv_has ls 4 [(0, .ref (a 0)), (1, .int ce), (2, .int vl)] := hl
  refine lv_iload_n hx hb dX7_put_0 rfl (lv_at hl 1 rfl) ?_
  refine r_ci w (r_runS (As := [.int ce]) (rest := []) X w (kX7_isCell l E ce ) ck_X7_130 ⟨Nat.le_of_ble_eq_true rfl, Nat.le_of_ble_eq_true rfl⟩ [] rfl (by decide +kernel) hl.1 (Nat.le_of_ble_eq_true rfl) rfl dX7_put_1 ⟨Nat.le_of_ble_eq_true rfl, Nat.le_of_ble_eq_true rfl⟩) (wMd E a μ sp) [] rfl (by decide +kernel) rfl rfl (fun H locs w => ?_)
  refine lv_if_ne (tgt := 9) hx hb dX7_put_4 (by decide) (fun c4_1 => ?_) (fun c4_1 => ?_)
  · refine lv_iload_n hx hb dX7_put_9 rfl (lv_at hl 2 rfl) ?_
    refine lv_i2l hx hb dX7_put_10 rfl ?_
    refine lv_lconst (v := 1) hx hb dX7_put_11 (by decide) ?_
    refine r_ldcl X wk_X7_134 dX7_put_12 ?_
    refine r_ci w (r_runS (As := [.long vl.toInt64, .long 1, .long 20]) (rest := []) X w (kX7_in l E vl.toInt64 1 20 ) ck_X7_41 ⟨Nat.le_of_ble_eq_true rfl, Nat.le_of_ble_eq_true rfl⟩ [] rfl (by decide +kernel) hl.1 (Nat.le_of_ble_eq_true rfl) rfl dX7_put_15 ⟨Nat.le_of_ble_eq_true rfl, Nat.le_of_ble_eq_true rfl⟩) (wMd E a μ sp) [] rfl (by decide +kernel) rfl rfl (fun H locs w => ?_)
    refine lv_if_ne (tgt := 24) hx hb dX7_put_18 (by decide) (fun c18_2 => ?_) (fun c18_2 => ?_)
    · refine lv_aload_n hx hb dX7_put_24 rfl (lv_at hl 0 rfl) ?_
      refine r_cv w (r_runV (As := []) (rest := []) X w (kX7_remember l E a μ sp ) ck_X7_136 ⟨Nat.le_of_ble_eq_true rfl, Nat.le_of_ble_eq_true rfl⟩ [0, 1, 2, 3, 4, 5, 6, 7, 8, 9] (hc_81 (E := E)) (by decide +kernel) (k0 := 0) CL7 rfl hl.1 (Nat.le_of_ble_eq_true rfl) rfl dX7_put_25 ⟨Nat.le_of_ble_eq_true rfl, Nat.le_of_ble_eq_true rfl⟩) (wMd E a (fX7_remember μ sp) sp) [0, 1, 2, 3, 4, 5, 6, 7, 8, 9] (hc_81 (E := E)) (by decide +kernel) (ha_81 (E := E)) (hw_81 (E := E)) (fun H locs w => ?_)
      refine lv_aload_n hx hb dX7_put_28 rfl (lv_at hl 0 rfl) ?_
      refine lv_iload_n hx hb dX7_put_29 rfl (lv_at hl 1 rfl) ?_
      refine lv_iload_n hx hb dX7_put_30 rfl (lv_at hl 2 rfl) ?_
      refine r_ci w (r_runV (As := [.int ce, .int vl]) (rest := []) X w (kX7_puts l E a (fX7_remember μ sp) sp ce vl hev) ck_X7_139 ⟨Nat.le_of_ble_eq_true rfl, Nat.le_of_ble_eq_true rfl⟩ [0, 1, 2, 3, 4, 5, 6, 7, 8, 9] (hc_81 (E := E)) (by decide +kernel) (k0 := 0) CL7 rfl hl.1 (Nat.le_of_ble_eq_true rfl) rfl dX7_put_31 ⟨Nat.le_of_ble_eq_true rfl, Nat.le_of_ble_eq_true rfl⟩) (wMd E a ((fX7_puts (fX7_remember μ sp) sp ce vl).2) sp) [0, 1, 2, 3, 4, 5, 6, 7, 8, 9] (hc_81 (E := E)) (by decide +kernel) (ha_81 (E := E)) (hw_81 (E := E)) (fun H locs w => ?_)
      refine lv_istore_n (lv' := [(3, .int ((fX7_puts (fX7_remember μ sp) sp ce vl).1)), (0, .ref (a 0)), (1, .int ce), (2, .int vl)]) hx hb dX7_put_34 rfl hl (by decide) rfl (fun ls hl => ?_)
      refine lv_iload_n hx hb dX7_put_35 rfl (lv_at hl 0 rfl) ?_
      refine lv_if_ge (tgt := 43) hx hb dX7_put_36 (by decide) (fun c36_3 => ?_) (fun c36_3 => ?_)
      · refine lv_aload_n hx hb dX7_put_43 rfl (lv_at hl 1 rfl) ?_
        refine lv_iload_n hx hb dX7_put_44 rfl (lv_at hl 0 rfl) ?_
        refine r_ci w (r_runV (As := [.int ((fX7_puts (fX7_remember μ sp) sp ce vl).1)]) (rest := []) X w (kX7_acted l E a ((fX7_puts (fX7_remember μ sp) sp ce vl).2) sp ((fX7_puts (fX7_remember μ sp) sp ce vl).1) (by unfold gH; rw [puts_9]; exact hH)) ck_X7_142 ⟨Nat.le_of_ble_eq_true rfl, Nat.le_of_ble_eq_true rfl⟩ [0, 1, 2, 3, 4, 5, 6, 7, 8, 9] (hc_81 (E := E)) (by decide +kernel) (k0 := 0) CL7 rfl hl.1 (Nat.le_of_ble_eq_true rfl) rfl dX7_put_45 ⟨Nat.le_of_ble_eq_true rfl, Nat.le_of_ble_eq_true rfl⟩) (wMd E a ((fX7_acted ((fX7_puts (fX7_remember μ sp) sp ce vl).2) sp ((fX7_puts (fX7_remember μ sp) sp ce vl).1)).2) sp) [0, 1, 2, 3, 4, 5, 6, 7, 8, 9] (hc_81 (E := E)) (by decide +kernel) (ha_81 (E := E)) (hw_81 (E := E)) (fun H locs w => ?_)
        have hq : fX7_put μ sp ce vl = ((fX7_acted ((fX7_puts (fX7_remember μ sp) sp ce vl).2) sp ((fX7_puts (fX7_remember μ sp) sp ce vl).1)).1, (fX7_acted ((fX7_puts (fX7_remember μ sp) sp ce vl).2) sp ((fX7_puts (fX7_remember μ sp) sp ce vl).1)).2) := by simp only [fX7_put, if_neg c4_1, if_neg c18_2, if_pos c36_3]
        obtain ⟨h0_, h1_⟩ := tup2 hq
        rw [h0_, h1_]
        exact r_iret X w hr rfl dX7_put_48
      · refine lv_iload_n hx hb dX7_put_39 rfl (lv_at hl 0 rfl) ?_
        refine lv_goto (tgt := 48) hx hb dX7_put_40 (by decide) ?_
        have hq : fX7_put μ sp ce vl = ((fX7_puts (fX7_remember μ sp) sp ce vl).1, (fX7_puts (fX7_remember μ sp) sp ce vl).2) := by simp only [fX7_put, if_neg c4_1, if_neg c18_2, if_neg c36_3]
        obtain ⟨h0_, h1_⟩ := tup2 hq
        rw [h0_, h1_]
        exact r_iret X w hr rfl dX7_put_48
    · refine lv_bipush (v := (-2)) hx hb dX7_put_21 (by decide) ?_
      have hq : fX7_put μ sp ce vl = ((-2), μ) := by simp only [fX7_put, if_neg c4_1, if_pos c18_2]
      obtain ⟨h0_, h1_⟩ := tup2 hq
      rw [h0_, h1_]
      exact r_iret X w hr rfl dX7_put_23
  · refine lv_iconst (v := (-1)) hx hb dX7_put_7 (by decide) ?_
    have hq : fX7_put μ sp ce vl = ((-1), μ) := by simp only [fX7_put, if_pos c4_1]
    obtain ⟨h0_, h1_⟩ := tup2 hq
    rw [h0_, h1_]
    exact r_iret X w hr rfl dX7_put_8
def fX7_move (μ : N2) (sp : UInt32) (bl : Int32) (ce : Int32) : Int32 × N2 := if (fX7_isBall μ sp bl) = 0 then (((-1), μ)) else (if (fX7_isCell ce) = 0 then (((-1), μ)) else (if (fX7_ballOn μ sp ce) = bl then (((-5), μ)) else (if (fX7_ballOn μ sp ce) = (-5) then (((fX7_acted (u2 (fX7_remember μ sp) 0 (13 + bl).toNatClampNeg ce) sp ((fX7_remember μ sp) 0 (13 + bl).toNatClampNeg)).1, (fX7_acted (u2 (fX7_remember μ sp) 0 (13 + bl).toNatClampNeg ce) sp ((fX7_remember μ sp) 0 (13 + bl).toNatClampNeg)).2)) else (((-4), μ)))))
theorem dX7_move_0 : decode cX7_move 0 = .ok (.aload_n 0, 1) := by decide +kernel
theorem dX7_move_1 : decode cX7_move 1 = .ok (.iload_n 1, 1) := by decide +kernel
theorem dX7_move_2 : decode cX7_move 2 = .ok (.invokevirtual 145, 3) := by decide +kernel
theorem dX7_move_5 : decode cX7_move 5 = .ok (.ifCond .eq 10, 3) := by decide +kernel
theorem dX7_move_8 : decode cX7_move 8 = .ok (.iload_n 2, 1) := by decide +kernel
theorem dX7_move_9 : decode cX7_move 9 = .ok (.invokestatic 130, 3) := by decide +kernel
theorem dX7_move_12 : decode cX7_move 12 = .ok (.ifCond .ne 5, 3) := by decide +kernel
theorem dX7_move_15 : decode cX7_move 15 = .ok (.iconst (-1), 1) := by decide +kernel
theorem dX7_move_16 : decode cX7_move 16 = .ok (.ireturn, 1) := by decide +kernel
theorem dX7_move_17 : decode cX7_move 17 = .ok (.aload_n 0, 1) := by decide +kernel
theorem dX7_move_18 : decode cX7_move 18 = .ok (.iload_n 2, 1) := by decide +kernel
theorem dX7_move_19 : decode cX7_move 19 = .ok (.invokevirtual 105, 3) := by decide +kernel
theorem dX7_move_22 : decode cX7_move 22 = .ok (.istore_n 3, 1) := by decide +kernel
theorem dX7_move_23 : decode cX7_move 23 = .ok (.iload_n 3, 1) := by decide +kernel
theorem dX7_move_24 : decode cX7_move 24 = .ok (.iload_n 1, 1) := by decide +kernel
theorem dX7_move_25 : decode cX7_move 25 = .ok (.if_icmp .ne 6, 3) := by decide +kernel
theorem dX7_move_28 : decode cX7_move 28 = .ok (.bipush (-5), 2) := by decide +kernel
theorem dX7_move_30 : decode cX7_move 30 = .ok (.ireturn, 1) := by decide +kernel
theorem dX7_move_31 : decode cX7_move 31 = .ok (.iload_n 3, 1) := by decide +kernel
theorem dX7_move_32 : decode cX7_move 32 = .ok (.bipush (-5), 2) := by decide +kernel
theorem dX7_move_34 : decode cX7_move 34 = .ok (.if_icmp .eq 6, 3) := by decide +kernel
theorem dX7_move_37 : decode cX7_move 37 = .ok (.bipush (-4), 2) := by decide +kernel
theorem dX7_move_39 : decode cX7_move 39 = .ok (.ireturn, 1) := by decide +kernel
theorem dX7_move_40 : decode cX7_move 40 = .ok (.aload_n 0, 1) := by decide +kernel
theorem dX7_move_41 : decode cX7_move 41 = .ok (.invokevirtual 136, 3) := by decide +kernel
theorem dX7_move_44 : decode cX7_move 44 = .ok (.aload_n 0, 1) := by decide +kernel
theorem dX7_move_45 : decode cX7_move 45 = .ok (.getfield 7, 3) := by decide +kernel
theorem dX7_move_48 : decode cX7_move 48 = .ok (.bipush 13, 2) := by decide +kernel
theorem dX7_move_50 : decode cX7_move 50 = .ok (.iload_n 1, 1) := by decide +kernel
theorem dX7_move_51 : decode cX7_move 51 = .ok (.iadd, 1) := by decide +kernel
theorem dX7_move_52 : decode cX7_move 52 = .ok (.iaload, 1) := by decide +kernel
theorem dX7_move_53 : decode cX7_move 53 = .ok (.istore 4, 2) := by decide +kernel
theorem dX7_move_55 : decode cX7_move 55 = .ok (.aload_n 0, 1) := by decide +kernel
theorem dX7_move_56 : decode cX7_move 56 = .ok (.getfield 7, 3) := by decide +kernel
theorem dX7_move_59 : decode cX7_move 59 = .ok (.bipush 13, 2) := by decide +kernel
theorem dX7_move_61 : decode cX7_move 61 = .ok (.iload_n 1, 1) := by decide +kernel
theorem dX7_move_62 : decode cX7_move 62 = .ok (.iadd, 1) := by decide +kernel
theorem dX7_move_63 : decode cX7_move 63 = .ok (.iload_n 2, 1) := by decide +kernel
theorem dX7_move_64 : decode cX7_move 64 = .ok (.iastore, 1) := by decide +kernel
theorem dX7_move_65 : decode cX7_move 65 = .ok (.aload_n 0, 1) := by decide +kernel
theorem dX7_move_66 : decode cX7_move 66 = .ok (.iload 4, 2) := by decide +kernel
theorem dX7_move_68 : decode cX7_move 68 = .ok (.invokevirtual 142, 3) := by decide +kernel
theorem dX7_move_71 : decode cX7_move 71 = .ok (.ireturn, 1) := by decide +kernel
theorem ck_X7_145 : CkV RX7 145 RX7 yX7_isBall cX7_isBall 2 (some .boolean) 1 := ⟨wm_X7_145, wim_yX7_isBall, wse_yX7_isBall, wi_X7, wc_yX7_isBall, by decide +kernel⟩
set_option maxHeartbeats 4000000 in
set_option maxRecDepth 100000 in
theorem kX7_move (l : Launch) (E : Ev) (a : Nat → Nat) (μ : N2) (sp : UInt32) (bl : Int32) (ce : Int32) (hev : gE μ) (hH : gH μ) : KQ l yX7_move cX7_move 5 (some .int) 2 46 E [.ref (a 0), .int bl, .int ce] (wMd E a μ sp) (QI E (wMd E a μ sp) (fX7_move μ sp bl ce).1 (wMd E a ((fX7_move μ sp bl ce).2) sp)) := by
  refine KQ.mk RX7 rfl (by decide +kernel) (Nat.le_of_ble_eq_true rfl) ?_
  intro p e s m below meth c ls X hr w hl
  have hx := X.1
  have hb := X.2.1
  have hl : lv_has ls 5 [(0, .ref (a 0)), (1, .int bl), (2, .int ce)] := hl
  refine lv_aload_n hx hb dX7_move_0 rfl (lv_at hl 0 rfl) ?_
  refine lv_iload_n hx hb dX7_move_1 rfl (lv_at hl 1 rfl) ?_
  refine r_ci w (r_runV (As := [.int bl]) (rest := []) X w (kX7_isBall l E a μ sp bl hev.le) ck_X7_145 ⟨Nat.le_of_ble_eq_true rfl, Nat.le_of_ble_eq_true rfl⟩ [0, 1, 2, 3, 4, 5, 6, 7, 8, 9] (hc_81 (E := E)) (by decide +kernel) (k0 := 0) CL7 rfl hl.1 (Nat.le_of_ble_eq_true rfl) rfl dX7_move_2 ⟨Nat.le_of_ble_eq_true rfl, Nat.le_of_ble_eq_true rfl⟩) (wMd E a μ sp) [0, 1, 2, 3, 4, 5, 6, 7, 8, 9] (hc_81 (E := E)) (by decide +kernel) (ha_81 (E := E)) (hw_81 (E := E)) (fun H locs w => ?_)
  refine lv_if_eq (tgt := 15) hx hb dX7_move_5 (by decide) (fun c5_1 => ?_) (fun c5_1 => ?_)
  · refine lv_iconst (v := (-1)) hx hb dX7_move_15 (by decide) ?_
    have hq : fX7_move μ sp bl ce = ((-1), μ) := by simp only [fX7_move, if_pos c5_1]
    obtain ⟨h0_, h1_⟩ := tup2 hq
    rw [h0_, h1_]
    exact r_iret X w hr rfl dX7_move_16
  · refine lv_iload_n hx hb dX7_move_8 rfl (lv_at hl 2 rfl) ?_
    refine r_ci w (r_runS (As := [.int ce]) (rest := []) X w (kX7_isCell l E ce ) ck_X7_130 ⟨Nat.le_of_ble_eq_true rfl, Nat.le_of_ble_eq_true rfl⟩ [] rfl (by decide +kernel) hl.1 (Nat.le_of_ble_eq_true rfl) rfl dX7_move_9 ⟨Nat.le_of_ble_eq_true rfl, Nat.le_of_ble_eq_true rfl⟩) (wMd E a μ sp) [] rfl (by decide +kernel) rfl rfl (fun H locs w => ?_)
    refine lv_if_ne (tgt := 17) hx hb dX7_move_12 (by decide) (fun c12_2 => ?_) (fun c12_2 => ?_)
    · refine lv_aload_n hx hb dX7_move_17 rfl (lv_at hl 0 rfl) ?_
      refine lv_iload_n hx hb dX7_move_18 rfl (lv_at hl 2 rfl) ?_
      refine r_ci w (r_runV (As := [.int ce]) (rest := []) X w (kX7_ballOn l E a μ sp ce hev) ck_X7_105 ⟨Nat.le_of_ble_eq_true rfl, Nat.le_of_ble_eq_true rfl⟩ [0, 1, 2, 3, 4, 5, 6, 7, 8, 9] (hc_81 (E := E)) (by decide +kernel) (k0 := 0) CL7 rfl hl.1 (Nat.le_of_ble_eq_true rfl) rfl dX7_move_19 ⟨Nat.le_of_ble_eq_true rfl, Nat.le_of_ble_eq_true rfl⟩) (wMd E a μ sp) [0, 1, 2, 3, 4, 5, 6, 7, 8, 9] (hc_81 (E := E)) (by decide +kernel) (ha_81 (E := E)) (hw_81 (E := E)) (fun H locs w => ?_)
      refine lv_istore_n (lv' := [(3, .int (fX7_ballOn μ sp ce)), (0, .ref (a 0)), (1, .int bl), (2, .int ce)]) hx hb dX7_move_22 rfl hl (by decide) rfl (fun ls hl => ?_)
      refine lv_iload_n hx hb dX7_move_23 rfl (lv_at hl 0 rfl) ?_
      refine lv_iload_n hx hb dX7_move_24 rfl (lv_at hl 2 rfl) ?_
      refine lv_icmp_ne (tgt := 31) hx hb dX7_move_25 (by decide) (fun c25_3 => ?_) (fun c25_3 => ?_)
      · refine lv_iload_n hx hb dX7_move_31 rfl (lv_at hl 0 rfl) ?_
        refine lv_bipush (v := (-5)) hx hb dX7_move_32 (by decide) ?_
        refine lv_icmp_eq (tgt := 40) hx hb dX7_move_34 (by decide) (fun c34_4 => ?_) (fun c34_4 => ?_)
        · refine lv_aload_n hx hb dX7_move_40 rfl (lv_at hl 1 rfl) ?_
          refine r_cv w (r_runV (As := []) (rest := []) X w (kX7_remember l E a μ sp ) ck_X7_136 ⟨Nat.le_of_ble_eq_true rfl, Nat.le_of_ble_eq_true rfl⟩ [0, 1, 2, 3, 4, 5, 6, 7, 8, 9] (hc_81 (E := E)) (by decide +kernel) (k0 := 0) CL7 rfl hl.1 (Nat.le_of_ble_eq_true rfl) rfl dX7_move_41 ⟨Nat.le_of_ble_eq_true rfl, Nat.le_of_ble_eq_true rfl⟩) (wMd E a (fX7_remember μ sp) sp) [0, 1, 2, 3, 4, 5, 6, 7, 8, 9] (hc_81 (E := E)) (by decide +kernel) (ha_81 (E := E)) (hw_81 (E := E)) (fun H locs w => ?_)
          refine lv_aload_n hx hb dX7_move_44 rfl (lv_at hl 1 rfl) ?_
          refine r_get X w CL7 0 (by decide) wf_X7_7 0 rfl rfl dX7_move_45 ?_
          refine lv_bipush (v := 13) hx hb dX7_move_48 (by decide) ?_
          refine lv_iload_n hx hb dX7_move_50 rfl (lv_at hl 2 rfl) ?_
          refine lv_iadd hx hb dX7_move_51 ?_
          refine r_iald X w 1 rfl (isBall_ix hev c5_1).1 dX7_move_52 ?_
          refine lv_istore (lv' := [(4, .int ((fX7_remember μ sp) 0 (13 + bl).toNatClampNeg)), (3, .int (fX7_ballOn μ sp ce)), (0, .ref (a 0)), (1, .int bl), (2, .int ce)]) hx hb dX7_move_53 hl (by decide) rfl (fun ls hl => ?_)
          refine lv_aload_n hx hb dX7_move_55 rfl (lv_at hl 2 rfl) ?_
          refine r_get X w CL7 0 (by decide) wf_X7_7 0 rfl rfl dX7_move_56 ?_
          refine lv_bipush (v := 13) hx hb dX7_move_59 (by decide) ?_
          refine lv_iload_n hx hb dX7_move_61 rfl (lv_at hl 3 rfl) ?_
          refine lv_iadd hx hb dX7_move_62 ?_
          refine lv_iload_n hx hb dX7_move_63 rfl (lv_at hl 4 rfl) ?_
          refine r_iast X w (wMd E a (u2 (fX7_remember μ sp) 0 (13 + bl).toNatClampNeg ce) sp) 1 rfl (isBall_ix hev c5_1).1 (ax_82 (E := E)) dX7_move_64 (fun H locs w => ?_)
          refine lv_aload_n hx hb dX7_move_65 rfl (lv_at hl 2 rfl) ?_
          refine lv_iload hx hb dX7_move_66 (lv_at hl 0 rfl) ?_
          refine r_ci w (r_runV (As := [.int ((fX7_remember μ sp) 0 (13 + bl).toNatClampNeg)]) (rest := []) X w (kX7_acted l E a (u2 (fX7_remember μ sp) 0 (13 + bl).toNatClampNeg ce) sp ((fX7_remember μ sp) 0 (13 + bl).toNatClampNeg) hH) ck_X7_142 ⟨Nat.le_of_ble_eq_true rfl, Nat.le_of_ble_eq_true rfl⟩ [0, 1, 2, 3, 4, 5, 6, 7, 8, 9] (hc_81 (E := E)) (by decide +kernel) (k0 := 0) CL7 rfl hl.1 (Nat.le_of_ble_eq_true rfl) rfl dX7_move_68 ⟨Nat.le_of_ble_eq_true rfl, Nat.le_of_ble_eq_true rfl⟩) (wMd E a ((fX7_acted (u2 (fX7_remember μ sp) 0 (13 + bl).toNatClampNeg ce) sp ((fX7_remember μ sp) 0 (13 + bl).toNatClampNeg)).2) sp) [0, 1, 2, 3, 4, 5, 6, 7, 8, 9] (hc_81 (E := E)) (by decide +kernel) (ha_81 (E := E)) (hw_81 (E := E)) (fun H locs w => ?_)
          have hq : fX7_move μ sp bl ce = ((fX7_acted (u2 (fX7_remember μ sp) 0 (13 + bl).toNatClampNeg ce) sp ((fX7_remember μ sp) 0 (13 + bl).toNatClampNeg)).1, (fX7_acted (u2 (fX7_remember μ sp) 0 (13 + bl).toNatClampNeg ce) sp ((fX7_remember μ sp) 0 (13 + bl).toNatClampNeg)).2) := by simp only [fX7_move, if_neg c5_1, if_neg c12_2, if_neg c25_3, if_pos c34_4]
          obtain ⟨h0_, h1_⟩ := tup2 hq
          rw [h0_, h1_]
          exact r_iret X w hr rfl dX7_move_71
        · refine lv_bipush (v := (-4)) hx hb dX7_move_37 (by decide) ?_
          have hq : fX7_move μ sp bl ce = ((-4), μ) := by simp only [fX7_move, if_neg c5_1, if_neg c12_2, if_neg c25_3, if_neg c34_4]
          obtain ⟨h0_, h1_⟩ := tup2 hq
          rw [h0_, h1_]
          exact r_iret X w hr rfl dX7_move_39
      · refine lv_bipush (v := (-5)) hx hb dX7_move_28 (by decide) ?_
        have hq : fX7_move μ sp bl ce = ((-5), μ) := by simp only [fX7_move, if_neg c5_1, if_neg c12_2, if_pos c25_3]
        obtain ⟨h0_, h1_⟩ := tup2 hq
        rw [h0_, h1_]
        exact r_iret X w hr rfl dX7_move_30
    · refine lv_iconst (v := (-1)) hx hb dX7_move_15 (by decide) ?_
      have hq : fX7_move μ sp bl ce = ((-1), μ) := by simp only [fX7_move, if_neg c5_1, if_pos c12_2]
      obtain ⟨h0_, h1_⟩ := tup2 hq
      rw [h0_, h1_]
      exact r_iret X w hr rfl dX7_move_16
def fX7_takeOff (μ : N2) (sp : UInt32) (bl : Int32) : Int32 × N2 := if (fX7_isBall μ sp bl) = 0 then (((-1), μ)) else (((fX7_acted (u2 (fX7_remember μ sp) 0 (13 + bl).toNatClampNeg (-5)) sp ((fX7_remember μ sp) 0 (13 + bl).toNatClampNeg)).1, (fX7_acted (u2 (fX7_remember μ sp) 0 (13 + bl).toNatClampNeg (-5)) sp ((fX7_remember μ sp) 0 (13 + bl).toNatClampNeg)).2))
theorem dX7_takeOff_0 : decode cX7_takeOff 0 = .ok (.aload_n 0, 1) := by decide +kernel
theorem dX7_takeOff_1 : decode cX7_takeOff 1 = .ok (.iload_n 1, 1) := by decide +kernel
theorem dX7_takeOff_2 : decode cX7_takeOff 2 = .ok (.invokevirtual 145, 3) := by decide +kernel
theorem dX7_takeOff_5 : decode cX7_takeOff 5 = .ok (.ifCond .ne 5, 3) := by decide +kernel
theorem dX7_takeOff_8 : decode cX7_takeOff 8 = .ok (.iconst (-1), 1) := by decide +kernel
theorem dX7_takeOff_9 : decode cX7_takeOff 9 = .ok (.ireturn, 1) := by decide +kernel
theorem dX7_takeOff_10 : decode cX7_takeOff 10 = .ok (.aload_n 0, 1) := by decide +kernel
theorem dX7_takeOff_11 : decode cX7_takeOff 11 = .ok (.invokevirtual 136, 3) := by decide +kernel
theorem dX7_takeOff_14 : decode cX7_takeOff 14 = .ok (.aload_n 0, 1) := by decide +kernel
theorem dX7_takeOff_15 : decode cX7_takeOff 15 = .ok (.getfield 7, 3) := by decide +kernel
theorem dX7_takeOff_18 : decode cX7_takeOff 18 = .ok (.bipush 13, 2) := by decide +kernel
theorem dX7_takeOff_20 : decode cX7_takeOff 20 = .ok (.iload_n 1, 1) := by decide +kernel
theorem dX7_takeOff_21 : decode cX7_takeOff 21 = .ok (.iadd, 1) := by decide +kernel
theorem dX7_takeOff_22 : decode cX7_takeOff 22 = .ok (.iaload, 1) := by decide +kernel
theorem dX7_takeOff_23 : decode cX7_takeOff 23 = .ok (.istore_n 2, 1) := by decide +kernel
theorem dX7_takeOff_24 : decode cX7_takeOff 24 = .ok (.aload_n 0, 1) := by decide +kernel
theorem dX7_takeOff_25 : decode cX7_takeOff 25 = .ok (.getfield 7, 3) := by decide +kernel
theorem dX7_takeOff_28 : decode cX7_takeOff 28 = .ok (.bipush 13, 2) := by decide +kernel
theorem dX7_takeOff_30 : decode cX7_takeOff 30 = .ok (.iload_n 1, 1) := by decide +kernel
theorem dX7_takeOff_31 : decode cX7_takeOff 31 = .ok (.iadd, 1) := by decide +kernel
theorem dX7_takeOff_32 : decode cX7_takeOff 32 = .ok (.bipush (-5), 2) := by decide +kernel
theorem dX7_takeOff_34 : decode cX7_takeOff 34 = .ok (.iastore, 1) := by decide +kernel
theorem dX7_takeOff_35 : decode cX7_takeOff 35 = .ok (.aload_n 0, 1) := by decide +kernel
theorem dX7_takeOff_36 : decode cX7_takeOff 36 = .ok (.iload_n 2, 1) := by decide +kernel
theorem dX7_takeOff_37 : decode cX7_takeOff 37 = .ok (.invokevirtual 142, 3) := by decide +kernel
theorem dX7_takeOff_40 : decode cX7_takeOff 40 = .ok (.ireturn, 1) := by decide +kernel
set_option maxHeartbeats 4000000 in
set_option maxRecDepth 100000 in
theorem kX7_takeOff (l : Launch) (E : Ev) (a : Nat → Nat) (μ : N2) (sp : UInt32) (bl : Int32) (hev : gE μ) (hH : gH μ) : KQ l yX7_takeOff cX7_takeOff 3 (some .int) 2 46 E [.ref (a 0), .int bl] (wMd E a μ sp) (QI E (wMd E a μ sp) (fX7_takeOff μ sp bl).1 (wMd E a ((fX7_takeOff μ sp bl).2) sp)) := by
  refine KQ.mk RX7 rfl (by decide +kernel) (Nat.le_of_ble_eq_true rfl) ?_
  intro p e s m below meth c ls X hr w hl
  have hx := X.1
  have hb := X.2.1
  have hl : lv_has ls 3 [(0, .ref (a 0)), (1, .int bl)] := hl
  refine lv_aload_n hx hb dX7_takeOff_0 rfl (lv_at hl 0 rfl) ?_
  refine lv_iload_n hx hb dX7_takeOff_1 rfl (lv_at hl 1 rfl) ?_
  refine r_ci w (r_runV (As := [.int bl]) (rest := []) X w (kX7_isBall l E a μ sp bl hev.le) ck_X7_145 ⟨Nat.le_of_ble_eq_true rfl, Nat.le_of_ble_eq_true rfl⟩ [0, 1, 2, 3, 4, 5, 6, 7, 8, 9] (hc_81 (E := E)) (by decide +kernel) (k0 := 0) CL7 rfl hl.1 (Nat.le_of_ble_eq_true rfl) rfl dX7_takeOff_2 ⟨Nat.le_of_ble_eq_true rfl, Nat.le_of_ble_eq_true rfl⟩) (wMd E a μ sp) [0, 1, 2, 3, 4, 5, 6, 7, 8, 9] (hc_81 (E := E)) (by decide +kernel) (ha_81 (E := E)) (hw_81 (E := E)) (fun H locs w => ?_)
  refine lv_if_ne (tgt := 10) hx hb dX7_takeOff_5 (by decide) (fun c5_1 => ?_) (fun c5_1 => ?_)
  · refine lv_aload_n hx hb dX7_takeOff_10 rfl (lv_at hl 0 rfl) ?_
    refine r_cv w (r_runV (As := []) (rest := []) X w (kX7_remember l E a μ sp ) ck_X7_136 ⟨Nat.le_of_ble_eq_true rfl, Nat.le_of_ble_eq_true rfl⟩ [0, 1, 2, 3, 4, 5, 6, 7, 8, 9] (hc_81 (E := E)) (by decide +kernel) (k0 := 0) CL7 rfl hl.1 (Nat.le_of_ble_eq_true rfl) rfl dX7_takeOff_11 ⟨Nat.le_of_ble_eq_true rfl, Nat.le_of_ble_eq_true rfl⟩) (wMd E a (fX7_remember μ sp) sp) [0, 1, 2, 3, 4, 5, 6, 7, 8, 9] (hc_81 (E := E)) (by decide +kernel) (ha_81 (E := E)) (hw_81 (E := E)) (fun H locs w => ?_)
    refine lv_aload_n hx hb dX7_takeOff_14 rfl (lv_at hl 0 rfl) ?_
    refine r_get X w CL7 0 (by decide) wf_X7_7 0 rfl rfl dX7_takeOff_15 ?_
    refine lv_bipush (v := 13) hx hb dX7_takeOff_18 (by decide) ?_
    refine lv_iload_n hx hb dX7_takeOff_20 rfl (lv_at hl 1 rfl) ?_
    refine lv_iadd hx hb dX7_takeOff_21 ?_
    refine r_iald X w 1 rfl (isBall_ix hev c5_1).1 dX7_takeOff_22 ?_
    refine lv_istore_n (lv' := [(2, .int ((fX7_remember μ sp) 0 (13 + bl).toNatClampNeg)), (0, .ref (a 0)), (1, .int bl)]) hx hb dX7_takeOff_23 rfl hl (by decide) rfl (fun ls hl => ?_)
    refine lv_aload_n hx hb dX7_takeOff_24 rfl (lv_at hl 1 rfl) ?_
    refine r_get X w CL7 0 (by decide) wf_X7_7 0 rfl rfl dX7_takeOff_25 ?_
    refine lv_bipush (v := 13) hx hb dX7_takeOff_28 (by decide) ?_
    refine lv_iload_n hx hb dX7_takeOff_30 rfl (lv_at hl 2 rfl) ?_
    refine lv_iadd hx hb dX7_takeOff_31 ?_
    refine lv_bipush (v := (-5)) hx hb dX7_takeOff_32 (by decide) ?_
    refine r_iast X w (wMd E a (u2 (fX7_remember μ sp) 0 (13 + bl).toNatClampNeg (-5)) sp) 1 rfl (isBall_ix hev c5_1).1 (ax_82 (E := E)) dX7_takeOff_34 (fun H locs w => ?_)
    refine lv_aload_n hx hb dX7_takeOff_35 rfl (lv_at hl 1 rfl) ?_
    refine lv_iload_n hx hb dX7_takeOff_36 rfl (lv_at hl 0 rfl) ?_
    refine r_ci w (r_runV (As := [.int ((fX7_remember μ sp) 0 (13 + bl).toNatClampNeg)]) (rest := []) X w (kX7_acted l E a (u2 (fX7_remember μ sp) 0 (13 + bl).toNatClampNeg (-5)) sp ((fX7_remember μ sp) 0 (13 + bl).toNatClampNeg) hH) ck_X7_142 ⟨Nat.le_of_ble_eq_true rfl, Nat.le_of_ble_eq_true rfl⟩ [0, 1, 2, 3, 4, 5, 6, 7, 8, 9] (hc_81 (E := E)) (by decide +kernel) (k0 := 0) CL7 rfl hl.1 (Nat.le_of_ble_eq_true rfl) rfl dX7_takeOff_37 ⟨Nat.le_of_ble_eq_true rfl, Nat.le_of_ble_eq_true rfl⟩) (wMd E a ((fX7_acted (u2 (fX7_remember μ sp) 0 (13 + bl).toNatClampNeg (-5)) sp ((fX7_remember μ sp) 0 (13 + bl).toNatClampNeg)).2) sp) [0, 1, 2, 3, 4, 5, 6, 7, 8, 9] (hc_81 (E := E)) (by decide +kernel) (ha_81 (E := E)) (hw_81 (E := E)) (fun H locs w => ?_)
    have hq : fX7_takeOff μ sp bl = ((fX7_acted (u2 (fX7_remember μ sp) 0 (13 + bl).toNatClampNeg (-5)) sp ((fX7_remember μ sp) 0 (13 + bl).toNatClampNeg)).1, (fX7_acted (u2 (fX7_remember μ sp) 0 (13 + bl).toNatClampNeg (-5)) sp ((fX7_remember μ sp) 0 (13 + bl).toNatClampNeg)).2) := by simp only [fX7_takeOff, if_neg c5_1]
    obtain ⟨h0_, h1_⟩ := tup2 hq
    rw [h0_, h1_]
    exact r_iret X w hr rfl dX7_takeOff_40
  · refine lv_iconst (v := (-1)) hx hb dX7_takeOff_8 (by decide) ?_
    have hq : fX7_takeOff μ sp bl = ((-1), μ) := by simp only [fX7_takeOff, if_pos c5_1]
    obtain ⟨h0_, h1_⟩ := tup2 hq
    rw [h0_, h1_]
    exact r_iret X w hr rfl dX7_takeOff_9
def fX7_setPots (μ : N2) (sp : UInt32) (op : Int32) : Int32 × N2 := if (fX7_in op.toInt64 0 63) = 0 then (((-2), μ)) else (if (μ 0 3) = op then (((-5), μ)) else (((fX7_acted (u2 (fX7_remember μ sp) 0 (3 : Int32).toNatClampNeg op) sp (μ 0 3)).1, (fX7_acted (u2 (fX7_remember μ sp) 0 (3 : Int32).toNatClampNeg op) sp (μ 0 3)).2)))
theorem dX7_setPots_0 : decode cX7_setPots 0 = .ok (.iload_n 1, 1) := by decide +kernel
theorem dX7_setPots_1 : decode cX7_setPots 1 = .ok (.i2l, 1) := by decide +kernel
theorem dX7_setPots_2 : decode cX7_setPots 2 = .ok (.lconst 0, 1) := by decide +kernel
theorem dX7_setPots_3 : decode cX7_setPots 3 = .ok (.ldc2_w 148, 3) := by decide +kernel
theorem dX7_setPots_6 : decode cX7_setPots 6 = .ok (.invokestatic 41, 3) := by decide +kernel
theorem dX7_setPots_9 : decode cX7_setPots 9 = .ok (.ifCond .ne 6, 3) := by decide +kernel
theorem dX7_setPots_12 : decode cX7_setPots 12 = .ok (.bipush (-2), 2) := by decide +kernel
theorem dX7_setPots_14 : decode cX7_setPots 14 = .ok (.ireturn, 1) := by decide +kernel
theorem dX7_setPots_15 : decode cX7_setPots 15 = .ok (.aload_n 0, 1) := by decide +kernel
theorem dX7_setPots_16 : decode cX7_setPots 16 = .ok (.getfield 7, 3) := by decide +kernel
theorem dX7_setPots_19 : decode cX7_setPots 19 = .ok (.iconst 3, 1) := by decide +kernel
theorem dX7_setPots_20 : decode cX7_setPots 20 = .ok (.iaload, 1) := by decide +kernel
theorem dX7_setPots_21 : decode cX7_setPots 21 = .ok (.istore_n 2, 1) := by decide +kernel
theorem dX7_setPots_22 : decode cX7_setPots 22 = .ok (.iload_n 2, 1) := by decide +kernel
theorem dX7_setPots_23 : decode cX7_setPots 23 = .ok (.iload_n 1, 1) := by decide +kernel
theorem dX7_setPots_24 : decode cX7_setPots 24 = .ok (.if_icmp .ne 6, 3) := by decide +kernel
theorem dX7_setPots_27 : decode cX7_setPots 27 = .ok (.bipush (-5), 2) := by decide +kernel
theorem dX7_setPots_29 : decode cX7_setPots 29 = .ok (.ireturn, 1) := by decide +kernel
theorem dX7_setPots_30 : decode cX7_setPots 30 = .ok (.aload_n 0, 1) := by decide +kernel
theorem dX7_setPots_31 : decode cX7_setPots 31 = .ok (.invokevirtual 136, 3) := by decide +kernel
theorem dX7_setPots_34 : decode cX7_setPots 34 = .ok (.aload_n 0, 1) := by decide +kernel
theorem dX7_setPots_35 : decode cX7_setPots 35 = .ok (.getfield 7, 3) := by decide +kernel
theorem dX7_setPots_38 : decode cX7_setPots 38 = .ok (.iconst 3, 1) := by decide +kernel
theorem dX7_setPots_39 : decode cX7_setPots 39 = .ok (.iload_n 1, 1) := by decide +kernel
theorem dX7_setPots_40 : decode cX7_setPots 40 = .ok (.iastore, 1) := by decide +kernel
theorem dX7_setPots_41 : decode cX7_setPots 41 = .ok (.aload_n 0, 1) := by decide +kernel
theorem dX7_setPots_42 : decode cX7_setPots 42 = .ok (.iload_n 2, 1) := by decide +kernel
theorem dX7_setPots_43 : decode cX7_setPots 43 = .ok (.invokevirtual 142, 3) := by decide +kernel
theorem dX7_setPots_46 : decode cX7_setPots 46 = .ok (.ireturn, 1) := by decide +kernel
set_option maxHeartbeats 4000000 in
set_option maxRecDepth 100000 in
theorem kX7_setPots (l : Launch) (E : Ev) (a : Nat → Nat) (μ : N2) (sp : UInt32) (op : Int32) (hH : gH μ) : KQ l yX7_setPots cX7_setPots 3 (some .int) 2 42 E [.ref (a 0), .int op] (wMd E a μ sp) (QI E (wMd E a μ sp) (fX7_setPots μ sp op).1 (wMd E a ((fX7_setPots μ sp op).2) sp)) := by
  refine KQ.mk RX7 rfl (by decide +kernel) (Nat.le_of_ble_eq_true rfl) ?_
  intro p e s m below meth c ls X hr w hl
  have hx := X.1
  have hb := X.2.1
  have hl : lv_has ls 3 [(0, .ref (a 0)), (1, .int op)] := hl
  refine lv_iload_n hx hb dX7_setPots_0 rfl (lv_at hl 1 rfl) ?_
  refine lv_i2l hx hb dX7_setPots_1 rfl ?_
  refine lv_lconst (v := 0) hx hb dX7_setPots_2 (by decide) ?_
  refine r_ldcl X wk_X7_148 dX7_setPots_3 ?_
  refine r_ci w (r_runS (As := [.long op.toInt64, .long 0, .long 63]) (rest := []) X w (kX7_in l E op.toInt64 0 63 ) ck_X7_41 ⟨Nat.le_of_ble_eq_true rfl, Nat.le_of_ble_eq_true rfl⟩ [] rfl (by decide +kernel) hl.1 (Nat.le_of_ble_eq_true rfl) rfl dX7_setPots_6 ⟨Nat.le_of_ble_eq_true rfl, Nat.le_of_ble_eq_true rfl⟩) (wMd E a μ sp) [] rfl (by decide +kernel) rfl rfl (fun H locs w => ?_)
  refine lv_if_ne (tgt := 15) hx hb dX7_setPots_9 (by decide) (fun c9_1 => ?_) (fun c9_1 => ?_)
  · refine lv_aload_n hx hb dX7_setPots_15 rfl (lv_at hl 0 rfl) ?_
    refine r_get X w CL7 0 (by decide) wf_X7_7 0 rfl rfl dX7_setPots_16 ?_
    refine lv_iconst (v := 3) hx hb dX7_setPots_19 (by decide) ?_
    refine r_ialdL X w 1 rfl (j := 3) rfl (vin_c rfl) dX7_setPots_20 ?_
    refine lv_istore_n (lv' := [(2, .int (μ 0 3)), (0, .ref (a 0)), (1, .int op)]) hx hb dX7_setPots_21 rfl hl (by decide) rfl (fun ls hl => ?_)
    refine lv_iload_n hx hb dX7_setPots_22 rfl (lv_at hl 0 rfl) ?_
    refine lv_iload_n hx hb dX7_setPots_23 rfl (lv_at hl 2 rfl) ?_
    refine lv_icmp_ne (tgt := 30) hx hb dX7_setPots_24 (by decide) (fun c24_2 => ?_) (fun c24_2 => ?_)
    · refine lv_aload_n hx hb dX7_setPots_30 rfl (lv_at hl 1 rfl) ?_
      refine r_cv w (r_runV (As := []) (rest := []) X w (kX7_remember l E a μ sp ) ck_X7_136 ⟨Nat.le_of_ble_eq_true rfl, Nat.le_of_ble_eq_true rfl⟩ [0, 1, 2, 3, 4, 5, 6, 7, 8, 9] (hc_81 (E := E)) (by decide +kernel) (k0 := 0) CL7 rfl hl.1 (Nat.le_of_ble_eq_true rfl) rfl dX7_setPots_31 ⟨Nat.le_of_ble_eq_true rfl, Nat.le_of_ble_eq_true rfl⟩) (wMd E a (fX7_remember μ sp) sp) [0, 1, 2, 3, 4, 5, 6, 7, 8, 9] (hc_81 (E := E)) (by decide +kernel) (ha_81 (E := E)) (hw_81 (E := E)) (fun H locs w => ?_)
      refine lv_aload_n hx hb dX7_setPots_34 rfl (lv_at hl 1 rfl) ?_
      refine r_get X w CL7 0 (by decide) wf_X7_7 0 rfl rfl dX7_setPots_35 ?_
      refine lv_iconst (v := 3) hx hb dX7_setPots_38 (by decide) ?_
      refine lv_iload_n hx hb dX7_setPots_39 rfl (lv_at hl 2 rfl) ?_
      refine r_iast X w (wMd E a (u2 (fX7_remember μ sp) 0 (3 : Int32).toNatClampNeg op) sp) 1 rfl (vin_c rfl) (ax_82 (E := E)) dX7_setPots_40 (fun H locs w => ?_)
      refine lv_aload_n hx hb dX7_setPots_41 rfl (lv_at hl 1 rfl) ?_
      refine lv_iload_n hx hb dX7_setPots_42 rfl (lv_at hl 0 rfl) ?_
      refine r_ci w (r_runV (As := [.int (μ 0 3)]) (rest := []) X w (kX7_acted l E a (u2 (fX7_remember μ sp) 0 (3 : Int32).toNatClampNeg op) sp (μ 0 3) hH) ck_X7_142 ⟨Nat.le_of_ble_eq_true rfl, Nat.le_of_ble_eq_true rfl⟩ [0, 1, 2, 3, 4, 5, 6, 7, 8, 9] (hc_81 (E := E)) (by decide +kernel) (k0 := 0) CL7 rfl hl.1 (Nat.le_of_ble_eq_true rfl) rfl dX7_setPots_43 ⟨Nat.le_of_ble_eq_true rfl, Nat.le_of_ble_eq_true rfl⟩) (wMd E a ((fX7_acted (u2 (fX7_remember μ sp) 0 (3 : Int32).toNatClampNeg op) sp (μ 0 3)).2) sp) [0, 1, 2, 3, 4, 5, 6, 7, 8, 9] (hc_81 (E := E)) (by decide +kernel) (ha_81 (E := E)) (hw_81 (E := E)) (fun H locs w => ?_)
      have hq : fX7_setPots μ sp op = ((fX7_acted (u2 (fX7_remember μ sp) 0 (3 : Int32).toNatClampNeg op) sp (μ 0 3)).1, (fX7_acted (u2 (fX7_remember μ sp) 0 (3 : Int32).toNatClampNeg op) sp (μ 0 3)).2) := by simp only [fX7_setPots, if_neg c9_1, if_neg c24_2]
      obtain ⟨h0_, h1_⟩ := tup2 hq
      rw [h0_, h1_]
      exact r_iret X w hr rfl dX7_setPots_46
    · refine lv_bipush (v := (-5)) hx hb dX7_setPots_27 (by decide) ?_
      have hq : fX7_setPots μ sp op = ((-5), μ) := by simp only [fX7_setPots, if_neg c9_1, if_pos c24_2]
      obtain ⟨h0_, h1_⟩ := tup2 hq
      rw [h0_, h1_]
      exact r_iret X w hr rfl dX7_setPots_29
  · refine lv_bipush (v := (-2)) hx hb dX7_setPots_12 (by decide) ?_
    have hq : fX7_setPots μ sp op = ((-2), μ) := by simp only [fX7_setPots, if_pos c9_1]
    obtain ⟨h0_, h1_⟩ := tup2 hq
    rw [h0_, h1_]
    exact r_iret X w hr rfl dX7_setPots_14
def fX7_set (μ : N2) (sp : UInt32) (wh : Int32) (vl : Int32) : Int32 × N2 := if (fX7_in wh.toInt64 0 2) = 0 then (((-2), μ)) else (if wh = 1 then (if (fX7_in vl.toInt64 50 100) = 0 then (((-2), μ)) else (if (μ 0 wh.toNatClampNeg) = vl then (((-5), μ)) else (((fX7_acted (u2 (fX7_remember μ sp) 0 wh.toNatClampNeg vl) sp (μ 0 wh.toNatClampNeg)).1, (fX7_acted (u2 (fX7_remember μ sp) 0 wh.toNatClampNeg vl) sp (μ 0 wh.toNatClampNeg)).2)))) else (if (fX7_in vl.toInt64 50 99) = 0 then (((-2), μ)) else (if (μ 0 wh.toNatClampNeg) = vl then (((-5), μ)) else (((fX7_acted (u2 (fX7_remember μ sp) 0 wh.toNatClampNeg vl) sp (μ 0 wh.toNatClampNeg)).1, (fX7_acted (u2 (fX7_remember μ sp) 0 wh.toNatClampNeg vl) sp (μ 0 wh.toNatClampNeg)).2)))))
theorem dX7_set_0 : decode cX7_set 0 = .ok (.iload_n 1, 1) := by decide +kernel
theorem dX7_set_1 : decode cX7_set 1 = .ok (.i2l, 1) := by decide +kernel
theorem dX7_set_2 : decode cX7_set 2 = .ok (.lconst 0, 1) := by decide +kernel
theorem dX7_set_3 : decode cX7_set 3 = .ok (.ldc2_w 128, 3) := by decide +kernel
theorem dX7_set_6 : decode cX7_set 6 = .ok (.invokestatic 41, 3) := by decide +kernel
theorem dX7_set_9 : decode cX7_set 9 = .ok (.ifCond .eq 28, 3) := by decide +kernel
theorem dX7_set_12 : decode cX7_set 12 = .ok (.iload_n 2, 1) := by decide +kernel
theorem dX7_set_13 : decode cX7_set 13 = .ok (.i2l, 1) := by decide +kernel
theorem dX7_set_14 : decode cX7_set 14 = .ok (.ldc2_w 150, 3) := by decide +kernel
theorem dX7_set_17 : decode cX7_set 17 = .ok (.iload_n 1, 1) := by decide +kernel
theorem dX7_set_18 : decode cX7_set 18 = .ok (.iconst 1, 1) := by decide +kernel
theorem dX7_set_19 : decode cX7_set 19 = .ok (.if_icmp .ne 9, 3) := by decide +kernel
theorem dX7_set_22 : decode cX7_set 22 = .ok (.ldc2_w 152, 3) := by decide +kernel
theorem dX7_set_25 : decode cX7_set 25 = .ok (.goto 6, 3) := by decide +kernel
theorem dX7_set_28 : decode cX7_set 28 = .ok (.ldc2_w 154, 3) := by decide +kernel
theorem dX7_set_31 : decode cX7_set 31 = .ok (.invokestatic 41, 3) := by decide +kernel
theorem dX7_set_34 : decode cX7_set 34 = .ok (.ifCond .ne 6, 3) := by decide +kernel
theorem dX7_set_37 : decode cX7_set 37 = .ok (.bipush (-2), 2) := by decide +kernel
theorem dX7_set_39 : decode cX7_set 39 = .ok (.ireturn, 1) := by decide +kernel
theorem dX7_set_40 : decode cX7_set 40 = .ok (.aload_n 0, 1) := by decide +kernel
theorem dX7_set_41 : decode cX7_set 41 = .ok (.getfield 7, 3) := by decide +kernel
theorem dX7_set_44 : decode cX7_set 44 = .ok (.iload_n 1, 1) := by decide +kernel
theorem dX7_set_45 : decode cX7_set 45 = .ok (.iaload, 1) := by decide +kernel
theorem dX7_set_46 : decode cX7_set 46 = .ok (.istore_n 3, 1) := by decide +kernel
theorem dX7_set_47 : decode cX7_set 47 = .ok (.iload_n 3, 1) := by decide +kernel
theorem dX7_set_48 : decode cX7_set 48 = .ok (.iload_n 2, 1) := by decide +kernel
theorem dX7_set_49 : decode cX7_set 49 = .ok (.if_icmp .ne 6, 3) := by decide +kernel
theorem dX7_set_52 : decode cX7_set 52 = .ok (.bipush (-5), 2) := by decide +kernel
theorem dX7_set_54 : decode cX7_set 54 = .ok (.ireturn, 1) := by decide +kernel
theorem dX7_set_55 : decode cX7_set 55 = .ok (.aload_n 0, 1) := by decide +kernel
theorem dX7_set_56 : decode cX7_set 56 = .ok (.invokevirtual 136, 3) := by decide +kernel
theorem dX7_set_59 : decode cX7_set 59 = .ok (.aload_n 0, 1) := by decide +kernel
theorem dX7_set_60 : decode cX7_set 60 = .ok (.getfield 7, 3) := by decide +kernel
theorem dX7_set_63 : decode cX7_set 63 = .ok (.iload_n 1, 1) := by decide +kernel
theorem dX7_set_64 : decode cX7_set 64 = .ok (.iload_n 2, 1) := by decide +kernel
theorem dX7_set_65 : decode cX7_set 65 = .ok (.iastore, 1) := by decide +kernel
theorem dX7_set_66 : decode cX7_set 66 = .ok (.aload_n 0, 1) := by decide +kernel
theorem dX7_set_67 : decode cX7_set 67 = .ok (.iload_n 3, 1) := by decide +kernel
theorem dX7_set_68 : decode cX7_set 68 = .ok (.invokevirtual 142, 3) := by decide +kernel
theorem dX7_set_71 : decode cX7_set 71 = .ok (.ireturn, 1) := by decide +kernel
set_option maxHeartbeats 4000000 in
set_option maxRecDepth 100000 in
theorem kX7_set (l : Launch) (E : Ev) (a : Nat → Nat) (μ : N2) (sp : UInt32) (wh : Int32) (vl : Int32) (hH : gH μ) : KQ l yX7_set cX7_set 4 (some .int) 2 42 E [.ref (a 0), .int wh, .int vl] (wMd E a μ sp) (QI E (wMd E a μ sp) (fX7_set μ sp wh vl).1 (wMd E a ((fX7_set μ sp wh vl).2) sp)) := by
  refine KQ.mk RX7 rfl (by decide +kernel) (Nat.le_of_ble_eq_true rfl) ?_
  intro p e s m below meth c ls X hr w hl
  have hx := X.1
  have hb := X.2.1
  have hl : lv_has ls 4 [(0, .ref (a 0)), (1, .int wh), (2, .int vl)] := hl
  refine lv_iload_n hx hb dX7_set_0 rfl (lv_at hl 1 rfl) ?_
  refine lv_i2l hx hb dX7_set_1 rfl ?_
  refine lv_lconst (v := 0) hx hb dX7_set_2 (by decide) ?_
  refine r_ldcl X wk_X7_128 dX7_set_3 ?_
  refine r_ci w (r_runS (As := [.long wh.toInt64, .long 0, .long 2]) (rest := []) X w (kX7_in l E wh.toInt64 0 2 ) ck_X7_41 ⟨Nat.le_of_ble_eq_true rfl, Nat.le_of_ble_eq_true rfl⟩ [] rfl (by decide +kernel) hl.1 (Nat.le_of_ble_eq_true rfl) rfl dX7_set_6 ⟨Nat.le_of_ble_eq_true rfl, Nat.le_of_ble_eq_true rfl⟩) (wMd E a μ sp) [] rfl (by decide +kernel) rfl rfl (fun H locs w => ?_)
  refine lv_if_eq (tgt := 37) hx hb dX7_set_9 (by decide) (fun c9_1 => ?_) (fun c9_1 => ?_)
  · refine lv_bipush (v := (-2)) hx hb dX7_set_37 (by decide) ?_
    have hq : fX7_set μ sp wh vl = ((-2), μ) := by simp only [fX7_set, if_pos c9_1]
    obtain ⟨h0_, h1_⟩ := tup2 hq
    rw [h0_, h1_]
    exact r_iret X w hr rfl dX7_set_39
  · refine lv_iload_n hx hb dX7_set_12 rfl (lv_at hl 2 rfl) ?_
    refine lv_i2l hx hb dX7_set_13 rfl ?_
    refine r_ldcl X wk_X7_150 dX7_set_14 ?_
    refine lv_iload_n hx hb dX7_set_17 rfl (lv_at hl 1 rfl) ?_
    refine lv_iconst (v := 1) hx hb dX7_set_18 (by decide) ?_
    refine lv_icmp_ne (tgt := 28) hx hb dX7_set_19 (by decide) (fun c19_2 => ?_) (fun c19_2 => ?_)
    · refine r_ldcl X wk_X7_154 dX7_set_28 ?_
      refine r_ci w (r_runS (As := [.long vl.toInt64, .long 50, .long 99]) (rest := []) X w (kX7_in l E vl.toInt64 50 99 ) ck_X7_41 ⟨Nat.le_of_ble_eq_true rfl, Nat.le_of_ble_eq_true rfl⟩ [] rfl (by decide +kernel) hl.1 (Nat.le_of_ble_eq_true rfl) rfl dX7_set_31 ⟨Nat.le_of_ble_eq_true rfl, Nat.le_of_ble_eq_true rfl⟩) (wMd E a μ sp) [] rfl (by decide +kernel) rfl rfl (fun H locs w => ?_)
      refine lv_if_ne (tgt := 40) hx hb dX7_set_34 (by decide) (fun c34_3 => ?_) (fun c34_3 => ?_)
      · refine lv_aload_n hx hb dX7_set_40 rfl (lv_at hl 0 rfl) ?_
        refine r_get X w CL7 0 (by decide) wf_X7_7 0 rfl rfl dX7_set_41 ?_
        refine lv_iload_n hx hb dX7_set_44 rfl (lv_at hl 1 rfl) ?_
        refine r_iald X w 1 rfl (in2_ix c9_1) dX7_set_45 ?_
        refine lv_istore_n (lv' := [(3, .int (μ 0 wh.toNatClampNeg)), (0, .ref (a 0)), (1, .int wh), (2, .int vl)]) hx hb dX7_set_46 rfl hl (by decide) rfl (fun ls hl => ?_)
        refine lv_iload_n hx hb dX7_set_47 rfl (lv_at hl 0 rfl) ?_
        refine lv_iload_n hx hb dX7_set_48 rfl (lv_at hl 3 rfl) ?_
        refine lv_icmp_ne (tgt := 55) hx hb dX7_set_49 (by decide) (fun c49_4 => ?_) (fun c49_4 => ?_)
        · refine lv_aload_n hx hb dX7_set_55 rfl (lv_at hl 1 rfl) ?_
          refine r_cv w (r_runV (As := []) (rest := []) X w (kX7_remember l E a μ sp ) ck_X7_136 ⟨Nat.le_of_ble_eq_true rfl, Nat.le_of_ble_eq_true rfl⟩ [0, 1, 2, 3, 4, 5, 6, 7, 8, 9] (hc_81 (E := E)) (by decide +kernel) (k0 := 0) CL7 rfl hl.1 (Nat.le_of_ble_eq_true rfl) rfl dX7_set_56 ⟨Nat.le_of_ble_eq_true rfl, Nat.le_of_ble_eq_true rfl⟩) (wMd E a (fX7_remember μ sp) sp) [0, 1, 2, 3, 4, 5, 6, 7, 8, 9] (hc_81 (E := E)) (by decide +kernel) (ha_81 (E := E)) (hw_81 (E := E)) (fun H locs w => ?_)
          refine lv_aload_n hx hb dX7_set_59 rfl (lv_at hl 1 rfl) ?_
          refine r_get X w CL7 0 (by decide) wf_X7_7 0 rfl rfl dX7_set_60 ?_
          refine lv_iload_n hx hb dX7_set_63 rfl (lv_at hl 2 rfl) ?_
          refine lv_iload_n hx hb dX7_set_64 rfl (lv_at hl 3 rfl) ?_
          refine r_iast X w (wMd E a (u2 (fX7_remember μ sp) 0 wh.toNatClampNeg vl) sp) 1 rfl (in2_ix c9_1) (ax_82 (E := E)) dX7_set_65 (fun H locs w => ?_)
          refine lv_aload_n hx hb dX7_set_66 rfl (lv_at hl 1 rfl) ?_
          refine lv_iload_n hx hb dX7_set_67 rfl (lv_at hl 0 rfl) ?_
          refine r_ci w (r_runV (As := [.int (μ 0 wh.toNatClampNeg)]) (rest := []) X w (kX7_acted l E a (u2 (fX7_remember μ sp) 0 wh.toNatClampNeg vl) sp (μ 0 wh.toNatClampNeg) hH) ck_X7_142 ⟨Nat.le_of_ble_eq_true rfl, Nat.le_of_ble_eq_true rfl⟩ [0, 1, 2, 3, 4, 5, 6, 7, 8, 9] (hc_81 (E := E)) (by decide +kernel) (k0 := 0) CL7 rfl hl.1 (Nat.le_of_ble_eq_true rfl) rfl dX7_set_68 ⟨Nat.le_of_ble_eq_true rfl, Nat.le_of_ble_eq_true rfl⟩) (wMd E a ((fX7_acted (u2 (fX7_remember μ sp) 0 wh.toNatClampNeg vl) sp (μ 0 wh.toNatClampNeg)).2) sp) [0, 1, 2, 3, 4, 5, 6, 7, 8, 9] (hc_81 (E := E)) (by decide +kernel) (ha_81 (E := E)) (hw_81 (E := E)) (fun H locs w => ?_)
          have hq : fX7_set μ sp wh vl = ((fX7_acted (u2 (fX7_remember μ sp) 0 wh.toNatClampNeg vl) sp (μ 0 wh.toNatClampNeg)).1, (fX7_acted (u2 (fX7_remember μ sp) 0 wh.toNatClampNeg vl) sp (μ 0 wh.toNatClampNeg)).2) := by simp only [fX7_set, if_neg c9_1, if_neg c19_2, if_neg c34_3, if_neg c49_4]
          obtain ⟨h0_, h1_⟩ := tup2 hq
          rw [h0_, h1_]
          exact r_iret X w hr rfl dX7_set_71
        · refine lv_bipush (v := (-5)) hx hb dX7_set_52 (by decide) ?_
          have hq : fX7_set μ sp wh vl = ((-5), μ) := by simp only [fX7_set, if_neg c9_1, if_neg c19_2, if_neg c34_3, if_pos c49_4]
          obtain ⟨h0_, h1_⟩ := tup2 hq
          rw [h0_, h1_]
          exact r_iret X w hr rfl dX7_set_54
      · refine lv_bipush (v := (-2)) hx hb dX7_set_37 (by decide) ?_
        have hq : fX7_set μ sp wh vl = ((-2), μ) := by simp only [fX7_set, if_neg c9_1, if_neg c19_2, if_pos c34_3]
        obtain ⟨h0_, h1_⟩ := tup2 hq
        rw [h0_, h1_]
        exact r_iret X w hr rfl dX7_set_39
    · refine r_ldcl X wk_X7_152 dX7_set_22 ?_
      refine lv_goto (tgt := 31) hx hb dX7_set_25 (by decide) ?_
      refine r_ci w (r_runS (As := [.long vl.toInt64, .long 50, .long 100]) (rest := []) X w (kX7_in l E vl.toInt64 50 100 ) ck_X7_41 ⟨Nat.le_of_ble_eq_true rfl, Nat.le_of_ble_eq_true rfl⟩ [] rfl (by decide +kernel) hl.1 (Nat.le_of_ble_eq_true rfl) rfl dX7_set_31 ⟨Nat.le_of_ble_eq_true rfl, Nat.le_of_ble_eq_true rfl⟩) (wMd E a μ sp) [] rfl (by decide +kernel) rfl rfl (fun H locs w => ?_)
      refine lv_if_ne (tgt := 40) hx hb dX7_set_34 (by decide) (fun c34_5 => ?_) (fun c34_5 => ?_)
      · refine lv_aload_n hx hb dX7_set_40 rfl (lv_at hl 0 rfl) ?_
        refine r_get X w CL7 0 (by decide) wf_X7_7 0 rfl rfl dX7_set_41 ?_
        refine lv_iload_n hx hb dX7_set_44 rfl (lv_at hl 1 rfl) ?_
        refine r_iald X w 1 rfl (in2_ix c9_1) dX7_set_45 ?_
        refine lv_istore_n (lv' := [(3, .int (μ 0 wh.toNatClampNeg)), (0, .ref (a 0)), (1, .int wh), (2, .int vl)]) hx hb dX7_set_46 rfl hl (by decide) rfl (fun ls hl => ?_)
        refine lv_iload_n hx hb dX7_set_47 rfl (lv_at hl 0 rfl) ?_
        refine lv_iload_n hx hb dX7_set_48 rfl (lv_at hl 3 rfl) ?_
        refine lv_icmp_ne (tgt := 55) hx hb dX7_set_49 (by decide) (fun c49_6 => ?_) (fun c49_6 => ?_)
        · refine lv_aload_n hx hb dX7_set_55 rfl (lv_at hl 1 rfl) ?_
          refine r_cv w (r_runV (As := []) (rest := []) X w (kX7_remember l E a μ sp ) ck_X7_136 ⟨Nat.le_of_ble_eq_true rfl, Nat.le_of_ble_eq_true rfl⟩ [0, 1, 2, 3, 4, 5, 6, 7, 8, 9] (hc_81 (E := E)) (by decide +kernel) (k0 := 0) CL7 rfl hl.1 (Nat.le_of_ble_eq_true rfl) rfl dX7_set_56 ⟨Nat.le_of_ble_eq_true rfl, Nat.le_of_ble_eq_true rfl⟩) (wMd E a (fX7_remember μ sp) sp) [0, 1, 2, 3, 4, 5, 6, 7, 8, 9] (hc_81 (E := E)) (by decide +kernel) (ha_81 (E := E)) (hw_81 (E := E)) (fun H locs w => ?_)
          refine lv_aload_n hx hb dX7_set_59 rfl (lv_at hl 1 rfl) ?_
          refine r_get X w CL7 0 (by decide) wf_X7_7 0 rfl rfl dX7_set_60 ?_
          refine lv_iload_n hx hb dX7_set_63 rfl (lv_at hl 2 rfl) ?_
          refine lv_iload_n hx hb dX7_set_64 rfl (lv_at hl 3 rfl) ?_
          refine r_iast X w (wMd E a (u2 (fX7_remember μ sp) 0 wh.toNatClampNeg vl) sp) 1 rfl (in2_ix c9_1) (ax_82 (E := E)) dX7_set_65 (fun H locs w => ?_)
          refine lv_aload_n hx hb dX7_set_66 rfl (lv_at hl 1 rfl) ?_
          refine lv_iload_n hx hb dX7_set_67 rfl (lv_at hl 0 rfl) ?_
          refine r_ci w (r_runV (As := [.int (μ 0 wh.toNatClampNeg)]) (rest := []) X w (kX7_acted l E a (u2 (fX7_remember μ sp) 0 wh.toNatClampNeg vl) sp (μ 0 wh.toNatClampNeg) hH) ck_X7_142 ⟨Nat.le_of_ble_eq_true rfl, Nat.le_of_ble_eq_true rfl⟩ [0, 1, 2, 3, 4, 5, 6, 7, 8, 9] (hc_81 (E := E)) (by decide +kernel) (k0 := 0) CL7 rfl hl.1 (Nat.le_of_ble_eq_true rfl) rfl dX7_set_68 ⟨Nat.le_of_ble_eq_true rfl, Nat.le_of_ble_eq_true rfl⟩) (wMd E a ((fX7_acted (u2 (fX7_remember μ sp) 0 wh.toNatClampNeg vl) sp (μ 0 wh.toNatClampNeg)).2) sp) [0, 1, 2, 3, 4, 5, 6, 7, 8, 9] (hc_81 (E := E)) (by decide +kernel) (ha_81 (E := E)) (hw_81 (E := E)) (fun H locs w => ?_)
          have hq : fX7_set μ sp wh vl = ((fX7_acted (u2 (fX7_remember μ sp) 0 wh.toNatClampNeg vl) sp (μ 0 wh.toNatClampNeg)).1, (fX7_acted (u2 (fX7_remember μ sp) 0 wh.toNatClampNeg vl) sp (μ 0 wh.toNatClampNeg)).2) := by simp only [fX7_set, if_neg c9_1, if_pos c19_2, if_neg c34_5, if_neg c49_6]
          obtain ⟨h0_, h1_⟩ := tup2 hq
          rw [h0_, h1_]
          exact r_iret X w hr rfl dX7_set_71
        · refine lv_bipush (v := (-5)) hx hb dX7_set_52 (by decide) ?_
          have hq : fX7_set μ sp wh vl = ((-5), μ) := by simp only [fX7_set, if_neg c9_1, if_pos c19_2, if_neg c34_5, if_pos c49_6]
          obtain ⟨h0_, h1_⟩ := tup2 hq
          rw [h0_, h1_]
          exact r_iret X w hr rfl dX7_set_54
      · refine lv_bipush (v := (-2)) hx hb dX7_set_37 (by decide) ?_
        have hq : fX7_set μ sp wh vl = ((-2), μ) := by simp only [fX7_set, if_neg c9_1, if_pos c19_2, if_pos c34_5]
        obtain ⟨h0_, h1_⟩ := tup2 hq
        rw [h0_, h1_]
        exact r_iret X w hr rfl dX7_set_39
def fX7_pass (μ : N2) (sp : UInt32) (pl : Int32) : Int32 × N2 := if (fX7_isPlayer pl) = 0 then (((-1), μ)) else (if pl = (μ 0 4) then (((fX7_acted (fX7_turns (fX7_remember μ sp) sp) sp ((fX7_remember μ sp) 0 5)).1, (fX7_acted (fX7_turns (fX7_remember μ sp) sp) sp ((fX7_remember μ sp) 0 5)).2)) else (((-4), μ)))
theorem dX7_pass_0 : decode cX7_pass 0 = .ok (.iload_n 1, 1) := by decide +kernel
theorem dX7_pass_1 : decode cX7_pass 1 = .ok (.invokestatic 156, 3) := by decide +kernel
theorem dX7_pass_4 : decode cX7_pass 4 = .ok (.ifCond .ne 5, 3) := by decide +kernel
theorem dX7_pass_7 : decode cX7_pass 7 = .ok (.iconst (-1), 1) := by decide +kernel
theorem dX7_pass_8 : decode cX7_pass 8 = .ok (.ireturn, 1) := by decide +kernel
theorem dX7_pass_9 : decode cX7_pass 9 = .ok (.iload_n 1, 1) := by decide +kernel
theorem dX7_pass_10 : decode cX7_pass 10 = .ok (.aload_n 0, 1) := by decide +kernel
theorem dX7_pass_11 : decode cX7_pass 11 = .ok (.getfield 7, 3) := by decide +kernel
theorem dX7_pass_14 : decode cX7_pass 14 = .ok (.iconst 4, 1) := by decide +kernel
theorem dX7_pass_15 : decode cX7_pass 15 = .ok (.iaload, 1) := by decide +kernel
theorem dX7_pass_16 : decode cX7_pass 16 = .ok (.if_icmp .eq 6, 3) := by decide +kernel
theorem dX7_pass_19 : decode cX7_pass 19 = .ok (.bipush (-4), 2) := by decide +kernel
theorem dX7_pass_21 : decode cX7_pass 21 = .ok (.ireturn, 1) := by decide +kernel
theorem dX7_pass_22 : decode cX7_pass 22 = .ok (.aload_n 0, 1) := by decide +kernel
theorem dX7_pass_23 : decode cX7_pass 23 = .ok (.invokevirtual 136, 3) := by decide +kernel
theorem dX7_pass_26 : decode cX7_pass 26 = .ok (.aload_n 0, 1) := by decide +kernel
theorem dX7_pass_27 : decode cX7_pass 27 = .ok (.getfield 7, 3) := by decide +kernel
theorem dX7_pass_30 : decode cX7_pass 30 = .ok (.iconst 5, 1) := by decide +kernel
theorem dX7_pass_31 : decode cX7_pass 31 = .ok (.iaload, 1) := by decide +kernel
theorem dX7_pass_32 : decode cX7_pass 32 = .ok (.istore_n 2, 1) := by decide +kernel
theorem dX7_pass_33 : decode cX7_pass 33 = .ok (.aload_n 0, 1) := by decide +kernel
theorem dX7_pass_34 : decode cX7_pass 34 = .ok (.invokevirtual 167, 3) := by decide +kernel
theorem dX7_pass_37 : decode cX7_pass 37 = .ok (.aload_n 0, 1) := by decide +kernel
theorem dX7_pass_38 : decode cX7_pass 38 = .ok (.iload_n 2, 1) := by decide +kernel
theorem dX7_pass_39 : decode cX7_pass 39 = .ok (.invokevirtual 142, 3) := by decide +kernel
theorem dX7_pass_42 : decode cX7_pass 42 = .ok (.ireturn, 1) := by decide +kernel
theorem ck_X7_156 : CkS RX7 156 yX7_isPlayer cX7_isPlayer 1 (some .boolean) 1 := ⟨wm_X7_156, wst_yX7_isPlayer, wi_X7, wc_yX7_isPlayer, by decide +kernel⟩
theorem ck_X7_167 : CkV RX7 167 RX7 yX7_turns cX7_turns 1 none 0 := ⟨wm_X7_167, wim_yX7_turns, wse_yX7_turns, wi_X7, wc_yX7_turns, by decide +kernel⟩
set_option maxHeartbeats 4000000 in
set_option maxRecDepth 100000 in
theorem kX7_pass (l : Launch) (E : Ev) (a : Nat → Nat) (μ : N2) (sp : UInt32) (pl : Int32) (hH : gH μ) : KQ l yX7_pass cX7_pass 3 (some .int) 2 42 E [.ref (a 0), .int pl] (wMd E a μ sp) (QI E (wMd E a μ sp) (fX7_pass μ sp pl).1 (wMd E a ((fX7_pass μ sp pl).2) sp)) := by
  refine KQ.mk RX7 rfl (by decide +kernel) (Nat.le_of_ble_eq_true rfl) ?_
  intro p e s m below meth c ls X hr w hl
  have hx := X.1
  have hb := X.2.1
  have hl : lv_has ls 3 [(0, .ref (a 0)), (1, .int pl)] := hl
  refine lv_iload_n hx hb dX7_pass_0 rfl (lv_at hl 1 rfl) ?_
  refine r_ci w (r_runS (As := [.int pl]) (rest := []) X w (kX7_isPlayer l E pl ) ck_X7_156 ⟨Nat.le_of_ble_eq_true rfl, Nat.le_of_ble_eq_true rfl⟩ [] rfl (by decide +kernel) hl.1 (Nat.le_of_ble_eq_true rfl) rfl dX7_pass_1 ⟨Nat.le_of_ble_eq_true rfl, Nat.le_of_ble_eq_true rfl⟩) (wMd E a μ sp) [] rfl (by decide +kernel) rfl rfl (fun H locs w => ?_)
  refine lv_if_ne (tgt := 9) hx hb dX7_pass_4 (by decide) (fun c4_1 => ?_) (fun c4_1 => ?_)
  · refine lv_iload_n hx hb dX7_pass_9 rfl (lv_at hl 1 rfl) ?_
    refine lv_aload_n hx hb dX7_pass_10 rfl (lv_at hl 0 rfl) ?_
    refine r_get X w CL7 0 (by decide) wf_X7_7 0 rfl rfl dX7_pass_11 ?_
    refine lv_iconst (v := 4) hx hb dX7_pass_14 (by decide) ?_
    refine r_ialdL X w 1 rfl (j := 4) rfl (vin_c rfl) dX7_pass_15 ?_
    refine lv_icmp_eq (tgt := 22) hx hb dX7_pass_16 (by decide) (fun c16_2 => ?_) (fun c16_2 => ?_)
    · refine lv_aload_n hx hb dX7_pass_22 rfl (lv_at hl 0 rfl) ?_
      refine r_cv w (r_runV (As := []) (rest := []) X w (kX7_remember l E a μ sp ) ck_X7_136 ⟨Nat.le_of_ble_eq_true rfl, Nat.le_of_ble_eq_true rfl⟩ [0, 1, 2, 3, 4, 5, 6, 7, 8, 9] (hc_81 (E := E)) (by decide +kernel) (k0 := 0) CL7 rfl hl.1 (Nat.le_of_ble_eq_true rfl) rfl dX7_pass_23 ⟨Nat.le_of_ble_eq_true rfl, Nat.le_of_ble_eq_true rfl⟩) (wMd E a (fX7_remember μ sp) sp) [0, 1, 2, 3, 4, 5, 6, 7, 8, 9] (hc_81 (E := E)) (by decide +kernel) (ha_81 (E := E)) (hw_81 (E := E)) (fun H locs w => ?_)
      refine lv_aload_n hx hb dX7_pass_26 rfl (lv_at hl 0 rfl) ?_
      refine r_get X w CL7 0 (by decide) wf_X7_7 0 rfl rfl dX7_pass_27 ?_
      refine lv_iconst (v := 5) hx hb dX7_pass_30 (by decide) ?_
      refine r_ialdL X w 1 rfl (j := 5) rfl (vin_c rfl) dX7_pass_31 ?_
      refine lv_istore_n (lv' := [(2, .int ((fX7_remember μ sp) 0 5)), (0, .ref (a 0)), (1, .int pl)]) hx hb dX7_pass_32 rfl hl (by decide) rfl (fun ls hl => ?_)
      refine lv_aload_n hx hb dX7_pass_33 rfl (lv_at hl 1 rfl) ?_
      refine r_cv w (r_runV (As := []) (rest := []) X w (kX7_turns l E a (fX7_remember μ sp) sp ) ck_X7_167 ⟨Nat.le_of_ble_eq_true rfl, Nat.le_of_ble_eq_true rfl⟩ [0, 1, 2, 3, 4, 5, 6, 7, 8, 9] (hc_81 (E := E)) (by decide +kernel) (k0 := 0) CL7 rfl hl.1 (Nat.le_of_ble_eq_true rfl) rfl dX7_pass_34 ⟨Nat.le_of_ble_eq_true rfl, Nat.le_of_ble_eq_true rfl⟩) (wMd E a (fX7_turns (fX7_remember μ sp) sp) sp) [0, 1, 2, 3, 4, 5, 6, 7, 8, 9] (hc_81 (E := E)) (by decide +kernel) (ha_81 (E := E)) (hw_81 (E := E)) (fun H locs w => ?_)
      refine lv_aload_n hx hb dX7_pass_37 rfl (lv_at hl 1 rfl) ?_
      refine lv_iload_n hx hb dX7_pass_38 rfl (lv_at hl 0 rfl) ?_
      refine r_ci w (r_runV (As := [.int ((fX7_remember μ sp) 0 5)]) (rest := []) X w (kX7_acted l E a (fX7_turns (fX7_remember μ sp) sp) sp ((fX7_remember μ sp) 0 5) hH) ck_X7_142 ⟨Nat.le_of_ble_eq_true rfl, Nat.le_of_ble_eq_true rfl⟩ [0, 1, 2, 3, 4, 5, 6, 7, 8, 9] (hc_81 (E := E)) (by decide +kernel) (k0 := 0) CL7 rfl hl.1 (Nat.le_of_ble_eq_true rfl) rfl dX7_pass_39 ⟨Nat.le_of_ble_eq_true rfl, Nat.le_of_ble_eq_true rfl⟩) (wMd E a ((fX7_acted (fX7_turns (fX7_remember μ sp) sp) sp ((fX7_remember μ sp) 0 5)).2) sp) [0, 1, 2, 3, 4, 5, 6, 7, 8, 9] (hc_81 (E := E)) (by decide +kernel) (ha_81 (E := E)) (hw_81 (E := E)) (fun H locs w => ?_)
      have hq : fX7_pass μ sp pl = ((fX7_acted (fX7_turns (fX7_remember μ sp) sp) sp ((fX7_remember μ sp) 0 5)).1, (fX7_acted (fX7_turns (fX7_remember μ sp) sp) sp ((fX7_remember μ sp) 0 5)).2) := by simp only [fX7_pass, if_neg c4_1, if_pos c16_2]
      obtain ⟨h0_, h1_⟩ := tup2 hq
      rw [h0_, h1_]
      exact r_iret X w hr rfl dX7_pass_42
    · refine lv_bipush (v := (-4)) hx hb dX7_pass_19 (by decide) ?_
      have hq : fX7_pass μ sp pl = ((-4), μ) := by simp only [fX7_pass, if_neg c4_1, if_neg c16_2]
      obtain ⟨h0_, h1_⟩ := tup2 hq
      rw [h0_, h1_]
      exact r_iret X w hr rfl dX7_pass_21
  · refine lv_iconst (v := (-1)) hx hb dX7_pass_7 (by decide) ?_
    have hq : fX7_pass μ sp pl = ((-1), μ) := by simp only [fX7_pass, if_pos c4_1]
    obtain ⟨h0_, h1_⟩ := tup2 hq
    rw [h0_, h1_]
    exact r_iret X w hr rfl dX7_pass_8
def fX7_keep (μ : N2) (sp : UInt32) : Int32 × N2 := ((fX7_onFelt (u2 (va_up μ 4 (fX7_copy (μ 0) (μ 4))) 9 1 1) sp), u2 (va_up μ 4 (fX7_copy (μ 0) (μ 4))) 9 1 1)
theorem dX7_keep_0 : decode cX7_keep 0 = .ok (.aload_n 0, 1) := by decide +kernel
theorem dX7_keep_1 : decode cX7_keep 1 = .ok (.getfield 7, 3) := by decide +kernel
theorem dX7_keep_4 : decode cX7_keep 4 = .ok (.aload_n 0, 1) := by decide +kernel
theorem dX7_keep_5 : decode cX7_keep 5 = .ok (.getfield 22, 3) := by decide +kernel
theorem dX7_keep_8 : decode cX7_keep 8 = .ok (.invokestatic 45, 3) := by decide +kernel
theorem dX7_keep_11 : decode cX7_keep 11 = .ok (.aload_n 0, 1) := by decide +kernel
theorem dX7_keep_12 : decode cX7_keep 12 = .ok (.iconst 1, 1) := by decide +kernel
theorem dX7_keep_13 : decode cX7_keep 13 = .ok (.putfield 202, 3) := by decide +kernel
theorem dX7_keep_16 : decode cX7_keep 16 = .ok (.aload_n 0, 1) := by decide +kernel
theorem dX7_keep_17 : decode cX7_keep 17 = .ok (.invokevirtual 205, 3) := by decide +kernel
theorem dX7_keep_20 : decode cX7_keep 20 = .ok (.ireturn, 1) := by decide +kernel
theorem ck_X7_205 : CkV RX7 205 RX7 yX7_onFelt cX7_onFelt 3 (some .int) 0 := ⟨wm_X7_205, wim_yX7_onFelt, wse_yX7_onFelt, wi_X7, wc_yX7_onFelt, by decide +kernel⟩
theorem hc_98 {E : Ev} {a0 : Nat → Nat} {σ0 : N2} {v0 : UInt32} : ([1, 5] : List Nat).map (fun i => (wMd E a0 σ0 v0)[i]?) = (wAr E (a0 1) 73 (σ0 0) ++ wAr E (a0 5) 73 (σ0 4)).map some := rfl
theorem ha_98 {E : Ev} {a0 : Nat → Nat} {σ0 : N2}  {τ1 : N1} : (wAr E (a0 1) 73 (σ0 0) ++ wAr E (a0 5) 73 τ1).map Prod.fst = (wAr E (a0 1) 73 (σ0 0) ++ wAr E (a0 5) 73 (σ0 4)).map Prod.fst := rfl
theorem hw_98 {E : Ev} {a0 : Nat → Nat} {σ0 : N2} {v0 : UInt32}  {τ1 : N1} : wput (wMd E a0 σ0 v0) [1, 5] (wAr E (a0 1) 73 (σ0 0) ++ wAr E (a0 5) 73 τ1) = wMd E a0 (va_up σ0 4 τ1) v0 := rfl
theorem ax_99 {E : Ev} {a0 : Nat → Nat} {σ0 : N2} {v0 : UInt32} {x : Int32} : (wMd E a0 σ0 v0).set 0 (a0 0, .inr (6, ([.ref (a0 1), .ref (a0 2), .ref (a0 3), .ref (a0 4), .int (σ0 9 0), .ref (a0 5), .int (σ0 9 1), .ref (a0 6), .ref (a0 7), .ref (a0 8), .int (σ0 9 2), .int (σ0 9 3), .int (σ0 9 4), .int (σ0 9 5), .float v0, .int (σ0 9 6), .int (σ0 9 7), .int (σ0 9 8), .int (σ0 9 9), .ref (a0 9), .int (σ0 9 10), .int (σ0 9 11), .int (σ0 9 12), .int (σ0 9 13), .int (σ0 9 14)] : List Value).set 6 (.int x))) = wMd E a0 (u2 σ0 9 1 x) v0 := rfl
set_option maxHeartbeats 4000000 in
set_option maxRecDepth 100000 in
theorem kX7_keep (l : Launch) (E : Ev) (a : Nat → Nat) (μ : N2) (sp : UInt32) (hev : gE μ) : KQ l yX7_keep cX7_keep 1 (some .int) 1 22 E [.ref (a 0)] (wMd E a μ sp) (QI E (wMd E a μ sp) (fX7_keep μ sp).1 (wMd E a ((fX7_keep μ sp).2) sp)) := by
  refine KQ.mk RX7 rfl (by decide +kernel) (Nat.le_of_ble_eq_true rfl) ?_
  intro p e s m below meth c ls X hr w hl
  have hx := X.1
  have hb := X.2.1
  have hl : lv_has ls 1 [(0, .ref (a 0))] := hl
  refine lv_aload_n hx hb dX7_keep_0 rfl (lv_at hl 0 rfl) ?_
  refine r_get X w CL7 0 (by decide) wf_X7_7 0 rfl rfl dX7_keep_1 ?_
  refine lv_aload_n hx hb dX7_keep_4 rfl (lv_at hl 0 rfl) ?_
  refine r_get X w CL7 5 (by decide) wf_X7_22 0 rfl rfl dX7_keep_5 ?_
  refine r_cv w (r_runS (As := [.ref (a 1), .ref (a 5)]) (rest := []) X w (kX7_copy l E (a 1) (μ 0) (a 5) (μ 4) ) ck_X7_45 ⟨Nat.le_of_ble_eq_true rfl, Nat.le_of_ble_eq_true rfl⟩ [1, 5] (hc_98 (E := E)) (by decide +kernel) hl.1 (Nat.le_of_ble_eq_true rfl) rfl dX7_keep_8 ⟨Nat.le_of_ble_eq_true rfl, Nat.le_of_ble_eq_true rfl⟩) (wMd E a (va_up μ 4 (fX7_copy (μ 0) (μ 4))) sp) [1, 5] (hc_98 (E := E)) (by decide +kernel) (ha_98 (E := E)) (hw_98 (E := E)) (fun H locs w => ?_)
  refine lv_aload_n hx hb dX7_keep_11 rfl (lv_at hl 0 rfl) ?_
  refine lv_iconst (v := 1) hx hb dX7_keep_12 (by decide) ?_
  refine r_put X w (wMd E a (u2 (va_up μ 4 (fX7_copy (μ 0) (μ 4))) 9 1 1) sp) CL7 6 (by decide) wf_X7_202 0 rfl rfl rfl rfl (Nat.le_of_ble_eq_true rfl) (ax_99 (E := E)) dX7_keep_13 (fun H locs w => ?_)
  refine lv_aload_n hx hb dX7_keep_16 rfl (lv_at hl 0 rfl) ?_
  refine r_ci w (r_runV (As := []) (rest := []) X w (kX7_onFelt l E a (u2 (va_up μ 4 (fX7_copy (μ 0) (μ 4))) 9 1 1) sp hev) ck_X7_205 ⟨Nat.le_of_ble_eq_true rfl, Nat.le_of_ble_eq_true rfl⟩ [0, 1, 2, 3, 4, 5, 6, 7, 8, 9] (hc_81 (E := E)) (by decide +kernel) (k0 := 0) CL7 rfl hl.1 (Nat.le_of_ble_eq_true rfl) rfl dX7_keep_17 ⟨Nat.le_of_ble_eq_true rfl, Nat.le_of_ble_eq_true rfl⟩) (wMd E a (u2 (va_up μ 4 (fX7_copy (μ 0) (μ 4))) 9 1 1) sp) [0, 1, 2, 3, 4, 5, 6, 7, 8, 9] (hc_81 (E := E)) (by decide +kernel) (ha_81 (E := E)) (hw_81 (E := E)) (fun H locs w => ?_)
  have hq : fX7_keep μ sp = ((fX7_onFelt (u2 (va_up μ 4 (fX7_copy (μ 0) (μ 4))) 9 1 1) sp), u2 (va_up μ 4 (fX7_copy (μ 0) (μ 4))) 9 1 1) := rfl
  obtain ⟨h0_, h1_⟩ := tup2 hq
  rw [h0_, h1_]
  exact r_iret X w hr rfl dX7_keep_20
def fX7_restore (μ : N2) (sp : UInt32) : Int32 × N2 := if (μ 9 1) = 0 then (((-5), μ)) else (((fX7_acted (va_up (fX7_remember μ sp) 0 (fX7_copy ((fX7_remember μ sp) 4) ((fX7_remember μ sp) 0))) sp (fX7_onFelt (va_up (fX7_remember μ sp) 0 (fX7_copy ((fX7_remember μ sp) 4) ((fX7_remember μ sp) 0))) sp)).1, (fX7_acted (va_up (fX7_remember μ sp) 0 (fX7_copy ((fX7_remember μ sp) 4) ((fX7_remember μ sp) 0))) sp (fX7_onFelt (va_up (fX7_remember μ sp) 0 (fX7_copy ((fX7_remember μ sp) 4) ((fX7_remember μ sp) 0))) sp)).2))
theorem dX7_restore_0 : decode cX7_restore 0 = .ok (.aload_n 0, 1) := by decide +kernel
theorem dX7_restore_1 : decode cX7_restore 1 = .ok (.getfield 202, 3) := by decide +kernel
theorem dX7_restore_4 : decode cX7_restore 4 = .ok (.ifCond .ne 6, 3) := by decide +kernel
theorem dX7_restore_7 : decode cX7_restore 7 = .ok (.bipush (-5), 2) := by decide +kernel
theorem dX7_restore_9 : decode cX7_restore 9 = .ok (.ireturn, 1) := by decide +kernel
theorem dX7_restore_10 : decode cX7_restore 10 = .ok (.aload_n 0, 1) := by decide +kernel
theorem dX7_restore_11 : decode cX7_restore 11 = .ok (.invokevirtual 136, 3) := by decide +kernel
theorem dX7_restore_14 : decode cX7_restore 14 = .ok (.aload_n 0, 1) := by decide +kernel
theorem dX7_restore_15 : decode cX7_restore 15 = .ok (.getfield 22, 3) := by decide +kernel
theorem dX7_restore_18 : decode cX7_restore 18 = .ok (.aload_n 0, 1) := by decide +kernel
theorem dX7_restore_19 : decode cX7_restore 19 = .ok (.getfield 7, 3) := by decide +kernel
theorem dX7_restore_22 : decode cX7_restore 22 = .ok (.invokestatic 45, 3) := by decide +kernel
theorem dX7_restore_25 : decode cX7_restore 25 = .ok (.aload_n 0, 1) := by decide +kernel
theorem dX7_restore_26 : decode cX7_restore 26 = .ok (.aload_n 0, 1) := by decide +kernel
theorem dX7_restore_27 : decode cX7_restore 27 = .ok (.invokevirtual 205, 3) := by decide +kernel
theorem dX7_restore_30 : decode cX7_restore 30 = .ok (.invokevirtual 142, 3) := by decide +kernel
theorem dX7_restore_33 : decode cX7_restore 33 = .ok (.ireturn, 1) := by decide +kernel
theorem hc_100 {E : Ev} {a0 : Nat → Nat} {σ0 : N2} {v0 : UInt32} : ([5, 1] : List Nat).map (fun i => (wMd E a0 σ0 v0)[i]?) = (wAr E (a0 5) 73 (σ0 4) ++ wAr E (a0 1) 73 (σ0 0)).map some := rfl
theorem ha_100 {E : Ev} {a0 : Nat → Nat} {σ0 : N2}  {τ1 : N1} : (wAr E (a0 5) 73 (σ0 4) ++ wAr E (a0 1) 73 τ1).map Prod.fst = (wAr E (a0 5) 73 (σ0 4) ++ wAr E (a0 1) 73 (σ0 0)).map Prod.fst := rfl
theorem hw_100 {E : Ev} {a0 : Nat → Nat} {σ0 : N2} {v0 : UInt32}  {τ1 : N1} : wput (wMd E a0 σ0 v0) [5, 1] (wAr E (a0 5) 73 (σ0 4) ++ wAr E (a0 1) 73 τ1) = wMd E a0 (va_up σ0 0 τ1) v0 := rfl
set_option maxHeartbeats 4000000 in
set_option maxRecDepth 100000 in
theorem kX7_restore (l : Launch) (E : Ev) (a : Nat → Nat) (μ : N2) (sp : UInt32) (hH : gH μ) (hes : 0 ≤ (μ 4 12).toInt ∧ (μ 4 12).toInt ≤ 12) : KQ l yX7_restore cX7_restore 1 (some .int) 2 42 E [.ref (a 0)] (wMd E a μ sp) (QI E (wMd E a μ sp) (fX7_restore μ sp).1 (wMd E a ((fX7_restore μ sp).2) sp)) := by
  refine KQ.mk RX7 rfl (by decide +kernel) (Nat.le_of_ble_eq_true rfl) ?_
  intro p e s m below meth c ls X hr w hl
  have hx := X.1
  have hb := X.2.1
  have hl : lv_has ls 1 [(0, .ref (a 0))] := hl
  refine lv_aload_n hx hb dX7_restore_0 rfl (lv_at hl 0 rfl) ?_
  refine r_get X w CL7 6 (by decide) wf_X7_202 0 rfl rfl dX7_restore_1 ?_
  refine lv_if_ne (tgt := 10) hx hb dX7_restore_4 (by decide) (fun c4_1 => ?_) (fun c4_1 => ?_)
  · refine lv_aload_n hx hb dX7_restore_10 rfl (lv_at hl 0 rfl) ?_
    refine r_cv w (r_runV (As := []) (rest := []) X w (kX7_remember l E a μ sp ) ck_X7_136 ⟨Nat.le_of_ble_eq_true rfl, Nat.le_of_ble_eq_true rfl⟩ [0, 1, 2, 3, 4, 5, 6, 7, 8, 9] (hc_81 (E := E)) (by decide +kernel) (k0 := 0) CL7 rfl hl.1 (Nat.le_of_ble_eq_true rfl) rfl dX7_restore_11 ⟨Nat.le_of_ble_eq_true rfl, Nat.le_of_ble_eq_true rfl⟩) (wMd E a (fX7_remember μ sp) sp) [0, 1, 2, 3, 4, 5, 6, 7, 8, 9] (hc_81 (E := E)) (by decide +kernel) (ha_81 (E := E)) (hw_81 (E := E)) (fun H locs w => ?_)
    refine lv_aload_n hx hb dX7_restore_14 rfl (lv_at hl 0 rfl) ?_
    refine r_get X w CL7 5 (by decide) wf_X7_22 0 rfl rfl dX7_restore_15 ?_
    refine lv_aload_n hx hb dX7_restore_18 rfl (lv_at hl 0 rfl) ?_
    refine r_get X w CL7 0 (by decide) wf_X7_7 0 rfl rfl dX7_restore_19 ?_
    refine r_cv w (r_runS (As := [.ref (a 5), .ref (a 1)]) (rest := []) X w (kX7_copy l E (a 5) ((fX7_remember μ sp) 4) (a 1) ((fX7_remember μ sp) 0) ) ck_X7_45 ⟨Nat.le_of_ble_eq_true rfl, Nat.le_of_ble_eq_true rfl⟩ [5, 1] (hc_100 (E := E)) (by decide +kernel) hl.1 (Nat.le_of_ble_eq_true rfl) rfl dX7_restore_22 ⟨Nat.le_of_ble_eq_true rfl, Nat.le_of_ble_eq_true rfl⟩) (wMd E a (va_up (fX7_remember μ sp) 0 (fX7_copy ((fX7_remember μ sp) 4) ((fX7_remember μ sp) 0))) sp) [5, 1] (hc_100 (E := E)) (by decide +kernel) (ha_100 (E := E)) (hw_100 (E := E)) (fun H locs w => ?_)
    refine lv_aload_n hx hb dX7_restore_25 rfl (lv_at hl 0 rfl) ?_
    refine lv_aload_n hx hb dX7_restore_26 rfl (lv_at hl 0 rfl) ?_
    refine r_ci w (r_runV (As := []) (rest := [.ref (a 0)]) X w (kX7_onFelt l E a (va_up (fX7_remember μ sp) 0 (fX7_copy ((fX7_remember μ sp) 4) ((fX7_remember μ sp) 0))) sp hes) ck_X7_205 ⟨Nat.le_of_ble_eq_true rfl, Nat.le_of_ble_eq_true rfl⟩ [0, 1, 2, 3, 4, 5, 6, 7, 8, 9] (hc_81 (E := E)) (by decide +kernel) (k0 := 0) CL7 rfl hl.1 (Nat.le_of_ble_eq_true rfl) rfl dX7_restore_27 ⟨Nat.le_of_ble_eq_true rfl, Nat.le_of_ble_eq_true rfl⟩) (wMd E a (va_up (fX7_remember μ sp) 0 (fX7_copy ((fX7_remember μ sp) 4) ((fX7_remember μ sp) 0))) sp) [0, 1, 2, 3, 4, 5, 6, 7, 8, 9] (hc_81 (E := E)) (by decide +kernel) (ha_81 (E := E)) (hw_81 (E := E)) (fun H locs w => ?_)
    refine r_ci w (r_runV (As := [.int (fX7_onFelt (va_up (fX7_remember μ sp) 0 (fX7_copy ((fX7_remember μ sp) 4) ((fX7_remember μ sp) 0))) sp)]) (rest := []) X w (kX7_acted l E a (va_up (fX7_remember μ sp) 0 (fX7_copy ((fX7_remember μ sp) 4) ((fX7_remember μ sp) 0))) sp (fX7_onFelt (va_up (fX7_remember μ sp) 0 (fX7_copy ((fX7_remember μ sp) 4) ((fX7_remember μ sp) 0))) sp) hH) ck_X7_142 ⟨Nat.le_of_ble_eq_true rfl, Nat.le_of_ble_eq_true rfl⟩ [0, 1, 2, 3, 4, 5, 6, 7, 8, 9] (hc_81 (E := E)) (by decide +kernel) (k0 := 0) CL7 rfl hl.1 (Nat.le_of_ble_eq_true rfl) rfl dX7_restore_30 ⟨Nat.le_of_ble_eq_true rfl, Nat.le_of_ble_eq_true rfl⟩) (wMd E a ((fX7_acted (va_up (fX7_remember μ sp) 0 (fX7_copy ((fX7_remember μ sp) 4) ((fX7_remember μ sp) 0))) sp (fX7_onFelt (va_up (fX7_remember μ sp) 0 (fX7_copy ((fX7_remember μ sp) 4) ((fX7_remember μ sp) 0))) sp)).2) sp) [0, 1, 2, 3, 4, 5, 6, 7, 8, 9] (hc_81 (E := E)) (by decide +kernel) (ha_81 (E := E)) (hw_81 (E := E)) (fun H locs w => ?_)
    have hq : fX7_restore μ sp = ((fX7_acted (va_up (fX7_remember μ sp) 0 (fX7_copy ((fX7_remember μ sp) 4) ((fX7_remember μ sp) 0))) sp (fX7_onFelt (va_up (fX7_remember μ sp) 0 (fX7_copy ((fX7_remember μ sp) 4) ((fX7_remember μ sp) 0))) sp)).1, (fX7_acted (va_up (fX7_remember μ sp) 0 (fX7_copy ((fX7_remember μ sp) 4) ((fX7_remember μ sp) 0))) sp (fX7_onFelt (va_up (fX7_remember μ sp) 0 (fX7_copy ((fX7_remember μ sp) 4) ((fX7_remember μ sp) 0))) sp)).2) := by simp only [fX7_restore, if_neg c4_1]
    obtain ⟨h0_, h1_⟩ := tup2 hq
    rw [h0_, h1_]
    exact r_iret X w hr rfl dX7_restore_33
  · refine lv_bipush (v := (-5)) hx hb dX7_restore_7 (by decide) ?_
    have hq : fX7_restore μ sp = ((-5), μ) := by simp only [fX7_restore, if_pos c4_1]
    obtain ⟨h0_, h1_⟩ := tup2 hq
    rw [h0_, h1_]
    exact r_iret X w hr rfl dX7_restore_9
def fX7_ofCell (μ : N2) (sp : UInt32) (ce : Int32) (wt : Int32) : Int32 := if (fX7_isCell ce) = 0 then (((-1))) else (if wt = 0 then (((μ 5 ce.toNatClampNeg) + 4)) else (if wt = 1 then (((μ 6 ce.toNatClampNeg) + 4)) else (if wt = 2 then (((fX7_ballOn μ sp ce))) else (if wt = 3 then (((fX7_cornerOf μ sp ce))) else (if wt = 4 then (((fX7_besides μ sp ce))) else (((-2))))))))
theorem dX7_ofCell_0 : decode cX7_ofCell 0 = .ok (.iload_n 1, 1) := by decide +kernel
theorem dX7_ofCell_1 : decode cX7_ofCell 1 = .ok (.invokestatic 130, 3) := by decide +kernel
theorem dX7_ofCell_4 : decode cX7_ofCell 4 = .ok (.ifCond .ne 5, 3) := by decide +kernel
theorem dX7_ofCell_7 : decode cX7_ofCell 7 = .ok (.iconst (-1), 1) := by decide +kernel
theorem dX7_ofCell_8 : decode cX7_ofCell 8 = .ok (.ireturn, 1) := by decide +kernel
theorem dX7_ofCell_9 : decode cX7_ofCell 9 = .ok (.iload_n 2, 1) := by decide +kernel
theorem dX7_ofCell_10 : decode cX7_ofCell 10 = .ok (.tableswitch 70 0 4 #[34, 43, 52, 58, 64], 34) := by decide +kernel
theorem dX7_ofCell_44 : decode cX7_ofCell 44 = .ok (.aload_n 0, 1) := by decide +kernel
theorem dX7_ofCell_45 : decode cX7_ofCell 45 = .ok (.getfield 25, 3) := by decide +kernel
theorem dX7_ofCell_48 : decode cX7_ofCell 48 = .ok (.iload_n 1, 1) := by decide +kernel
theorem dX7_ofCell_49 : decode cX7_ofCell 49 = .ok (.iaload, 1) := by decide +kernel
theorem dX7_ofCell_50 : decode cX7_ofCell 50 = .ok (.iconst 4, 1) := by decide +kernel
theorem dX7_ofCell_51 : decode cX7_ofCell 51 = .ok (.iadd, 1) := by decide +kernel
theorem dX7_ofCell_52 : decode cX7_ofCell 52 = .ok (.ireturn, 1) := by decide +kernel
theorem dX7_ofCell_53 : decode cX7_ofCell 53 = .ok (.aload_n 0, 1) := by decide +kernel
theorem dX7_ofCell_54 : decode cX7_ofCell 54 = .ok (.getfield 28, 3) := by decide +kernel
theorem dX7_ofCell_57 : decode cX7_ofCell 57 = .ok (.iload_n 1, 1) := by decide +kernel
theorem dX7_ofCell_58 : decode cX7_ofCell 58 = .ok (.iaload, 1) := by decide +kernel
theorem dX7_ofCell_59 : decode cX7_ofCell 59 = .ok (.iconst 4, 1) := by decide +kernel
theorem dX7_ofCell_60 : decode cX7_ofCell 60 = .ok (.iadd, 1) := by decide +kernel
theorem dX7_ofCell_61 : decode cX7_ofCell 61 = .ok (.ireturn, 1) := by decide +kernel
theorem dX7_ofCell_62 : decode cX7_ofCell 62 = .ok (.aload_n 0, 1) := by decide +kernel
theorem dX7_ofCell_63 : decode cX7_ofCell 63 = .ok (.iload_n 1, 1) := by decide +kernel
theorem dX7_ofCell_64 : decode cX7_ofCell 64 = .ok (.invokevirtual 105, 3) := by decide +kernel
theorem dX7_ofCell_67 : decode cX7_ofCell 67 = .ok (.ireturn, 1) := by decide +kernel
theorem dX7_ofCell_68 : decode cX7_ofCell 68 = .ok (.aload_n 0, 1) := by decide +kernel
theorem dX7_ofCell_69 : decode cX7_ofCell 69 = .ok (.iload_n 1, 1) := by decide +kernel
theorem dX7_ofCell_70 : decode cX7_ofCell 70 = .ok (.invokevirtual 98, 3) := by decide +kernel
theorem dX7_ofCell_73 : decode cX7_ofCell 73 = .ok (.ireturn, 1) := by decide +kernel
theorem dX7_ofCell_74 : decode cX7_ofCell 74 = .ok (.aload_n 0, 1) := by decide +kernel
theorem dX7_ofCell_75 : decode cX7_ofCell 75 = .ok (.iload_n 1, 1) := by decide +kernel
theorem dX7_ofCell_76 : decode cX7_ofCell 76 = .ok (.invokevirtual 208, 3) := by decide +kernel
theorem dX7_ofCell_79 : decode cX7_ofCell 79 = .ok (.ireturn, 1) := by decide +kernel
theorem dX7_ofCell_80 : decode cX7_ofCell 80 = .ok (.bipush (-2), 2) := by decide +kernel
theorem dX7_ofCell_82 : decode cX7_ofCell 82 = .ok (.ireturn, 1) := by decide +kernel
theorem ck_X7_208 : CkV RX7 208 RX7 yX7_besides cX7_besides 4 (some .int) 1 := ⟨wm_X7_208, wim_yX7_besides, wse_yX7_besides, wi_X7, wc_yX7_besides, by decide +kernel⟩
set_option maxHeartbeats 4000000 in
set_option maxRecDepth 100000 in
theorem kX7_ofCell (l : Launch) (E : Ev) (a : Nat → Nat) (μ : N2) (sp : UInt32) (ce : Int32) (wt : Int32) (hev : gE μ) : KQ l yX7_ofCell cX7_ofCell 3 (some .int) 4 92 E [.ref (a 0), .int ce, .int wt] (wMd E a μ sp) (QI E (wMd E a μ sp) (fX7_ofCell μ sp ce wt) (wMd E a μ sp)) := by
  refine KQ.mk RX7 rfl (by decide +kernel) (Nat.le_of_ble_eq_true rfl) ?_
  intro p e s m below meth c ls X hr w hl
  have hx := X.1
  have hb := X.2.1
  have hl : lv_has ls 3 [(0, .ref (a 0)), (1, .int ce), (2, .int wt)] := hl
  refine lv_iload_n hx hb dX7_ofCell_0 rfl (lv_at hl 1 rfl) ?_
  refine r_ci w (r_runS (As := [.int ce]) (rest := []) X w (kX7_isCell l E ce ) ck_X7_130 ⟨Nat.le_of_ble_eq_true rfl, Nat.le_of_ble_eq_true rfl⟩ [] rfl (by decide +kernel) hl.1 (Nat.le_of_ble_eq_true rfl) rfl dX7_ofCell_1 ⟨Nat.le_of_ble_eq_true rfl, Nat.le_of_ble_eq_true rfl⟩) (wMd E a μ sp) [] rfl (by decide +kernel) rfl rfl (fun H locs w => ?_)
  refine lv_if_ne (tgt := 9) hx hb dX7_ofCell_4 (by decide) (fun c4_1 => ?_) (fun c4_1 => ?_)
  · refine lv_iload_n hx hb dX7_ofCell_9 rfl (lv_at hl 2 rfl) ?_
    by_cases c10_2 : wt = 0
    · refine lv_tableIn (off := 34) (tgt := 44) hx hb dX7_ofCell_10 (by rw [c10_2]; decide) (by rw [c10_2]; decide) (by rw [c10_2]; rfl) (by decide) ?_
      refine lv_aload_n hx hb dX7_ofCell_44 rfl (lv_at hl 0 rfl) ?_
      refine r_get X w CL7 7 (by decide) wf_X7_25 0 rfl rfl dX7_ofCell_45 ?_
      refine lv_iload_n hx hb dX7_ofCell_48 rfl (lv_at hl 1 rfl) ?_
      refine r_iald X w 6 rfl (in61 c4_1) dX7_ofCell_49 ?_
      refine lv_iconst (v := 4) hx hb dX7_ofCell_50 (by decide) ?_
      refine lv_iadd hx hb dX7_ofCell_51 ?_
      have hq : fX7_ofCell μ sp ce wt = ((μ 5 ce.toNatClampNeg) + 4) := by simp only [fX7_ofCell, if_neg c4_1, if_pos c10_2]
      rw [hq]
      exact r_iret X w hr rfl dX7_ofCell_52
    · by_cases c10_3 : wt = 1
      · refine lv_tableIn (off := 43) (tgt := 53) hx hb dX7_ofCell_10 (by rw [c10_3]; decide) (by rw [c10_3]; decide) (by rw [c10_3]; rfl) (by decide) ?_
        refine lv_aload_n hx hb dX7_ofCell_53 rfl (lv_at hl 0 rfl) ?_
        refine r_get X w CL7 8 (by decide) wf_X7_28 0 rfl rfl dX7_ofCell_54 ?_
        refine lv_iload_n hx hb dX7_ofCell_57 rfl (lv_at hl 1 rfl) ?_
        refine r_iald X w 7 rfl (in61 c4_1) dX7_ofCell_58 ?_
        refine lv_iconst (v := 4) hx hb dX7_ofCell_59 (by decide) ?_
        refine lv_iadd hx hb dX7_ofCell_60 ?_
        have hq : fX7_ofCell μ sp ce wt = ((μ 6 ce.toNatClampNeg) + 4) := by simp only [fX7_ofCell, if_neg c4_1, if_neg c10_2, if_pos c10_3]
        rw [hq]
        exact r_iret X w hr rfl dX7_ofCell_61
      · by_cases c10_4 : wt = 2
        · refine lv_tableIn (off := 52) (tgt := 62) hx hb dX7_ofCell_10 (by rw [c10_4]; decide) (by rw [c10_4]; decide) (by rw [c10_4]; rfl) (by decide) ?_
          refine lv_aload_n hx hb dX7_ofCell_62 rfl (lv_at hl 0 rfl) ?_
          refine lv_iload_n hx hb dX7_ofCell_63 rfl (lv_at hl 1 rfl) ?_
          refine r_ci w (r_runV (As := [.int ce]) (rest := []) X w (kX7_ballOn l E a μ sp ce hev) ck_X7_105 ⟨Nat.le_of_ble_eq_true rfl, Nat.le_of_ble_eq_true rfl⟩ [0, 1, 2, 3, 4, 5, 6, 7, 8, 9] (hc_81 (E := E)) (by decide +kernel) (k0 := 0) CL7 rfl hl.1 (Nat.le_of_ble_eq_true rfl) rfl dX7_ofCell_64 ⟨Nat.le_of_ble_eq_true rfl, Nat.le_of_ble_eq_true rfl⟩) (wMd E a μ sp) [0, 1, 2, 3, 4, 5, 6, 7, 8, 9] (hc_81 (E := E)) (by decide +kernel) (ha_81 (E := E)) (hw_81 (E := E)) (fun H locs w => ?_)
          have hq : fX7_ofCell μ sp ce wt = ((fX7_ballOn μ sp ce)) := by simp only [fX7_ofCell, if_neg c4_1, if_neg c10_2, if_neg c10_3, if_pos c10_4]
          rw [hq]
          exact r_iret X w hr rfl dX7_ofCell_67
        · by_cases c10_5 : wt = 3
          · refine lv_tableIn (off := 58) (tgt := 68) hx hb dX7_ofCell_10 (by rw [c10_5]; decide) (by rw [c10_5]; decide) (by rw [c10_5]; rfl) (by decide) ?_
            refine lv_aload_n hx hb dX7_ofCell_68 rfl (lv_at hl 0 rfl) ?_
            refine lv_iload_n hx hb dX7_ofCell_69 rfl (lv_at hl 1 rfl) ?_
            refine r_ci w (r_runV (As := [.int ce]) (rest := []) X w (kX7_cornerOf l E a μ sp ce (in61 c4_1)) ck_X7_98 ⟨Nat.le_of_ble_eq_true rfl, Nat.le_of_ble_eq_true rfl⟩ [0, 1, 2, 3, 4, 5, 6, 7, 8, 9] (hc_81 (E := E)) (by decide +kernel) (k0 := 0) CL7 rfl hl.1 (Nat.le_of_ble_eq_true rfl) rfl dX7_ofCell_70 ⟨Nat.le_of_ble_eq_true rfl, Nat.le_of_ble_eq_true rfl⟩) (wMd E a μ sp) [0, 1, 2, 3, 4, 5, 6, 7, 8, 9] (hc_81 (E := E)) (by decide +kernel) (ha_81 (E := E)) (hw_81 (E := E)) (fun H locs w => ?_)
            have hq : fX7_ofCell μ sp ce wt = ((fX7_cornerOf μ sp ce)) := by simp only [fX7_ofCell, if_neg c4_1, if_neg c10_2, if_neg c10_3, if_neg c10_4, if_pos c10_5]
            rw [hq]
            exact r_iret X w hr rfl dX7_ofCell_73
          · by_cases c10_6 : wt = 4
            · refine lv_tableIn (off := 64) (tgt := 74) hx hb dX7_ofCell_10 (by rw [c10_6]; decide) (by rw [c10_6]; decide) (by rw [c10_6]; rfl) (by decide) ?_
              refine lv_aload_n hx hb dX7_ofCell_74 rfl (lv_at hl 0 rfl) ?_
              refine lv_iload_n hx hb dX7_ofCell_75 rfl (lv_at hl 1 rfl) ?_
              refine r_ci w (r_runV (As := [.int ce]) (rest := []) X w (kX7_besides l E a μ sp ce (in61 c4_1)) ck_X7_208 ⟨Nat.le_of_ble_eq_true rfl, Nat.le_of_ble_eq_true rfl⟩ [0, 1, 2, 3, 4, 5, 6, 7, 8, 9] (hc_81 (E := E)) (by decide +kernel) (k0 := 0) CL7 rfl hl.1 (Nat.le_of_ble_eq_true rfl) rfl dX7_ofCell_76 ⟨Nat.le_of_ble_eq_true rfl, Nat.le_of_ble_eq_true rfl⟩) (wMd E a μ sp) [0, 1, 2, 3, 4, 5, 6, 7, 8, 9] (hc_81 (E := E)) (by decide +kernel) (ha_81 (E := E)) (hw_81 (E := E)) (fun H locs w => ?_)
              have hq : fX7_ofCell μ sp ce wt = ((fX7_besides μ sp ce)) := by simp only [fX7_ofCell, if_neg c4_1, if_neg c10_2, if_neg c10_3, if_neg c10_4, if_neg c10_5, if_pos c10_6]
              rw [hq]
              exact r_iret X w hr rfl dX7_ofCell_79
            · refine lv_tableOut (tgt := 80) hx hb dX7_ofCell_10 (tab_out_4 c10_2 c10_3 c10_4 c10_5 c10_6) (by decide) ?_
              refine lv_bipush (v := (-2)) hx hb dX7_ofCell_80 (by decide) ?_
              have hq : fX7_ofCell μ sp ce wt = ((-2)) := by simp only [fX7_ofCell, if_neg c4_1, if_neg c10_2, if_neg c10_3, if_neg c10_4, if_neg c10_5, if_neg c10_6]
              rw [hq]
              exact r_iret X w hr rfl dX7_ofCell_82
  · refine lv_iconst (v := (-1)) hx hb dX7_ofCell_7 (by decide) ?_
    have hq : fX7_ofCell μ sp ce wt = ((-1)) := by simp only [fX7_ofCell, if_pos c4_1]
    rw [hq]
    exact r_iret X w hr rfl dX7_ofCell_8
def fX7_ball (μ : N2) (sp : UInt32) (bl : Int32) (wt : Int32) : Int32 := if (fX7_isBall μ sp bl) = 0 then (((-1))) else (if (fX7_in wt.toInt64 0 4) = 0 then (((-2))) else ((μ 0 ((13 + (12 * wt)) + bl).toNatClampNeg)))
theorem dX7_ball_0 : decode cX7_ball 0 = .ok (.aload_n 0, 1) := by decide +kernel
theorem dX7_ball_1 : decode cX7_ball 1 = .ok (.iload_n 1, 1) := by decide +kernel
theorem dX7_ball_2 : decode cX7_ball 2 = .ok (.invokevirtual 145, 3) := by decide +kernel
theorem dX7_ball_5 : decode cX7_ball 5 = .ok (.ifCond .ne 5, 3) := by decide +kernel
theorem dX7_ball_8 : decode cX7_ball 8 = .ok (.iconst (-1), 1) := by decide +kernel
theorem dX7_ball_9 : decode cX7_ball 9 = .ok (.ireturn, 1) := by decide +kernel
theorem dX7_ball_10 : decode cX7_ball 10 = .ok (.iload_n 2, 1) := by decide +kernel
theorem dX7_ball_11 : decode cX7_ball 11 = .ok (.i2l, 1) := by decide +kernel
theorem dX7_ball_12 : decode cX7_ball 12 = .ok (.lconst 0, 1) := by decide +kernel
theorem dX7_ball_13 : decode cX7_ball 13 = .ok (.ldc2_w 39, 3) := by decide +kernel
theorem dX7_ball_16 : decode cX7_ball 16 = .ok (.invokestatic 41, 3) := by decide +kernel
theorem dX7_ball_19 : decode cX7_ball 19 = .ok (.ifCond .eq 20, 3) := by decide +kernel
theorem dX7_ball_22 : decode cX7_ball 22 = .ok (.aload_n 0, 1) := by decide +kernel
theorem dX7_ball_23 : decode cX7_ball 23 = .ok (.getfield 7, 3) := by decide +kernel
theorem dX7_ball_26 : decode cX7_ball 26 = .ok (.bipush 13, 2) := by decide +kernel
theorem dX7_ball_28 : decode cX7_ball 28 = .ok (.bipush 12, 2) := by decide +kernel
theorem dX7_ball_30 : decode cX7_ball 30 = .ok (.iload_n 2, 1) := by decide +kernel
theorem dX7_ball_31 : decode cX7_ball 31 = .ok (.imul, 1) := by decide +kernel
theorem dX7_ball_32 : decode cX7_ball 32 = .ok (.iadd, 1) := by decide +kernel
theorem dX7_ball_33 : decode cX7_ball 33 = .ok (.iload_n 1, 1) := by decide +kernel
theorem dX7_ball_34 : decode cX7_ball 34 = .ok (.iadd, 1) := by decide +kernel
theorem dX7_ball_35 : decode cX7_ball 35 = .ok (.iaload, 1) := by decide +kernel
theorem dX7_ball_36 : decode cX7_ball 36 = .ok (.goto 5, 3) := by decide +kernel
theorem dX7_ball_39 : decode cX7_ball 39 = .ok (.bipush (-2), 2) := by decide +kernel
theorem dX7_ball_41 : decode cX7_ball 41 = .ok (.ireturn, 1) := by decide +kernel
set_option maxHeartbeats 4000000 in
set_option maxRecDepth 100000 in
theorem kX7_ball (l : Launch) (E : Ev) (a : Nat → Nat) (μ : N2) (sp : UInt32) (bl : Int32) (wt : Int32) (hev : gE μ) : KQ l yX7_ball cX7_ball 3 (some .int) 2 46 E [.ref (a 0), .int bl, .int wt] (wMd E a μ sp) (QI E (wMd E a μ sp) (fX7_ball μ sp bl wt) (wMd E a μ sp)) := by
  refine KQ.mk RX7 rfl (by decide +kernel) (Nat.le_of_ble_eq_true rfl) ?_
  intro p e s m below meth c ls X hr w hl
  have hx := X.1
  have hb := X.2.1
  have hl : lv_has ls 3 [(0, .ref (a 0)), (1, .int bl), (2, .int wt)] := hl
  refine lv_aload_n hx hb dX7_ball_0 rfl (lv_at hl 0 rfl) ?_
  refine lv_iload_n hx hb dX7_ball_1 rfl (lv_at hl 1 rfl) ?_
  refine r_ci w (r_runV (As := [.int bl]) (rest := []) X w (kX7_isBall l E a μ sp bl hev.le) ck_X7_145 ⟨Nat.le_of_ble_eq_true rfl, Nat.le_of_ble_eq_true rfl⟩ [0, 1, 2, 3, 4, 5, 6, 7, 8, 9] (hc_81 (E := E)) (by decide +kernel) (k0 := 0) CL7 rfl hl.1 (Nat.le_of_ble_eq_true rfl) rfl dX7_ball_2 ⟨Nat.le_of_ble_eq_true rfl, Nat.le_of_ble_eq_true rfl⟩) (wMd E a μ sp) [0, 1, 2, 3, 4, 5, 6, 7, 8, 9] (hc_81 (E := E)) (by decide +kernel) (ha_81 (E := E)) (hw_81 (E := E)) (fun H locs w => ?_)
  refine lv_if_ne (tgt := 10) hx hb dX7_ball_5 (by decide) (fun c5_1 => ?_) (fun c5_1 => ?_)
  · refine lv_iload_n hx hb dX7_ball_10 rfl (lv_at hl 2 rfl) ?_
    refine lv_i2l hx hb dX7_ball_11 rfl ?_
    refine lv_lconst (v := 0) hx hb dX7_ball_12 (by decide) ?_
    refine r_ldcl X wk_X7_39 dX7_ball_13 ?_
    refine r_ci w (r_runS (As := [.long wt.toInt64, .long 0, .long 4]) (rest := []) X w (kX7_in l E wt.toInt64 0 4 ) ck_X7_41 ⟨Nat.le_of_ble_eq_true rfl, Nat.le_of_ble_eq_true rfl⟩ [] rfl (by decide +kernel) hl.1 (Nat.le_of_ble_eq_true rfl) rfl dX7_ball_16 ⟨Nat.le_of_ble_eq_true rfl, Nat.le_of_ble_eq_true rfl⟩) (wMd E a μ sp) [] rfl (by decide +kernel) rfl rfl (fun H locs w => ?_)
    refine lv_if_eq (tgt := 39) hx hb dX7_ball_19 (by decide) (fun c19_2 => ?_) (fun c19_2 => ?_)
    · refine lv_bipush (v := (-2)) hx hb dX7_ball_39 (by decide) ?_
      have hq : fX7_ball μ sp bl wt = ((-2)) := by simp only [fX7_ball, if_neg c5_1, if_pos c19_2]
      rw [hq]
      exact r_iret X w hr rfl dX7_ball_41
    · refine lv_aload_n hx hb dX7_ball_22 rfl (lv_at hl 0 rfl) ?_
      refine r_get X w CL7 0 (by decide) wf_X7_7 0 rfl rfl dX7_ball_23 ?_
      refine lv_bipush (v := 13) hx hb dX7_ball_26 (by decide) ?_
      refine lv_bipush (v := 12) hx hb dX7_ball_28 (by decide) ?_
      refine lv_iload_n hx hb dX7_ball_30 rfl (lv_at hl 2 rfl) ?_
      refine lv_imul hx hb dX7_ball_31 ?_
      refine lv_iadd hx hb dX7_ball_32 ?_
      refine lv_iload_n hx hb dX7_ball_33 rfl (lv_at hl 1 rfl) ?_
      refine lv_iadd hx hb dX7_ball_34 ?_
      refine r_iald X w 1 rfl (ball_ix c19_2 (isBall_ix hev c5_1).2.1) dX7_ball_35 ?_
      refine lv_goto (tgt := 41) hx hb dX7_ball_36 (by decide) ?_
      have hq : fX7_ball μ sp bl wt = (μ 0 ((13 + (12 * wt)) + bl).toNatClampNeg) := by simp only [fX7_ball, if_neg c5_1, if_neg c19_2]
      rw [hq]
      exact r_iret X w hr rfl dX7_ball_41
  · refine lv_iconst (v := (-1)) hx hb dX7_ball_8 (by decide) ?_
    have hq : fX7_ball μ sp bl wt = ((-1)) := by simp only [fX7_ball, if_pos c5_1]
    rw [hq]
    exact r_iret X w hr rfl dX7_ball_9
def fX7_count (μ : N2) (sp : UInt32) (wt : Int32) : Int32 := if wt = 0 then (((fX7_onFelt μ sp))) else (if wt = 1 then ((μ 0 12)) else (if wt = 2 then ((μ 0 4)) else (if wt = 3 then ((μ 0 ((6 + wt) - 3).toNatClampNeg)) else (if wt = 4 then ((μ 0 ((6 + wt) - 3).toNatClampNeg)) else (if wt = 5 then ((μ 0 5)) else (if wt = 6 then ((μ 0 ((8 + wt) - 6).toNatClampNeg)) else (if wt = 7 then ((μ 0 ((8 + wt) - 6).toNatClampNeg)) else (if wt = 8 then ((μ 0 ((8 + wt) - 6).toNatClampNeg)) else (if wt = 9 then ((μ 0 ((8 + wt) - 6).toNatClampNeg)) else (if wt = 10 then ((μ 0 3)) else (if wt = 11 then ((μ 0 (wt - 11).toNatClampNeg)) else (if wt = 12 then ((μ 0 (wt - 11).toNatClampNeg)) else (if wt = 13 then ((μ 0 (wt - 11).toNatClampNeg)) else (if wt = 14 then ((μ 9 0)) else (if wt = 15 then ((μ 9 10)) else (((-2))))))))))))))))))
theorem dX7_count_0 : decode cX7_count 0 = .ok (.iload_n 1, 1) := by decide +kernel
theorem dX7_count_1 : decode cX7_count 1 = .ok (.tableswitch 158 0 15 #[79, 84, 92, 99, 99, 111, 118, 118, 118, 118, 131, 138, 138, 138, 148, 153], 79) := by decide +kernel
theorem dX7_count_80 : decode cX7_count 80 = .ok (.aload_n 0, 1) := by decide +kernel
theorem dX7_count_81 : decode cX7_count 81 = .ok (.invokevirtual 205, 3) := by decide +kernel
theorem dX7_count_84 : decode cX7_count 84 = .ok (.ireturn, 1) := by decide +kernel
theorem dX7_count_85 : decode cX7_count 85 = .ok (.aload_n 0, 1) := by decide +kernel
theorem dX7_count_86 : decode cX7_count 86 = .ok (.getfield 7, 3) := by decide +kernel
theorem dX7_count_89 : decode cX7_count 89 = .ok (.bipush 12, 2) := by decide +kernel
theorem dX7_count_91 : decode cX7_count 91 = .ok (.iaload, 1) := by decide +kernel
theorem dX7_count_92 : decode cX7_count 92 = .ok (.ireturn, 1) := by decide +kernel
theorem dX7_count_93 : decode cX7_count 93 = .ok (.aload_n 0, 1) := by decide +kernel
theorem dX7_count_94 : decode cX7_count 94 = .ok (.getfield 7, 3) := by decide +kernel
theorem dX7_count_97 : decode cX7_count 97 = .ok (.iconst 4, 1) := by decide +kernel
theorem dX7_count_98 : decode cX7_count 98 = .ok (.iaload, 1) := by decide +kernel
theorem dX7_count_99 : decode cX7_count 99 = .ok (.ireturn, 1) := by decide +kernel
theorem dX7_count_100 : decode cX7_count 100 = .ok (.aload_n 0, 1) := by decide +kernel
theorem dX7_count_101 : decode cX7_count 101 = .ok (.getfield 7, 3) := by decide +kernel
theorem dX7_count_104 : decode cX7_count 104 = .ok (.bipush 6, 2) := by decide +kernel
theorem dX7_count_106 : decode cX7_count 106 = .ok (.iload_n 1, 1) := by decide +kernel
theorem dX7_count_107 : decode cX7_count 107 = .ok (.iadd, 1) := by decide +kernel
theorem dX7_count_108 : decode cX7_count 108 = .ok (.iconst 3, 1) := by decide +kernel
theorem dX7_count_109 : decode cX7_count 109 = .ok (.isub, 1) := by decide +kernel
theorem dX7_count_110 : decode cX7_count 110 = .ok (.iaload, 1) := by decide +kernel
theorem dX7_count_111 : decode cX7_count 111 = .ok (.ireturn, 1) := by decide +kernel
theorem dX7_count_112 : decode cX7_count 112 = .ok (.aload_n 0, 1) := by decide +kernel
theorem dX7_count_113 : decode cX7_count 113 = .ok (.getfield 7, 3) := by decide +kernel
theorem dX7_count_116 : decode cX7_count 116 = .ok (.iconst 5, 1) := by decide +kernel
theorem dX7_count_117 : decode cX7_count 117 = .ok (.iaload, 1) := by decide +kernel
theorem dX7_count_118 : decode cX7_count 118 = .ok (.ireturn, 1) := by decide +kernel
theorem dX7_count_119 : decode cX7_count 119 = .ok (.aload_n 0, 1) := by decide +kernel
theorem dX7_count_120 : decode cX7_count 120 = .ok (.getfield 7, 3) := by decide +kernel
theorem dX7_count_123 : decode cX7_count 123 = .ok (.bipush 8, 2) := by decide +kernel
theorem dX7_count_125 : decode cX7_count 125 = .ok (.iload_n 1, 1) := by decide +kernel
theorem dX7_count_126 : decode cX7_count 126 = .ok (.iadd, 1) := by decide +kernel
theorem dX7_count_127 : decode cX7_count 127 = .ok (.bipush 6, 2) := by decide +kernel
theorem dX7_count_129 : decode cX7_count 129 = .ok (.isub, 1) := by decide +kernel
theorem dX7_count_130 : decode cX7_count 130 = .ok (.iaload, 1) := by decide +kernel
theorem dX7_count_131 : decode cX7_count 131 = .ok (.ireturn, 1) := by decide +kernel
theorem dX7_count_132 : decode cX7_count 132 = .ok (.aload_n 0, 1) := by decide +kernel
theorem dX7_count_133 : decode cX7_count 133 = .ok (.getfield 7, 3) := by decide +kernel
theorem dX7_count_136 : decode cX7_count 136 = .ok (.iconst 3, 1) := by decide +kernel
theorem dX7_count_137 : decode cX7_count 137 = .ok (.iaload, 1) := by decide +kernel
theorem dX7_count_138 : decode cX7_count 138 = .ok (.ireturn, 1) := by decide +kernel
theorem dX7_count_139 : decode cX7_count 139 = .ok (.aload_n 0, 1) := by decide +kernel
theorem dX7_count_140 : decode cX7_count 140 = .ok (.getfield 7, 3) := by decide +kernel
theorem dX7_count_143 : decode cX7_count 143 = .ok (.iload_n 1, 1) := by decide +kernel
theorem dX7_count_144 : decode cX7_count 144 = .ok (.bipush 11, 2) := by decide +kernel
theorem dX7_count_146 : decode cX7_count 146 = .ok (.isub, 1) := by decide +kernel
theorem dX7_count_147 : decode cX7_count 147 = .ok (.iaload, 1) := by decide +kernel
theorem dX7_count_148 : decode cX7_count 148 = .ok (.ireturn, 1) := by decide +kernel
theorem dX7_count_149 : decode cX7_count 149 = .ok (.aload_n 0, 1) := by decide +kernel
theorem dX7_count_150 : decode cX7_count 150 = .ok (.getfield 49, 3) := by decide +kernel
theorem dX7_count_153 : decode cX7_count 153 = .ok (.ireturn, 1) := by decide +kernel
theorem dX7_count_154 : decode cX7_count 154 = .ok (.aload_n 0, 1) := by decide +kernel
theorem dX7_count_155 : decode cX7_count 155 = .ok (.getfield 170, 3) := by decide +kernel
theorem dX7_count_158 : decode cX7_count 158 = .ok (.ireturn, 1) := by decide +kernel
theorem dX7_count_159 : decode cX7_count 159 = .ok (.bipush (-2), 2) := by decide +kernel
theorem dX7_count_161 : decode cX7_count 161 = .ok (.ireturn, 1) := by decide +kernel
set_option maxHeartbeats 4000000 in
set_option maxRecDepth 100000 in
theorem kX7_count (l : Launch) (E : Ev) (a : Nat → Nat) (μ : N2) (sp : UInt32) (wt : Int32) (hev : gE μ) : KQ l yX7_count cX7_count 2 (some .int) 1 22 E [.ref (a 0), .int wt] (wMd E a μ sp) (QI E (wMd E a μ sp) (fX7_count μ sp wt) (wMd E a μ sp)) := by
  refine KQ.mk RX7 rfl (by decide +kernel) (Nat.le_of_ble_eq_true rfl) ?_
  intro p e s m below meth c ls X hr w hl
  have hx := X.1
  have hb := X.2.1
  have hl : lv_has ls 2 [(0, .ref (a 0)), (1, .int wt)] := hl
  refine lv_iload_n hx hb dX7_count_0 rfl (lv_at hl 1 rfl) ?_
  by_cases c1_1 : wt = 0
  · refine lv_tableIn (off := 79) (tgt := 80) hx hb dX7_count_1 (by rw [c1_1]; decide) (by rw [c1_1]; decide) (by rw [c1_1]; rfl) (by decide) ?_
    refine lv_aload_n hx hb dX7_count_80 rfl (lv_at hl 0 rfl) ?_
    refine r_ci w (r_runV (As := []) (rest := []) X w (kX7_onFelt l E a μ sp hev) ck_X7_205 ⟨Nat.le_of_ble_eq_true rfl, Nat.le_of_ble_eq_true rfl⟩ [0, 1, 2, 3, 4, 5, 6, 7, 8, 9] (hc_81 (E := E)) (by decide +kernel) (k0 := 0) CL7 rfl hl.1 (Nat.le_of_ble_eq_true rfl) rfl dX7_count_81 ⟨Nat.le_of_ble_eq_true rfl, Nat.le_of_ble_eq_true rfl⟩) (wMd E a μ sp) [0, 1, 2, 3, 4, 5, 6, 7, 8, 9] (hc_81 (E := E)) (by decide +kernel) (ha_81 (E := E)) (hw_81 (E := E)) (fun H locs w => ?_)
    have hq : fX7_count μ sp wt = ((fX7_onFelt μ sp)) := by simp only [fX7_count, if_pos c1_1]
    rw [hq]
    exact r_iret X w hr rfl dX7_count_84
  · by_cases c1_2 : wt = 1
    · refine lv_tableIn (off := 84) (tgt := 85) hx hb dX7_count_1 (by rw [c1_2]; decide) (by rw [c1_2]; decide) (by rw [c1_2]; rfl) (by decide) ?_
      refine lv_aload_n hx hb dX7_count_85 rfl (lv_at hl 0 rfl) ?_
      refine r_get X w CL7 0 (by decide) wf_X7_7 0 rfl rfl dX7_count_86 ?_
      refine lv_bipush (v := 12) hx hb dX7_count_89 (by decide) ?_
      refine r_ialdL X w 1 rfl (j := 12) rfl (vin_c rfl) dX7_count_91 ?_
      have hq : fX7_count μ sp wt = (μ 0 12) := by simp only [fX7_count, if_neg c1_1, if_pos c1_2]
      rw [hq]
      exact r_iret X w hr rfl dX7_count_92
    · by_cases c1_3 : wt = 2
      · refine lv_tableIn (off := 92) (tgt := 93) hx hb dX7_count_1 (by rw [c1_3]; decide) (by rw [c1_3]; decide) (by rw [c1_3]; rfl) (by decide) ?_
        refine lv_aload_n hx hb dX7_count_93 rfl (lv_at hl 0 rfl) ?_
        refine r_get X w CL7 0 (by decide) wf_X7_7 0 rfl rfl dX7_count_94 ?_
        refine lv_iconst (v := 4) hx hb dX7_count_97 (by decide) ?_
        refine r_ialdL X w 1 rfl (j := 4) rfl (vin_c rfl) dX7_count_98 ?_
        have hq : fX7_count μ sp wt = (μ 0 4) := by simp only [fX7_count, if_neg c1_1, if_neg c1_2, if_pos c1_3]
        rw [hq]
        exact r_iret X w hr rfl dX7_count_99
      · by_cases c1_4 : wt = 3
        · refine lv_tableIn (off := 99) (tgt := 100) hx hb dX7_count_1 (by rw [c1_4]; decide) (by rw [c1_4]; decide) (by rw [c1_4]; rfl) (by decide) ?_
          refine lv_aload_n hx hb dX7_count_100 rfl (lv_at hl 0 rfl) ?_
          refine r_get X w CL7 0 (by decide) wf_X7_7 0 rfl rfl dX7_count_101 ?_
          refine lv_bipush (v := 6) hx hb dX7_count_104 (by decide) ?_
          refine lv_iload_n hx hb dX7_count_106 rfl (lv_at hl 1 rfl) ?_
          refine lv_iadd hx hb dX7_count_107 ?_
          refine lv_iconst (v := 3) hx hb dX7_count_108 (by decide) ?_
          refine lv_isub hx hb dX7_count_109 ?_
          refine r_iald X w 1 rfl (by rw [c1_4]; exact vin_c rfl) dX7_count_110 ?_
          have hq : fX7_count μ sp wt = (μ 0 ((6 + wt) - 3).toNatClampNeg) := by simp only [fX7_count, if_neg c1_1, if_neg c1_2, if_neg c1_3, if_pos c1_4]
          rw [hq]
          exact r_iret X w hr rfl dX7_count_111
        · by_cases c1_5 : wt = 4
          · refine lv_tableIn (off := 99) (tgt := 100) hx hb dX7_count_1 (by rw [c1_5]; decide) (by rw [c1_5]; decide) (by rw [c1_5]; rfl) (by decide) ?_
            refine lv_aload_n hx hb dX7_count_100 rfl (lv_at hl 0 rfl) ?_
            refine r_get X w CL7 0 (by decide) wf_X7_7 0 rfl rfl dX7_count_101 ?_
            refine lv_bipush (v := 6) hx hb dX7_count_104 (by decide) ?_
            refine lv_iload_n hx hb dX7_count_106 rfl (lv_at hl 1 rfl) ?_
            refine lv_iadd hx hb dX7_count_107 ?_
            refine lv_iconst (v := 3) hx hb dX7_count_108 (by decide) ?_
            refine lv_isub hx hb dX7_count_109 ?_
            refine r_iald X w 1 rfl (by rw [c1_5]; exact vin_c rfl) dX7_count_110 ?_
            have hq : fX7_count μ sp wt = (μ 0 ((6 + wt) - 3).toNatClampNeg) := by simp only [fX7_count, if_neg c1_1, if_neg c1_2, if_neg c1_3, if_neg c1_4, if_pos c1_5]
            rw [hq]
            exact r_iret X w hr rfl dX7_count_111
          · by_cases c1_6 : wt = 5
            · refine lv_tableIn (off := 111) (tgt := 112) hx hb dX7_count_1 (by rw [c1_6]; decide) (by rw [c1_6]; decide) (by rw [c1_6]; rfl) (by decide) ?_
              refine lv_aload_n hx hb dX7_count_112 rfl (lv_at hl 0 rfl) ?_
              refine r_get X w CL7 0 (by decide) wf_X7_7 0 rfl rfl dX7_count_113 ?_
              refine lv_iconst (v := 5) hx hb dX7_count_116 (by decide) ?_
              refine r_ialdL X w 1 rfl (j := 5) rfl (vin_c rfl) dX7_count_117 ?_
              have hq : fX7_count μ sp wt = (μ 0 5) := by simp only [fX7_count, if_neg c1_1, if_neg c1_2, if_neg c1_3, if_neg c1_4, if_neg c1_5, if_pos c1_6]
              rw [hq]
              exact r_iret X w hr rfl dX7_count_118
            · by_cases c1_7 : wt = 6
              · refine lv_tableIn (off := 118) (tgt := 119) hx hb dX7_count_1 (by rw [c1_7]; decide) (by rw [c1_7]; decide) (by rw [c1_7]; rfl) (by decide) ?_
                refine lv_aload_n hx hb dX7_count_119 rfl (lv_at hl 0 rfl) ?_
                refine r_get X w CL7 0 (by decide) wf_X7_7 0 rfl rfl dX7_count_120 ?_
                refine lv_bipush (v := 8) hx hb dX7_count_123 (by decide) ?_
                refine lv_iload_n hx hb dX7_count_125 rfl (lv_at hl 1 rfl) ?_
                refine lv_iadd hx hb dX7_count_126 ?_
                refine lv_bipush (v := 6) hx hb dX7_count_127 (by decide) ?_
                refine lv_isub hx hb dX7_count_129 ?_
                refine r_iald X w 1 rfl (by rw [c1_7]; exact vin_c rfl) dX7_count_130 ?_
                have hq : fX7_count μ sp wt = (μ 0 ((8 + wt) - 6).toNatClampNeg) := by simp only [fX7_count, if_neg c1_1, if_neg c1_2, if_neg c1_3, if_neg c1_4, if_neg c1_5, if_neg c1_6, if_pos c1_7]
                rw [hq]
                exact r_iret X w hr rfl dX7_count_131
              · by_cases c1_8 : wt = 7
                · refine lv_tableIn (off := 118) (tgt := 119) hx hb dX7_count_1 (by rw [c1_8]; decide) (by rw [c1_8]; decide) (by rw [c1_8]; rfl) (by decide) ?_
                  refine lv_aload_n hx hb dX7_count_119 rfl (lv_at hl 0 rfl) ?_
                  refine r_get X w CL7 0 (by decide) wf_X7_7 0 rfl rfl dX7_count_120 ?_
                  refine lv_bipush (v := 8) hx hb dX7_count_123 (by decide) ?_
                  refine lv_iload_n hx hb dX7_count_125 rfl (lv_at hl 1 rfl) ?_
                  refine lv_iadd hx hb dX7_count_126 ?_
                  refine lv_bipush (v := 6) hx hb dX7_count_127 (by decide) ?_
                  refine lv_isub hx hb dX7_count_129 ?_
                  refine r_iald X w 1 rfl (by rw [c1_8]; exact vin_c rfl) dX7_count_130 ?_
                  have hq : fX7_count μ sp wt = (μ 0 ((8 + wt) - 6).toNatClampNeg) := by simp only [fX7_count, if_neg c1_1, if_neg c1_2, if_neg c1_3, if_neg c1_4, if_neg c1_5, if_neg c1_6, if_neg c1_7, if_pos c1_8]
                  rw [hq]
                  exact r_iret X w hr rfl dX7_count_131
                · by_cases c1_9 : wt = 8
                  · refine lv_tableIn (off := 118) (tgt := 119) hx hb dX7_count_1 (by rw [c1_9]; decide) (by rw [c1_9]; decide) (by rw [c1_9]; rfl) (by decide) ?_
                    refine lv_aload_n hx hb dX7_count_119 rfl (lv_at hl 0 rfl) ?_
                    refine r_get X w CL7 0 (by decide) wf_X7_7 0 rfl rfl dX7_count_120 ?_
                    refine lv_bipush (v := 8) hx hb dX7_count_123 (by decide) ?_
                    refine lv_iload_n hx hb dX7_count_125 rfl (lv_at hl 1 rfl) ?_
                    refine lv_iadd hx hb dX7_count_126 ?_
                    refine lv_bipush (v := 6) hx hb dX7_count_127 (by decide) ?_
                    refine lv_isub hx hb dX7_count_129 ?_
                    refine r_iald X w 1 rfl (by rw [c1_9]; exact vin_c rfl) dX7_count_130 ?_
                    have hq : fX7_count μ sp wt = (μ 0 ((8 + wt) - 6).toNatClampNeg) := by simp only [fX7_count, if_neg c1_1, if_neg c1_2, if_neg c1_3, if_neg c1_4, if_neg c1_5, if_neg c1_6, if_neg c1_7, if_neg c1_8, if_pos c1_9]
                    rw [hq]
                    exact r_iret X w hr rfl dX7_count_131
                  · by_cases c1_10 : wt = 9
                    · refine lv_tableIn (off := 118) (tgt := 119) hx hb dX7_count_1 (by rw [c1_10]; decide) (by rw [c1_10]; decide) (by rw [c1_10]; rfl) (by decide) ?_
                      refine lv_aload_n hx hb dX7_count_119 rfl (lv_at hl 0 rfl) ?_
                      refine r_get X w CL7 0 (by decide) wf_X7_7 0 rfl rfl dX7_count_120 ?_
                      refine lv_bipush (v := 8) hx hb dX7_count_123 (by decide) ?_
                      refine lv_iload_n hx hb dX7_count_125 rfl (lv_at hl 1 rfl) ?_
                      refine lv_iadd hx hb dX7_count_126 ?_
                      refine lv_bipush (v := 6) hx hb dX7_count_127 (by decide) ?_
                      refine lv_isub hx hb dX7_count_129 ?_
                      refine r_iald X w 1 rfl (by rw [c1_10]; exact vin_c rfl) dX7_count_130 ?_
                      have hq : fX7_count μ sp wt = (μ 0 ((8 + wt) - 6).toNatClampNeg) := by simp only [fX7_count, if_neg c1_1, if_neg c1_2, if_neg c1_3, if_neg c1_4, if_neg c1_5, if_neg c1_6, if_neg c1_7, if_neg c1_8, if_neg c1_9, if_pos c1_10]
                      rw [hq]
                      exact r_iret X w hr rfl dX7_count_131
                    · by_cases c1_11 : wt = 10
                      · refine lv_tableIn (off := 131) (tgt := 132) hx hb dX7_count_1 (by rw [c1_11]; decide) (by rw [c1_11]; decide) (by rw [c1_11]; rfl) (by decide) ?_
                        refine lv_aload_n hx hb dX7_count_132 rfl (lv_at hl 0 rfl) ?_
                        refine r_get X w CL7 0 (by decide) wf_X7_7 0 rfl rfl dX7_count_133 ?_
                        refine lv_iconst (v := 3) hx hb dX7_count_136 (by decide) ?_
                        refine r_ialdL X w 1 rfl (j := 3) rfl (vin_c rfl) dX7_count_137 ?_
                        have hq : fX7_count μ sp wt = (μ 0 3) := by simp only [fX7_count, if_neg c1_1, if_neg c1_2, if_neg c1_3, if_neg c1_4, if_neg c1_5, if_neg c1_6, if_neg c1_7, if_neg c1_8, if_neg c1_9, if_neg c1_10, if_pos c1_11]
                        rw [hq]
                        exact r_iret X w hr rfl dX7_count_138
                      · by_cases c1_12 : wt = 11
                        · refine lv_tableIn (off := 138) (tgt := 139) hx hb dX7_count_1 (by rw [c1_12]; decide) (by rw [c1_12]; decide) (by rw [c1_12]; rfl) (by decide) ?_
                          refine lv_aload_n hx hb dX7_count_139 rfl (lv_at hl 0 rfl) ?_
                          refine r_get X w CL7 0 (by decide) wf_X7_7 0 rfl rfl dX7_count_140 ?_
                          refine lv_iload_n hx hb dX7_count_143 rfl (lv_at hl 1 rfl) ?_
                          refine lv_bipush (v := 11) hx hb dX7_count_144 (by decide) ?_
                          refine lv_isub hx hb dX7_count_146 ?_
                          refine r_iald X w 1 rfl (by rw [c1_12]; exact vin_c rfl) dX7_count_147 ?_
                          have hq : fX7_count μ sp wt = (μ 0 (wt - 11).toNatClampNeg) := by simp only [fX7_count, if_neg c1_1, if_neg c1_2, if_neg c1_3, if_neg c1_4, if_neg c1_5, if_neg c1_6, if_neg c1_7, if_neg c1_8, if_neg c1_9, if_neg c1_10, if_neg c1_11, if_pos c1_12]
                          rw [hq]
                          exact r_iret X w hr rfl dX7_count_148
                        · by_cases c1_13 : wt = 12
                          · refine lv_tableIn (off := 138) (tgt := 139) hx hb dX7_count_1 (by rw [c1_13]; decide) (by rw [c1_13]; decide) (by rw [c1_13]; rfl) (by decide) ?_
                            refine lv_aload_n hx hb dX7_count_139 rfl (lv_at hl 0 rfl) ?_
                            refine r_get X w CL7 0 (by decide) wf_X7_7 0 rfl rfl dX7_count_140 ?_
                            refine lv_iload_n hx hb dX7_count_143 rfl (lv_at hl 1 rfl) ?_
                            refine lv_bipush (v := 11) hx hb dX7_count_144 (by decide) ?_
                            refine lv_isub hx hb dX7_count_146 ?_
                            refine r_iald X w 1 rfl (by rw [c1_13]; exact vin_c rfl) dX7_count_147 ?_
                            have hq : fX7_count μ sp wt = (μ 0 (wt - 11).toNatClampNeg) := by simp only [fX7_count, if_neg c1_1, if_neg c1_2, if_neg c1_3, if_neg c1_4, if_neg c1_5, if_neg c1_6, if_neg c1_7, if_neg c1_8, if_neg c1_9, if_neg c1_10, if_neg c1_11, if_neg c1_12, if_pos c1_13]
                            rw [hq]
                            exact r_iret X w hr rfl dX7_count_148
                          · by_cases c1_14 : wt = 13
                            · refine lv_tableIn (off := 138) (tgt := 139) hx hb dX7_count_1 (by rw [c1_14]; decide) (by rw [c1_14]; decide) (by rw [c1_14]; rfl) (by decide) ?_
                              refine lv_aload_n hx hb dX7_count_139 rfl (lv_at hl 0 rfl) ?_
                              refine r_get X w CL7 0 (by decide) wf_X7_7 0 rfl rfl dX7_count_140 ?_
                              refine lv_iload_n hx hb dX7_count_143 rfl (lv_at hl 1 rfl) ?_
                              refine lv_bipush (v := 11) hx hb dX7_count_144 (by decide) ?_
                              refine lv_isub hx hb dX7_count_146 ?_
                              refine r_iald X w 1 rfl (by rw [c1_14]; exact vin_c rfl) dX7_count_147 ?_
                              have hq : fX7_count μ sp wt = (μ 0 (wt - 11).toNatClampNeg) := by simp only [fX7_count, if_neg c1_1, if_neg c1_2, if_neg c1_3, if_neg c1_4, if_neg c1_5, if_neg c1_6, if_neg c1_7, if_neg c1_8, if_neg c1_9, if_neg c1_10, if_neg c1_11, if_neg c1_12, if_neg c1_13, if_pos c1_14]
                              rw [hq]
                              exact r_iret X w hr rfl dX7_count_148
                            · by_cases c1_15 : wt = 14
                              · refine lv_tableIn (off := 148) (tgt := 149) hx hb dX7_count_1 (by rw [c1_15]; decide) (by rw [c1_15]; decide) (by rw [c1_15]; rfl) (by decide) ?_
                                refine lv_aload_n hx hb dX7_count_149 rfl (lv_at hl 0 rfl) ?_
                                refine r_get X w CL7 4 (by decide) wf_X7_49 0 rfl rfl dX7_count_150 ?_
                                have hq : fX7_count μ sp wt = (μ 9 0) := by simp only [fX7_count, if_neg c1_1, if_neg c1_2, if_neg c1_3, if_neg c1_4, if_neg c1_5, if_neg c1_6, if_neg c1_7, if_neg c1_8, if_neg c1_9, if_neg c1_10, if_neg c1_11, if_neg c1_12, if_neg c1_13, if_neg c1_14, if_pos c1_15]
                                rw [hq]
                                exact r_iret X w hr rfl dX7_count_153
                              · by_cases c1_16 : wt = 15
                                · refine lv_tableIn (off := 153) (tgt := 154) hx hb dX7_count_1 (by rw [c1_16]; decide) (by rw [c1_16]; decide) (by rw [c1_16]; rfl) (by decide) ?_
                                  refine lv_aload_n hx hb dX7_count_154 rfl (lv_at hl 0 rfl) ?_
                                  refine r_get X w CL7 20 (by decide) wf_X7_170 0 rfl rfl dX7_count_155 ?_
                                  have hq : fX7_count μ sp wt = (μ 9 10) := by simp only [fX7_count, if_neg c1_1, if_neg c1_2, if_neg c1_3, if_neg c1_4, if_neg c1_5, if_neg c1_6, if_neg c1_7, if_neg c1_8, if_neg c1_9, if_neg c1_10, if_neg c1_11, if_neg c1_12, if_neg c1_13, if_neg c1_14, if_neg c1_15, if_pos c1_16]
                                  rw [hq]
                                  exact r_iret X w hr rfl dX7_count_158
                                · refine lv_tableOut (tgt := 159) hx hb dX7_count_1 (tab_out_15 c1_1 c1_2 c1_3 c1_4 c1_5 c1_6 c1_7 c1_8 c1_9 c1_10 c1_11 c1_12 c1_13 c1_14 c1_15 c1_16) (by decide) ?_
                                  refine lv_bipush (v := (-2)) hx hb dX7_count_159 (by decide) ?_
                                  have hq : fX7_count μ sp wt = ((-2)) := by simp only [fX7_count, if_neg c1_1, if_neg c1_2, if_neg c1_3, if_neg c1_4, if_neg c1_5, if_neg c1_6, if_neg c1_7, if_neg c1_8, if_neg c1_9, if_neg c1_10, if_neg c1_11, if_neg c1_12, if_neg c1_13, if_neg c1_14, if_neg c1_15, if_neg c1_16]
                                  rw [hq]
                                  exact r_iret X w hr rfl dX7_count_161
/-- a row of the history, brought back up to k -/
def udN (h r : N1) (b k : Nat) : N1 := fun j => if j < k then h (b + j) else r j
theorem udN_0 (μ : N2) (b : Nat) : va_up μ 0 (udN (μ 3) (μ 0) b 0) = μ := by
  funext i j
  by_cases h : i = 0
  · subst h; simp [va_up, udN]
  · simp [va_up, h]
theorem udN_succ (μ : N2) {q k : Nat} (hx : μ 9 0 = nI q) (hq : q ≤ 3) (hk : k < 73) : u2 (va_up μ 0 (udN (μ 3) (μ 0) (73 * q) k)) 0 (nI k).toNatClampNeg ((va_up μ 0 (udN (μ 3) (μ 0) (73 * q) k)) 3 ((73 * ((va_up μ 0 (udN (μ 3) (μ 0) (73 * q) k)) 9 0)) + nI k).toNatClampNeg) = va_up μ 0 (udN (μ 3) (μ 0) (73 * q) (k + 1)) := by
  have e2 : ((73 * ((va_up μ 0 (udN (μ 3) (μ 0) (73 * q) k)) 9 0)) + nI k).toNatClampNeg = 73 * q + k := (sv_ix (x := μ 9 0) hx hq hk).2
  rw [e2, nI_clamp (by omega)]
  funext i j
  by_cases h : i = 0
  · subst h
    show upd (udN (μ 3) (μ 0) (73 * q) k) k (μ 3 (73 * q + k)) j = udN (μ 3) (μ 0) (73 * q) (k + 1) j
    unfold upd udN
    by_cases h1 : j = k
    · subst h1; simp
    · by_cases h2 : j < k
      · rw [if_neg h1, if_pos h2, if_pos (by omega)]
      · rw [if_neg h1, if_neg h2, if_neg (by omega)]
  · simp [va_up, u2, h]
theorem gH.un {μ : N2} (h : gH μ) (h0 : ¬ μ 9 0 = 0) : ∃ q : Nat, q ≤ 3 ∧ μ 9 0 - 1 = nI q := by
  have h1 : ¬ (μ 9 0).toInt = 0 := ne_i h0
  obtain ⟨h2, h3⟩ := h
  have e1 : (1 : Int32).toInt = 1 := rfl
  refine ⟨((μ 9 0).toInt - 1).toNat, by omega, ?_⟩
  apply Int32.toInt_inj.mp
  rw [nI_toInt (by omega), ti_sub (by omega) (by omega), e1]
  omega
/-- one state fewer, and the rows of the latest -/
def udS (μ : N2) : N2 := va_up (u2 μ 9 0 (μ 9 0 - 1)) 0 (udN (μ 3) (μ 0) (73 * (μ 9 0 - 1).toNatClampNeg) 73)
def fX7_undo (μ : N2) (sp : UInt32) : Int32 × N2 := if μ 9 0 = 0 then ((-5), μ) else (μ 9 0 - 1, udS μ)
theorem dX7_undo_0 : decode cX7_undo 0 = .ok (.aload_n 0, 1) := by decide +kernel
theorem dX7_undo_1 : decode cX7_undo 1 = .ok (.getfield 49, 3) := by decide +kernel
theorem dX7_undo_4 : decode cX7_undo 4 = .ok (.ifCond .ne 6, 3) := by decide +kernel
theorem dX7_undo_7 : decode cX7_undo 7 = .ok (.bipush (-5), 2) := by decide +kernel
theorem dX7_undo_9 : decode cX7_undo 9 = .ok (.ireturn, 1) := by decide +kernel
theorem dX7_undo_10 : decode cX7_undo 10 = .ok (.aload_n 0, 1) := by decide +kernel
theorem dX7_undo_11 : decode cX7_undo 11 = .ok (.dup, 1) := by decide +kernel
theorem dX7_undo_12 : decode cX7_undo 12 = .ok (.getfield 49, 3) := by decide +kernel
theorem dX7_undo_15 : decode cX7_undo 15 = .ok (.iconst 1, 1) := by decide +kernel
theorem dX7_undo_16 : decode cX7_undo 16 = .ok (.isub, 1) := by decide +kernel
theorem dX7_undo_17 : decode cX7_undo 17 = .ok (.putfield 49, 3) := by decide +kernel
theorem dX7_undo_20 : decode cX7_undo 20 = .ok (.iconst 0, 1) := by decide +kernel
theorem dX7_undo_21 : decode cX7_undo 21 = .ok (.istore_n 1, 1) := by decide +kernel
theorem dX7_undo_22 : decode cX7_undo 22 = .ok (.iload_n 1, 1) := by decide +kernel
theorem dX7_undo_23 : decode cX7_undo 23 = .ok (.bipush 73, 2) := by decide +kernel
theorem dX7_undo_25 : decode cX7_undo 25 = .ok (.if_icmp .ge 29, 3) := by decide +kernel
theorem dX7_undo_28 : decode cX7_undo 28 = .ok (.aload_n 0, 1) := by decide +kernel
theorem dX7_undo_29 : decode cX7_undo 29 = .ok (.getfield 7, 3) := by decide +kernel
theorem dX7_undo_32 : decode cX7_undo 32 = .ok (.iload_n 1, 1) := by decide +kernel
theorem dX7_undo_33 : decode cX7_undo 33 = .ok (.aload_n 0, 1) := by decide +kernel
theorem dX7_undo_34 : decode cX7_undo 34 = .ok (.getfield 19, 3) := by decide +kernel
theorem dX7_undo_37 : decode cX7_undo 37 = .ok (.bipush 73, 2) := by decide +kernel
theorem dX7_undo_39 : decode cX7_undo 39 = .ok (.aload_n 0, 1) := by decide +kernel
theorem dX7_undo_40 : decode cX7_undo 40 = .ok (.getfield 49, 3) := by decide +kernel
theorem dX7_undo_43 : decode cX7_undo 43 = .ok (.imul, 1) := by decide +kernel
theorem dX7_undo_44 : decode cX7_undo 44 = .ok (.iload_n 1, 1) := by decide +kernel
theorem dX7_undo_45 : decode cX7_undo 45 = .ok (.iadd, 1) := by decide +kernel
theorem dX7_undo_46 : decode cX7_undo 46 = .ok (.iaload, 1) := by decide +kernel
theorem dX7_undo_47 : decode cX7_undo 47 = .ok (.iastore, 1) := by decide +kernel
theorem dX7_undo_48 : decode cX7_undo 48 = .ok (.iinc 1 1, 3) := by decide +kernel
theorem dX7_undo_51 : decode cX7_undo 51 = .ok (.goto (-29), 3) := by decide +kernel
theorem dX7_undo_54 : decode cX7_undo 54 = .ok (.aload_n 0, 1) := by decide +kernel
theorem dX7_undo_55 : decode cX7_undo 55 = .ok (.getfield 49, 3) := by decide +kernel
theorem dX7_undo_58 : decode cX7_undo 58 = .ok (.ireturn, 1) := by decide +kernel
set_option maxHeartbeats 4000000 in
set_option maxRecDepth 100000 in
theorem kX7_undo (l : Launch) (E : Ev) (a : Nat → Nat) (μ : N2) (sp : UInt32) (hH : gH μ) : KQ l yX7_undo cX7_undo 2 (some .int) 0 0 E [.ref (a 0)] (wMd E a μ sp) (QI E (wMd E a μ sp) (fX7_undo μ sp).1 (wMd E a ((fX7_undo μ sp).2) sp)) := by
  refine KQ.mk RX7 rfl (by decide +kernel) (Nat.le_of_ble_eq_true rfl) ?_
  intro p e s m below meth c ls X hr w hl
  have hx := X.1
  have hb := X.2.1
  have hl : lv_has ls 2 [(0, .ref (a 0))] := hl
  refine lv_aload_n hx hb dX7_undo_0 rfl (lv_at hl 0 rfl) ?_
  refine r_get X w CL7 4 (by decide) wf_X7_49 0 rfl rfl dX7_undo_1 ?_
  refine lv_if_ne (tgt := 10) hx hb dX7_undo_4 (by decide) (fun c4_1 => ?_) (fun c4_1 => ?_)
  · refine lv_aload_n hx hb dX7_undo_10 rfl (lv_at hl 0 rfl) ?_
    refine lv_dup hx hb dX7_undo_11 rfl ?_
    refine r_get X w CL7 4 (by decide) wf_X7_49 0 rfl rfl dX7_undo_12 ?_
    refine lv_iconst (v := 1) hx hb dX7_undo_15 (by decide) ?_
    refine lv_isub hx hb dX7_undo_16 ?_
    refine r_put X w (wMd E a (u2 μ 9 0 ((μ 9 0) - 1)) sp) CL7 4 (by decide) wf_X7_49 0 rfl rfl rfl rfl (Nat.le_of_ble_eq_true rfl) (ax_83 (E := E)) dX7_undo_17 (fun H locs w => ?_)
    refine lv_iconst (v := 0) hx hb dX7_undo_20 (by decide) ?_
    refine lv_istore_n (lv' := [(1, .int 0), (0, .ref (a 0))]) hx hb dX7_undo_21 rfl hl (by decide) rfl (fun ls hl => ?_)
    obtain ⟨q, hq3, hq⟩ := hH.un c4_1
    obtain ⟨μ1, hμ⟩ : ∃ μ1 : N2, μ1 = u2 μ 9 0 (μ 9 0 - 1) := ⟨_, rfl⟩
    have hq1 : μ1 9 0 = nI q := by rw [hμ]; exact hq
    have w := w.cw (show wMd E a μ1 sp = wMd E a (u2 μ 9 0 ((μ 9 0) - 1)) sp by rw [hμ])
    have w := w.cw (show wMd E a (va_up μ1 0 (udN (μ1 3) (μ1 0) (73 * q) 0)) sp = wMd E a μ1 sp by rw [udN_0])
    have loop2 : ∀ (n2 k2 : Nat), k2 + n2 = 73 → ∀ (H : Heap) (locs : List Loc), Wd E (hB (wMd E a μ sp)) s (wMd E a (va_up μ1 0 (udN (μ1 3) (μ1 0) (73 * q) k2)) sp) H locs → ∀ (ls : Array Slot), lv_has ls 2 [(1, .int (nI k2)), (0, .ref (a 0))] → W p l e { frames := 0, cells := 0, slots := 0, locals := 0 } s m (([.ref (a 0)] : List Value)).toArray below meth c H locs 0 0 (MQ below (QI E (wMd E a μ sp) (fX7_undo μ sp).1 (wMd E a ((fX7_undo μ sp).2) sp)) (([.ref (a 0)] : List Value)).toArray s 0 0 (hB (wMd E a μ sp))) (F0 m 22 ls []) := by
      intro n2
      induction n2 with
      | zero =>
        intro k2 hk_k2 H locs w ls hl
        obtain rfl : k2 = 73 := by omega
        refine lv_iload_n hx hb dX7_undo_22 rfl (lv_at hl 0 rfl) ?_
        refine lv_bipush (v := 73) hx hb dX7_undo_23 (by decide) ?_
        refine lv_icmp_ge (tgt := 54) hx hb dX7_undo_25 (by decide) (fun _ => ?_) (fun h => absurd (by decide : (73 : Int32) ≤ nI 73) h)
        refine lv_aload_n hx hb dX7_undo_54 rfl (lv_at hl 1 rfl) ?_
        refine r_get X w CL7 4 (by decide) wf_X7_49 0 rfl rfl dX7_undo_55 ?_
        have hq : fX7_undo μ sp = ((va_up μ1 0 (udN (μ1 3) (μ1 0) (73 * q) 73)) 9 0, va_up μ1 0 (udN (μ1 3) (μ1 0) (73 * q) 73)) := by unfold fX7_undo; rw [if_neg c4_1]; subst hμ; show (μ 9 0 - 1, udS μ) = (μ 9 0 - 1, va_up (u2 μ 9 0 (μ 9 0 - 1)) 0 (udN (μ 3) (μ 0) (73 * q) 73)); unfold udS; rw [show (μ 9 0 - 1).toNatClampNeg = q by rw [hq, nI_clamp (by omega)]]
        obtain ⟨h0_, h1_⟩ := tup2 hq
        rw [h0_, h1_]
        exact r_iret X w hr rfl dX7_undo_58
      | succ n2 ih2 =>
        intro k2 hk_k2 H locs w ls hl
        have hkNn2 : k2 < 73 := by omega
        refine lv_iload_n hx hb dX7_undo_22 rfl (lv_at hl 0 rfl) ?_
        refine lv_bipush (v := 73) hx hb dX7_undo_23 (by decide) ?_
        refine lv_icmp_ge (tgt := 54) hx hb dX7_undo_25 (by decide) (fun h => absurd h (nI_ge (b := 73) hkNn2 (by decide))) (fun _ => ?_)
        refine lv_aload_n hx hb dX7_undo_28 rfl (lv_at hl 1 rfl) ?_
        refine r_get X w CL7 0 (by decide) wf_X7_7 0 rfl rfl dX7_undo_29 ?_
        refine lv_iload_n hx hb dX7_undo_32 rfl (lv_at hl 0 rfl) ?_
        refine lv_aload_n hx hb dX7_undo_33 rfl (lv_at hl 1 rfl) ?_
        refine r_get X w CL7 3 (by decide) wf_X7_19 0 rfl rfl dX7_undo_34 ?_
        refine lv_bipush (v := 73) hx hb dX7_undo_37 (by decide) ?_
        refine lv_aload_n hx hb dX7_undo_39 rfl (lv_at hl 1 rfl) ?_
        refine r_get X w CL7 4 (by decide) wf_X7_49 0 rfl rfl dX7_undo_40 ?_
        refine lv_imul hx hb dX7_undo_43 ?_
        refine lv_iload_n hx hb dX7_undo_44 rfl (lv_at hl 0 rfl) ?_
        refine lv_iadd hx hb dX7_undo_45 ?_
        refine r_iald X w 4 rfl (sv_ix (x := μ1 9 0) hq1 hq3 hkNn2).1 dX7_undo_46 ?_
        refine r_iast X w (wMd E a (u2 (va_up μ1 0 (udN (μ1 3) (μ1 0) (73 * q) k2)) 0 (nI k2).toNatClampNeg ((va_up μ1 0 (udN (μ1 3) (μ1 0) (73 * q) k2)) 3 ((73 * ((va_up μ1 0 (udN (μ1 3) (μ1 0) (73 * q) k2)) 9 0)) + (nI k2)).toNatClampNeg)) sp) 1 rfl (vp_in_nI hkNn2 (by decide)) (ax_82 (E := E)) dX7_undo_47 (fun H locs w => ?_)
        refine lv_iinc (v := (nI k2) + 1) (lv' := [(1, .int ((nI k2) + 1)), (0, .ref (a 0))]) hx hb dX7_undo_48 hl (k := 0) rfl (by first | rfl | decide) (by decide) rfl (fun ls hl => ?_)
        refine lv_goto (tgt := 22) hx hb dX7_undo_51 (by decide) ?_
        have e0 : nI k2 + 1 = nI (k2 + 1) := nI_1 k2
        rw [e0] at hl
        rw [udN_succ μ1 hq1 hq3 hkNn2] at w
        exact ih2 (k2 + 1) (by omega) _ _ w ls (lv_sub hl [0, 1] rfl)
    exact loop2 73 0 (by omega) _ _ w ls (lv_sub hl [0, 1] rfl)
  · refine lv_bipush (v := (-5)) hx hb dX7_undo_7 (by decide) ?_
    have hq : fX7_undo μ sp = ((-5), μ) := by simp only [fX7_undo, if_pos c4_1]
    obtain ⟨h0_, h1_⟩ := tup2 hq
    rw [h0_, h1_]
    exact r_iret X w hr rfl dX7_undo_9
