/-! the reference: its face with shots and texts (printed by wip/whole/gen/p18.py) -/
theorem gA.cell {f : N1} {bl : Int32} (hA : gA f) (hb : vp_in bl 12) (h : ¬ f (13 + bl).toNatClampNeg = (-5)) : vp_in (f (13 + bl).toNatClampNeg) 61 := by
  obtain ⟨k, hk, rfl⟩ := vin_cases hb
  have e : (13 + Int32.ofNat k).toNatClampNeg = 13 + k := (row_ix ⟨k, hk⟩).1
  rw [e] at h ⊢
  exact (hA.2.1 k hk).resolve_right h
theorem strk_ok {sg sn : Int32} (h : ¬ fX7_isStroke sg sn = 0) : 10 ≤ sg.toInt ∧ sg.toInt ≤ 999 := by
  unfold fX7_isStroke at h
  split at h
  · exact absurd rfl h
  · rename_i h1
    rw [in_iff] at h1
    have e0 : (10 : Int64).toInt = 10 := rfl
    have e1 : (999 : Int64).toInt = 999 := rfl
    omega
theorem shot_ok {di sg sn : Int32} (h : ¬ fX7_isShot di sg sn = 0) : vp_in di 6 ∧ 10 ≤ sg.toInt ∧ sg.toInt ≤ 999 := by
  unfold fX7_isShot at h
  split at h
  · exact absurd rfl h
  · rename_i h1
    split at h
    · exact absurd rfl h
    · rename_i h2
      refine ⟨?_, strk_ok h2⟩
      rw [in_iff] at h1
      have e0 : (0 : Int64).toInt = 0 := rfl
      have e1 : (5 : Int64).toInt = 5 := rfl
      rw [vp_in_iff]
      omega
def fX7_would (μ : N2) (sp : UInt32) (bl : Int32) (di : Int32) (sg : Int32) (sn : Int32) (wh : Int32) : Int32 × N2 × UInt32 := if (fX7_isBall μ sp bl) = 0 then (((-1), μ, sp)) else (if (fX7_isShot di sg sn) = 0 then (((-2), μ, sp)) else (if (fX7_in wh.toInt64 0 5) = 0 then (((-2), μ, sp)) else (if wh = 0 then (((va_up ((fX7_shot (va_up μ 2 (fX7_copy (μ 0) (μ 2))) sp bl di sg sn).2.1) 0 (fX7_copy (((fX7_shot (va_up μ 2 (fX7_copy (μ 0) (μ 2))) sp bl di sg sn).2.1) 2) (((fX7_shot (va_up μ 2 (fX7_copy (μ 0) (μ 2))) sp bl di sg sn).2.1) 0))) 9 7, va_up ((fX7_shot (va_up μ 2 (fX7_copy (μ 0) (μ 2))) sp bl di sg sn).2.1) 0 (fX7_copy (((fX7_shot (va_up μ 2 (fX7_copy (μ 0) (μ 2))) sp bl di sg sn).2.1) 2) (((fX7_shot (va_up μ 2 (fX7_copy (μ 0) (μ 2))) sp bl di sg sn).2.1) 0)), (fX7_shot (va_up μ 2 (fX7_copy (μ 0) (μ 2))) sp bl di sg sn).2.2)) else (if wh = 1 then (((va_up ((fX7_shot (va_up μ 2 (fX7_copy (μ 0) (μ 2))) sp bl di sg sn).2.1) 0 (fX7_copy (((fX7_shot (va_up μ 2 (fX7_copy (μ 0) (μ 2))) sp bl di sg sn).2.1) 2) (((fX7_shot (va_up μ 2 (fX7_copy (μ 0) (μ 2))) sp bl di sg sn).2.1) 0))) 9 8, va_up ((fX7_shot (va_up μ 2 (fX7_copy (μ 0) (μ 2))) sp bl di sg sn).2.1) 0 (fX7_copy (((fX7_shot (va_up μ 2 (fX7_copy (μ 0) (μ 2))) sp bl di sg sn).2.1) 2) (((fX7_shot (va_up μ 2 (fX7_copy (μ 0) (μ 2))) sp bl di sg sn).2.1) 0)), (fX7_shot (va_up μ 2 (fX7_copy (μ 0) (μ 2))) sp bl di sg sn).2.2)) else (if wh = 2 then (((va_up ((fX7_shot (va_up μ 2 (fX7_copy (μ 0) (μ 2))) sp bl di sg sn).2.1) 0 (fX7_copy (((fX7_shot (va_up μ 2 (fX7_copy (μ 0) (μ 2))) sp bl di sg sn).2.1) 2) (((fX7_shot (va_up μ 2 (fX7_copy (μ 0) (μ 2))) sp bl di sg sn).2.1) 0))) 9 9, va_up ((fX7_shot (va_up μ 2 (fX7_copy (μ 0) (μ 2))) sp bl di sg sn).2.1) 0 (fX7_copy (((fX7_shot (va_up μ 2 (fX7_copy (μ 0) (μ 2))) sp bl di sg sn).2.1) 2) (((fX7_shot (va_up μ 2 (fX7_copy (μ 0) (μ 2))) sp bl di sg sn).2.1) 0)), (fX7_shot (va_up μ 2 (fX7_copy (μ 0) (μ 2))) sp bl di sg sn).2.2)) else (if wh = 3 then (((va_up ((fX7_shot (va_up μ 2 (fX7_copy (μ 0) (μ 2))) sp bl di sg sn).2.1) 0 (fX7_copy (((fX7_shot (va_up μ 2 (fX7_copy (μ 0) (μ 2))) sp bl di sg sn).2.1) 2) (((fX7_shot (va_up μ 2 (fX7_copy (μ 0) (μ 2))) sp bl di sg sn).2.1) 0))) 9 6, va_up ((fX7_shot (va_up μ 2 (fX7_copy (μ 0) (μ 2))) sp bl di sg sn).2.1) 0 (fX7_copy (((fX7_shot (va_up μ 2 (fX7_copy (μ 0) (μ 2))) sp bl di sg sn).2.1) 2) (((fX7_shot (va_up μ 2 (fX7_copy (μ 0) (μ 2))) sp bl di sg sn).2.1) 0)), (fX7_shot (va_up μ 2 (fX7_copy (μ 0) (μ 2))) sp bl di sg sn).2.2)) else (if wh = 4 then ((((fX7_shot (va_up μ 2 (fX7_copy (μ 0) (μ 2))) sp bl di sg sn).2.1) 0 (13 + bl).toNatClampNeg, va_up ((fX7_shot (va_up μ 2 (fX7_copy (μ 0) (μ 2))) sp bl di sg sn).2.1) 0 (fX7_copy (((fX7_shot (va_up μ 2 (fX7_copy (μ 0) (μ 2))) sp bl di sg sn).2.1) 2) (((fX7_shot (va_up μ 2 (fX7_copy (μ 0) (μ 2))) sp bl di sg sn).2.1) 0)), (fX7_shot (va_up μ 2 (fX7_copy (μ 0) (μ 2))) sp bl di sg sn).2.2)) else (((va_up ((fX7_shot (va_up μ 2 (fX7_copy (μ 0) (μ 2))) sp bl di sg sn).2.1) 0 (fX7_copy (((fX7_shot (va_up μ 2 (fX7_copy (μ 0) (μ 2))) sp bl di sg sn).2.1) 2) (((fX7_shot (va_up μ 2 (fX7_copy (μ 0) (μ 2))) sp bl di sg sn).2.1) 0))) 9 2, va_up ((fX7_shot (va_up μ 2 (fX7_copy (μ 0) (μ 2))) sp bl di sg sn).2.1) 0 (fX7_copy (((fX7_shot (va_up μ 2 (fX7_copy (μ 0) (μ 2))) sp bl di sg sn).2.1) 2) (((fX7_shot (va_up μ 2 (fX7_copy (μ 0) (μ 2))) sp bl di sg sn).2.1) 0)), (fX7_shot (va_up μ 2 (fX7_copy (μ 0) (μ 2))) sp bl di sg sn).2.2)))))))))
theorem dX7_would_0 : decode cX7_would 0 = .ok (.aload_n 0, 1) := by decide +kernel
theorem dX7_would_1 : decode cX7_would 1 = .ok (.iload_n 1, 1) := by decide +kernel
theorem dX7_would_2 : decode cX7_would 2 = .ok (.invokevirtual 145, 3) := by decide +kernel
theorem dX7_would_5 : decode cX7_would 5 = .ok (.ifCond .ne 5, 3) := by decide +kernel
theorem dX7_would_8 : decode cX7_would 8 = .ok (.iconst (-1), 1) := by decide +kernel
theorem dX7_would_9 : decode cX7_would 9 = .ok (.ireturn, 1) := by decide +kernel
theorem dX7_would_10 : decode cX7_would 10 = .ok (.iload_n 2, 1) := by decide +kernel
theorem dX7_would_11 : decode cX7_would 11 = .ok (.iload_n 3, 1) := by decide +kernel
theorem dX7_would_12 : decode cX7_would 12 = .ok (.iload 4, 2) := by decide +kernel
theorem dX7_would_14 : decode cX7_would 14 = .ok (.invokestatic 159, 3) := by decide +kernel
theorem dX7_would_17 : decode cX7_would 17 = .ok (.ifCond .eq 16, 3) := by decide +kernel
theorem dX7_would_20 : decode cX7_would 20 = .ok (.iload 5, 2) := by decide +kernel
theorem dX7_would_22 : decode cX7_would 22 = .ok (.i2l, 1) := by decide +kernel
theorem dX7_would_23 : decode cX7_would 23 = .ok (.lconst 0, 1) := by decide +kernel
theorem dX7_would_24 : decode cX7_would 24 = .ok (.ldc2_w 118, 3) := by decide +kernel
theorem dX7_would_27 : decode cX7_would 27 = .ok (.invokestatic 41, 3) := by decide +kernel
theorem dX7_would_30 : decode cX7_would 30 = .ok (.ifCond .ne 6, 3) := by decide +kernel
theorem dX7_would_33 : decode cX7_would 33 = .ok (.bipush (-2), 2) := by decide +kernel
theorem dX7_would_35 : decode cX7_would 35 = .ok (.ireturn, 1) := by decide +kernel
theorem dX7_would_36 : decode cX7_would 36 = .ok (.aload_n 0, 1) := by decide +kernel
theorem dX7_would_37 : decode cX7_would 37 = .ok (.getfield 7, 3) := by decide +kernel
theorem dX7_would_40 : decode cX7_would 40 = .ok (.aload_n 0, 1) := by decide +kernel
theorem dX7_would_41 : decode cX7_would 41 = .ok (.getfield 16, 3) := by decide +kernel
theorem dX7_would_44 : decode cX7_would 44 = .ok (.invokestatic 45, 3) := by decide +kernel
theorem dX7_would_47 : decode cX7_would 47 = .ok (.aload_n 0, 1) := by decide +kernel
theorem dX7_would_48 : decode cX7_would 48 = .ok (.iload_n 1, 1) := by decide +kernel
theorem dX7_would_49 : decode cX7_would 49 = .ok (.iload_n 2, 1) := by decide +kernel
theorem dX7_would_50 : decode cX7_would 50 = .ok (.iload_n 3, 1) := by decide +kernel
theorem dX7_would_51 : decode cX7_would 51 = .ok (.iload 4, 2) := by decide +kernel
theorem dX7_would_53 : decode cX7_would 53 = .ok (.invokevirtual 163, 3) := by decide +kernel
theorem dX7_would_56 : decode cX7_would 56 = .ok (.istore 6, 2) := by decide +kernel
theorem dX7_would_58 : decode cX7_would 58 = .ok (.aload_n 0, 1) := by decide +kernel
theorem dX7_would_59 : decode cX7_would 59 = .ok (.getfield 7, 3) := by decide +kernel
theorem dX7_would_62 : decode cX7_would 62 = .ok (.bipush 13, 2) := by decide +kernel
theorem dX7_would_64 : decode cX7_would 64 = .ok (.iload_n 1, 1) := by decide +kernel
theorem dX7_would_65 : decode cX7_would 65 = .ok (.iadd, 1) := by decide +kernel
theorem dX7_would_66 : decode cX7_would 66 = .ok (.iaload, 1) := by decide +kernel
theorem dX7_would_67 : decode cX7_would 67 = .ok (.istore 7, 2) := by decide +kernel
theorem dX7_would_69 : decode cX7_would 69 = .ok (.aload_n 0, 1) := by decide +kernel
theorem dX7_would_70 : decode cX7_would 70 = .ok (.getfield 16, 3) := by decide +kernel
theorem dX7_would_73 : decode cX7_would 73 = .ok (.aload_n 0, 1) := by decide +kernel
theorem dX7_would_74 : decode cX7_would 74 = .ok (.getfield 7, 3) := by decide +kernel
theorem dX7_would_77 : decode cX7_would 77 = .ok (.invokestatic 45, 3) := by decide +kernel
theorem dX7_would_80 : decode cX7_would 80 = .ok (.iload 5, 2) := by decide +kernel
theorem dX7_would_82 : decode cX7_would 82 = .ok (.ifCond .ne 10, 3) := by decide +kernel
theorem dX7_would_85 : decode cX7_would 85 = .ok (.aload_n 0, 1) := by decide +kernel
theorem dX7_would_86 : decode cX7_would 86 = .ok (.getfield 95, 3) := by decide +kernel
theorem dX7_would_89 : decode cX7_would 89 = .ok (.goto 57, 3) := by decide +kernel
theorem dX7_would_92 : decode cX7_would 92 = .ok (.iload 5, 2) := by decide +kernel
theorem dX7_would_94 : decode cX7_would 94 = .ok (.iconst 1, 1) := by decide +kernel
theorem dX7_would_95 : decode cX7_would 95 = .ok (.if_icmp .ne 10, 3) := by decide +kernel
theorem dX7_would_98 : decode cX7_would 98 = .ok (.aload_n 0, 1) := by decide +kernel
theorem dX7_would_99 : decode cX7_would 99 = .ok (.getfield 89, 3) := by decide +kernel
theorem dX7_would_102 : decode cX7_would 102 = .ok (.goto 44, 3) := by decide +kernel
theorem dX7_would_105 : decode cX7_would 105 = .ok (.iload 5, 2) := by decide +kernel
theorem dX7_would_107 : decode cX7_would 107 = .ok (.iconst 2, 1) := by decide +kernel
theorem dX7_would_108 : decode cX7_would 108 = .ok (.if_icmp .ne 10, 3) := by decide +kernel
theorem dX7_would_111 : decode cX7_would 111 = .ok (.aload_n 0, 1) := by decide +kernel
theorem dX7_would_112 : decode cX7_would 112 = .ok (.getfield 92, 3) := by decide +kernel
theorem dX7_would_115 : decode cX7_would 115 = .ok (.goto 31, 3) := by decide +kernel
theorem dX7_would_118 : decode cX7_would 118 = .ok (.iload 5, 2) := by decide +kernel
theorem dX7_would_120 : decode cX7_would 120 = .ok (.iconst 3, 1) := by decide +kernel
theorem dX7_would_121 : decode cX7_would 121 = .ok (.if_icmp .ne 10, 3) := by decide +kernel
theorem dX7_would_124 : decode cX7_would 124 = .ok (.aload_n 0, 1) := by decide +kernel
theorem dX7_would_125 : decode cX7_would 125 = .ok (.getfield 101, 3) := by decide +kernel
theorem dX7_would_128 : decode cX7_would 128 = .ok (.goto 18, 3) := by decide +kernel
theorem dX7_would_131 : decode cX7_would 131 = .ok (.iload 5, 2) := by decide +kernel
theorem dX7_would_133 : decode cX7_would 133 = .ok (.iconst 4, 1) := by decide +kernel
theorem dX7_would_134 : decode cX7_would 134 = .ok (.if_icmp .ne 8, 3) := by decide +kernel
theorem dX7_would_137 : decode cX7_would 137 = .ok (.iload 7, 2) := by decide +kernel
theorem dX7_would_139 : decode cX7_would 139 = .ok (.goto 7, 3) := by decide +kernel
theorem dX7_would_142 : decode cX7_would 142 = .ok (.aload_n 0, 1) := by decide +kernel
theorem dX7_would_143 : decode cX7_would 143 = .ok (.getfield 71, 3) := by decide +kernel
theorem dX7_would_146 : decode cX7_would 146 = .ok (.ireturn, 1) := by decide +kernel
theorem ck_X7_159 : CkS RX7 159 yX7_isShot cX7_isShot 3 (some .boolean) 3 := ⟨wm_X7_159, wst_yX7_isShot, wi_X7, wc_yX7_isShot, by decide +kernel⟩
theorem ck_X7_163 : CkV RX7 163 RX7 yX7_shot cX7_shot 7 (some .int) 4 := ⟨wm_X7_163, wim_yX7_shot, wse_yX7_shot, wi_X7, wc_yX7_shot, by decide +kernel⟩
theorem hc_101 {E : Ev} {a0 : Nat → Nat} {σ0 : N2} {v0 : UInt32} : ([1, 3] : List Nat).map (fun i => (wMd E a0 σ0 v0)[i]?) = (wAr E (a0 1) 73 (σ0 0) ++ wAr E (a0 3) 73 (σ0 2)).map some := rfl
theorem ha_101 {E : Ev} {a0 : Nat → Nat} {σ0 : N2}  {τ1 : N1} : (wAr E (a0 1) 73 (σ0 0) ++ wAr E (a0 3) 73 τ1).map Prod.fst = (wAr E (a0 1) 73 (σ0 0) ++ wAr E (a0 3) 73 (σ0 2)).map Prod.fst := rfl
theorem hw_101 {E : Ev} {a0 : Nat → Nat} {σ0 : N2} {v0 : UInt32}  {τ1 : N1} : wput (wMd E a0 σ0 v0) [1, 3] (wAr E (a0 1) 73 (σ0 0) ++ wAr E (a0 3) 73 τ1) = wMd E a0 (va_up σ0 2 τ1) v0 := rfl
theorem hc_102 {E : Ev} {a0 : Nat → Nat} {σ0 : N2} {v0 : UInt32} : ([3, 1] : List Nat).map (fun i => (wMd E a0 σ0 v0)[i]?) = (wAr E (a0 3) 73 (σ0 2) ++ wAr E (a0 1) 73 (σ0 0)).map some := rfl
theorem ha_102 {E : Ev} {a0 : Nat → Nat} {σ0 : N2}  {τ1 : N1} : (wAr E (a0 3) 73 (σ0 2) ++ wAr E (a0 1) 73 τ1).map Prod.fst = (wAr E (a0 3) 73 (σ0 2) ++ wAr E (a0 1) 73 (σ0 0)).map Prod.fst := rfl
theorem hw_102 {E : Ev} {a0 : Nat → Nat} {σ0 : N2} {v0 : UInt32}  {τ1 : N1} : wput (wMd E a0 σ0 v0) [3, 1] (wAr E (a0 3) 73 (σ0 2) ++ wAr E (a0 1) 73 τ1) = wMd E a0 (va_up σ0 0 τ1) v0 := rfl
set_option maxHeartbeats 4000000 in
set_option maxRecDepth 100000 in
theorem kX7_would (l : Launch) (E : Ev) (a : Nat → Nat) (μ : N2) (sp : UInt32) (bl : Int32) (di : Int32) (sg : Int32) (sn : Int32) (wh : Int32) (hev : gE μ) (hA : gA (μ 0)) (hTb : gTab μ) : KQ l yX7_would cX7_would 8 (some .int) 5 116 E [.ref (a 0), .int bl, .int di, .int sg, .int sn, .int wh] (wMd E a μ sp) (QI E (wMd E a μ sp) (fX7_would μ sp bl di sg sn wh).1 (wMd E a ((fX7_would μ sp bl di sg sn wh).2.1) ((fX7_would μ sp bl di sg sn wh).2.2))) := by
  refine KQ.mk RX7 rfl (by decide +kernel) (Nat.le_of_ble_eq_true rfl) ?_
  intro p e s m below meth c ls X hr w hl
  have hx := X.1
  have hb := X.2.1
  have hl : lv_has ls 8 [(0, .ref (a 0)), (1, .int bl), (2, .int di), (3, .int sg), (4, .int sn), (5, .int wh)] := hl
  refine lv_aload_n hx hb dX7_would_0 rfl (lv_at hl 0 rfl) ?_
  refine lv_iload_n hx hb dX7_would_1 rfl (lv_at hl 1 rfl) ?_
  refine r_ci w (r_runV (As := [.int bl]) (rest := []) X w (kX7_isBall l E a μ sp bl hev.le) ck_X7_145 ⟨Nat.le_of_ble_eq_true rfl, Nat.le_of_ble_eq_true rfl⟩ [0, 1, 2, 3, 4, 5, 6, 7, 8, 9] (hc_81 (E := E)) (by decide +kernel) (k0 := 0) CL7 rfl hl.1 (Nat.le_of_ble_eq_true rfl) rfl dX7_would_2 ⟨Nat.le_of_ble_eq_true rfl, Nat.le_of_ble_eq_true rfl⟩) (wMd E a μ sp) [0, 1, 2, 3, 4, 5, 6, 7, 8, 9] (hc_81 (E := E)) (by decide +kernel) (ha_81 (E := E)) (hw_81 (E := E)) (fun H locs w => ?_)
  refine lv_if_ne (tgt := 10) hx hb dX7_would_5 (by decide) (fun c5_1 => ?_) (fun c5_1 => ?_)
  · refine lv_iload_n hx hb dX7_would_10 rfl (lv_at hl 2 rfl) ?_
    refine lv_iload_n hx hb dX7_would_11 rfl (lv_at hl 3 rfl) ?_
    refine lv_iload hx hb dX7_would_12 (lv_at hl 4 rfl) ?_
    refine r_ci w (r_runS (As := [.int di, .int sg, .int sn]) (rest := []) X w (kX7_isShot l E di sg sn ) ck_X7_159 ⟨Nat.le_of_ble_eq_true rfl, Nat.le_of_ble_eq_true rfl⟩ [] rfl (by decide +kernel) hl.1 (Nat.le_of_ble_eq_true rfl) rfl dX7_would_14 ⟨Nat.le_of_ble_eq_true rfl, Nat.le_of_ble_eq_true rfl⟩) (wMd E a μ sp) [] rfl (by decide +kernel) rfl rfl (fun H locs w => ?_)
    refine lv_if_eq (tgt := 33) hx hb dX7_would_17 (by decide) (fun c17_2 => ?_) (fun c17_2 => ?_)
    · refine lv_bipush (v := (-2)) hx hb dX7_would_33 (by decide) ?_
      have hq : fX7_would μ sp bl di sg sn wh = ((-2), μ, sp) := by simp only [fX7_would, if_neg c5_1, if_pos c17_2]
      obtain ⟨h0_, h1_, h2_⟩ := tup3 hq
      rw [h0_, h1_, h2_]
      exact r_iret X w hr rfl dX7_would_35
    · refine lv_iload hx hb dX7_would_20 (lv_at hl 5 rfl) ?_
      refine lv_i2l hx hb dX7_would_22 rfl ?_
      refine lv_lconst (v := 0) hx hb dX7_would_23 (by decide) ?_
      refine r_ldcl X wk_X7_118 dX7_would_24 ?_
      refine r_ci w (r_runS (As := [.long wh.toInt64, .long 0, .long 5]) (rest := []) X w (kX7_in l E wh.toInt64 0 5 ) ck_X7_41 ⟨Nat.le_of_ble_eq_true rfl, Nat.le_of_ble_eq_true rfl⟩ [] rfl (by decide +kernel) hl.1 (Nat.le_of_ble_eq_true rfl) rfl dX7_would_27 ⟨Nat.le_of_ble_eq_true rfl, Nat.le_of_ble_eq_true rfl⟩) (wMd E a μ sp) [] rfl (by decide +kernel) rfl rfl (fun H locs w => ?_)
      refine lv_if_ne (tgt := 36) hx hb dX7_would_30 (by decide) (fun c30_3 => ?_) (fun c30_3 => ?_)
      · refine lv_aload_n hx hb dX7_would_36 rfl (lv_at hl 0 rfl) ?_
        refine r_get X w CL7 0 (by decide) wf_X7_7 0 rfl rfl dX7_would_37 ?_
        refine lv_aload_n hx hb dX7_would_40 rfl (lv_at hl 0 rfl) ?_
        refine r_get X w CL7 2 (by decide) wf_X7_16 0 rfl rfl dX7_would_41 ?_
        refine r_cv w (r_runS (As := [.ref (a 1), .ref (a 3)]) (rest := []) X w (kX7_copy l E (a 1) (μ 0) (a 3) (μ 2) ) ck_X7_45 ⟨Nat.le_of_ble_eq_true rfl, Nat.le_of_ble_eq_true rfl⟩ [1, 3] (hc_101 (E := E)) (by decide +kernel) hl.1 (Nat.le_of_ble_eq_true rfl) rfl dX7_would_44 ⟨Nat.le_of_ble_eq_true rfl, Nat.le_of_ble_eq_true rfl⟩) (wMd E a (va_up μ 2 (fX7_copy (μ 0) (μ 2))) sp) [1, 3] (hc_101 (E := E)) (by decide +kernel) (ha_101 (E := E)) (hw_101 (E := E)) (fun H locs w => ?_)
        refine lv_aload_n hx hb dX7_would_47 rfl (lv_at hl 0 rfl) ?_
        refine lv_iload_n hx hb dX7_would_48 rfl (lv_at hl 1 rfl) ?_
        refine lv_iload_n hx hb dX7_would_49 rfl (lv_at hl 2 rfl) ?_
        refine lv_iload_n hx hb dX7_would_50 rfl (lv_at hl 3 rfl) ?_
        refine lv_iload hx hb dX7_would_51 (lv_at hl 4 rfl) ?_
        refine r_ci w (r_runV (As := [.int bl, .int di, .int sg, .int sn]) (rest := []) X w (kX7_shot l E a (va_up μ 2 (fX7_copy (μ 0) (μ 2))) sp bl di sg sn hA hTb (isBall_ix hev c5_1).2.1 (shot_ok c17_2).1 (hA.cell (isBall_ix hev c5_1).2.1 (isBall_ix hev c5_1).2.2.2.2) (shot_ok c17_2).2) ck_X7_163 ⟨Nat.le_of_ble_eq_true rfl, Nat.le_of_ble_eq_true rfl⟩ [0, 1, 2, 3, 4, 5, 6, 7, 8, 9] (hc_81 (E := E)) (by decide +kernel) (k0 := 0) CL7 rfl hl.1 (Nat.le_of_ble_eq_true rfl) rfl dX7_would_53 ⟨Nat.le_of_ble_eq_true rfl, Nat.le_of_ble_eq_true rfl⟩) (wMd E a ((fX7_shot (va_up μ 2 (fX7_copy (μ 0) (μ 2))) sp bl di sg sn).2.1) ((fX7_shot (va_up μ 2 (fX7_copy (μ 0) (μ 2))) sp bl di sg sn).2.2)) [0, 1, 2, 3, 4, 5, 6, 7, 8, 9] (hc_81 (E := E)) (by decide +kernel) (ha_81 (E := E)) (hw_81 (E := E)) (fun H locs w => ?_)
        refine lv_istore (lv' := [(6, .int ((fX7_shot (va_up μ 2 (fX7_copy (μ 0) (μ 2))) sp bl di sg sn).1)), (0, .ref (a 0)), (1, .int bl), (2, .int di), (3, .int sg), (4, .int sn), (5, .int wh)]) hx hb dX7_would_56 hl (by decide) rfl (fun ls hl => ?_)
        refine lv_aload_n hx hb dX7_would_58 rfl (lv_at hl 1 rfl) ?_
        refine r_get X w CL7 0 (by decide) wf_X7_7 0 rfl rfl dX7_would_59 ?_
        refine lv_bipush (v := 13) hx hb dX7_would_62 (by decide) ?_
        refine lv_iload_n hx hb dX7_would_64 rfl (lv_at hl 2 rfl) ?_
        refine lv_iadd hx hb dX7_would_65 ?_
        refine r_iald X w 1 rfl (isBall_ix hev c5_1).1 dX7_would_66 ?_
        refine lv_istore (lv' := [(7, .int (((fX7_shot (va_up μ 2 (fX7_copy (μ 0) (μ 2))) sp bl di sg sn).2.1) 0 (13 + bl).toNatClampNeg)), (6, .int ((fX7_shot (va_up μ 2 (fX7_copy (μ 0) (μ 2))) sp bl di sg sn).1)), (0, .ref (a 0)), (1, .int bl), (2, .int di), (3, .int sg), (4, .int sn), (5, .int wh)]) hx hb dX7_would_67 hl (by decide) rfl (fun ls hl => ?_)
        refine lv_aload_n hx hb dX7_would_69 rfl (lv_at hl 2 rfl) ?_
        refine r_get X w CL7 2 (by decide) wf_X7_16 0 rfl rfl dX7_would_70 ?_
        refine lv_aload_n hx hb dX7_would_73 rfl (lv_at hl 2 rfl) ?_
        refine r_get X w CL7 0 (by decide) wf_X7_7 0 rfl rfl dX7_would_74 ?_
        refine r_cv w (r_runS (As := [.ref (a 3), .ref (a 1)]) (rest := []) X w (kX7_copy l E (a 3) (((fX7_shot (va_up μ 2 (fX7_copy (μ 0) (μ 2))) sp bl di sg sn).2.1) 2) (a 1) (((fX7_shot (va_up μ 2 (fX7_copy (μ 0) (μ 2))) sp bl di sg sn).2.1) 0) ) ck_X7_45 ⟨Nat.le_of_ble_eq_true rfl, Nat.le_of_ble_eq_true rfl⟩ [3, 1] (hc_102 (E := E)) (by decide +kernel) hl.1 (Nat.le_of_ble_eq_true rfl) rfl dX7_would_77 ⟨Nat.le_of_ble_eq_true rfl, Nat.le_of_ble_eq_true rfl⟩) (wMd E a (va_up ((fX7_shot (va_up μ 2 (fX7_copy (μ 0) (μ 2))) sp bl di sg sn).2.1) 0 (fX7_copy (((fX7_shot (va_up μ 2 (fX7_copy (μ 0) (μ 2))) sp bl di sg sn).2.1) 2) (((fX7_shot (va_up μ 2 (fX7_copy (μ 0) (μ 2))) sp bl di sg sn).2.1) 0))) ((fX7_shot (va_up μ 2 (fX7_copy (μ 0) (μ 2))) sp bl di sg sn).2.2)) [3, 1] (hc_102 (E := E)) (by decide +kernel) (ha_102 (E := E)) (hw_102 (E := E)) (fun H locs w => ?_)
        refine lv_iload hx hb dX7_would_80 (lv_at hl 7 rfl) ?_
        refine lv_if_ne (tgt := 92) hx hb dX7_would_82 (by decide) (fun c82_4 => ?_) (fun c82_4 => ?_)
        · refine lv_iload hx hb dX7_would_92 (lv_at hl 7 rfl) ?_
          refine lv_iconst (v := 1) hx hb dX7_would_94 (by decide) ?_
          refine lv_icmp_ne (tgt := 105) hx hb dX7_would_95 (by decide) (fun c95_5 => ?_) (fun c95_5 => ?_)
          · refine lv_iload hx hb dX7_would_105 (lv_at hl 7 rfl) ?_
            refine lv_iconst (v := 2) hx hb dX7_would_107 (by decide) ?_
            refine lv_icmp_ne (tgt := 118) hx hb dX7_would_108 (by decide) (fun c108_6 => ?_) (fun c108_6 => ?_)
            · refine lv_iload hx hb dX7_would_118 (lv_at hl 7 rfl) ?_
              refine lv_iconst (v := 3) hx hb dX7_would_120 (by decide) ?_
              refine lv_icmp_ne (tgt := 131) hx hb dX7_would_121 (by decide) (fun c121_7 => ?_) (fun c121_7 => ?_)
              · refine lv_iload hx hb dX7_would_131 (lv_at hl 7 rfl) ?_
                refine lv_iconst (v := 4) hx hb dX7_would_133 (by decide) ?_
                refine lv_icmp_ne (tgt := 142) hx hb dX7_would_134 (by decide) (fun c134_8 => ?_) (fun c134_8 => ?_)
                · refine lv_aload_n hx hb dX7_would_142 rfl (lv_at hl 2 rfl) ?_
                  refine r_get X w CL7 10 (by decide) wf_X7_71 0 rfl rfl dX7_would_143 ?_
                  have hq : fX7_would μ sp bl di sg sn wh = ((va_up ((fX7_shot (va_up μ 2 (fX7_copy (μ 0) (μ 2))) sp bl di sg sn).2.1) 0 (fX7_copy (((fX7_shot (va_up μ 2 (fX7_copy (μ 0) (μ 2))) sp bl di sg sn).2.1) 2) (((fX7_shot (va_up μ 2 (fX7_copy (μ 0) (μ 2))) sp bl di sg sn).2.1) 0))) 9 2, va_up ((fX7_shot (va_up μ 2 (fX7_copy (μ 0) (μ 2))) sp bl di sg sn).2.1) 0 (fX7_copy (((fX7_shot (va_up μ 2 (fX7_copy (μ 0) (μ 2))) sp bl di sg sn).2.1) 2) (((fX7_shot (va_up μ 2 (fX7_copy (μ 0) (μ 2))) sp bl di sg sn).2.1) 0)), (fX7_shot (va_up μ 2 (fX7_copy (μ 0) (μ 2))) sp bl di sg sn).2.2) := by simp only [fX7_would, if_neg c5_1, if_neg c17_2, if_neg c30_3, if_neg c82_4, if_neg c95_5, if_neg c108_6, if_neg c121_7, if_neg c134_8]
                  obtain ⟨h0_, h1_, h2_⟩ := tup3 hq
                  rw [h0_, h1_, h2_]
                  exact r_iret X w hr rfl dX7_would_146
                · refine lv_iload hx hb dX7_would_137 (lv_at hl 0 rfl) ?_
                  refine lv_goto (tgt := 146) hx hb dX7_would_139 (by decide) ?_
                  have hq : fX7_would μ sp bl di sg sn wh = (((fX7_shot (va_up μ 2 (fX7_copy (μ 0) (μ 2))) sp bl di sg sn).2.1) 0 (13 + bl).toNatClampNeg, va_up ((fX7_shot (va_up μ 2 (fX7_copy (μ 0) (μ 2))) sp bl di sg sn).2.1) 0 (fX7_copy (((fX7_shot (va_up μ 2 (fX7_copy (μ 0) (μ 2))) sp bl di sg sn).2.1) 2) (((fX7_shot (va_up μ 2 (fX7_copy (μ 0) (μ 2))) sp bl di sg sn).2.1) 0)), (fX7_shot (va_up μ 2 (fX7_copy (μ 0) (μ 2))) sp bl di sg sn).2.2) := by simp only [fX7_would, if_neg c5_1, if_neg c17_2, if_neg c30_3, if_neg c82_4, if_neg c95_5, if_neg c108_6, if_neg c121_7, if_pos c134_8]
                  obtain ⟨h0_, h1_, h2_⟩ := tup3 hq
                  rw [h0_, h1_, h2_]
                  exact r_iret X w hr rfl dX7_would_146
              · refine lv_aload_n hx hb dX7_would_124 rfl (lv_at hl 2 rfl) ?_
                refine r_get X w CL7 15 (by decide) wf_X7_101 0 rfl rfl dX7_would_125 ?_
                refine lv_goto (tgt := 146) hx hb dX7_would_128 (by decide) ?_
                have hq : fX7_would μ sp bl di sg sn wh = ((va_up ((fX7_shot (va_up μ 2 (fX7_copy (μ 0) (μ 2))) sp bl di sg sn).2.1) 0 (fX7_copy (((fX7_shot (va_up μ 2 (fX7_copy (μ 0) (μ 2))) sp bl di sg sn).2.1) 2) (((fX7_shot (va_up μ 2 (fX7_copy (μ 0) (μ 2))) sp bl di sg sn).2.1) 0))) 9 6, va_up ((fX7_shot (va_up μ 2 (fX7_copy (μ 0) (μ 2))) sp bl di sg sn).2.1) 0 (fX7_copy (((fX7_shot (va_up μ 2 (fX7_copy (μ 0) (μ 2))) sp bl di sg sn).2.1) 2) (((fX7_shot (va_up μ 2 (fX7_copy (μ 0) (μ 2))) sp bl di sg sn).2.1) 0)), (fX7_shot (va_up μ 2 (fX7_copy (μ 0) (μ 2))) sp bl di sg sn).2.2) := by simp only [fX7_would, if_neg c5_1, if_neg c17_2, if_neg c30_3, if_neg c82_4, if_neg c95_5, if_neg c108_6, if_pos c121_7]
                obtain ⟨h0_, h1_, h2_⟩ := tup3 hq
                rw [h0_, h1_, h2_]
                exact r_iret X w hr rfl dX7_would_146
            · refine lv_aload_n hx hb dX7_would_111 rfl (lv_at hl 2 rfl) ?_
              refine r_get X w CL7 18 (by decide) wf_X7_92 0 rfl rfl dX7_would_112 ?_
              refine lv_goto (tgt := 146) hx hb dX7_would_115 (by decide) ?_
              have hq : fX7_would μ sp bl di sg sn wh = ((va_up ((fX7_shot (va_up μ 2 (fX7_copy (μ 0) (μ 2))) sp bl di sg sn).2.1) 0 (fX7_copy (((fX7_shot (va_up μ 2 (fX7_copy (μ 0) (μ 2))) sp bl di sg sn).2.1) 2) (((fX7_shot (va_up μ 2 (fX7_copy (μ 0) (μ 2))) sp bl di sg sn).2.1) 0))) 9 9, va_up ((fX7_shot (va_up μ 2 (fX7_copy (μ 0) (μ 2))) sp bl di sg sn).2.1) 0 (fX7_copy (((fX7_shot (va_up μ 2 (fX7_copy (μ 0) (μ 2))) sp bl di sg sn).2.1) 2) (((fX7_shot (va_up μ 2 (fX7_copy (μ 0) (μ 2))) sp bl di sg sn).2.1) 0)), (fX7_shot (va_up μ 2 (fX7_copy (μ 0) (μ 2))) sp bl di sg sn).2.2) := by simp only [fX7_would, if_neg c5_1, if_neg c17_2, if_neg c30_3, if_neg c82_4, if_neg c95_5, if_pos c108_6]
              obtain ⟨h0_, h1_, h2_⟩ := tup3 hq
              rw [h0_, h1_, h2_]
              exact r_iret X w hr rfl dX7_would_146
          · refine lv_aload_n hx hb dX7_would_98 rfl (lv_at hl 2 rfl) ?_
            refine r_get X w CL7 17 (by decide) wf_X7_89 0 rfl rfl dX7_would_99 ?_
            refine lv_goto (tgt := 146) hx hb dX7_would_102 (by decide) ?_
            have hq : fX7_would μ sp bl di sg sn wh = ((va_up ((fX7_shot (va_up μ 2 (fX7_copy (μ 0) (μ 2))) sp bl di sg sn).2.1) 0 (fX7_copy (((fX7_shot (va_up μ 2 (fX7_copy (μ 0) (μ 2))) sp bl di sg sn).2.1) 2) (((fX7_shot (va_up μ 2 (fX7_copy (μ 0) (μ 2))) sp bl di sg sn).2.1) 0))) 9 8, va_up ((fX7_shot (va_up μ 2 (fX7_copy (μ 0) (μ 2))) sp bl di sg sn).2.1) 0 (fX7_copy (((fX7_shot (va_up μ 2 (fX7_copy (μ 0) (μ 2))) sp bl di sg sn).2.1) 2) (((fX7_shot (va_up μ 2 (fX7_copy (μ 0) (μ 2))) sp bl di sg sn).2.1) 0)), (fX7_shot (va_up μ 2 (fX7_copy (μ 0) (μ 2))) sp bl di sg sn).2.2) := by simp only [fX7_would, if_neg c5_1, if_neg c17_2, if_neg c30_3, if_neg c82_4, if_pos c95_5]
            obtain ⟨h0_, h1_, h2_⟩ := tup3 hq
            rw [h0_, h1_, h2_]
            exact r_iret X w hr rfl dX7_would_146
        · refine lv_aload_n hx hb dX7_would_85 rfl (lv_at hl 2 rfl) ?_
          refine r_get X w CL7 16 (by decide) wf_X7_95 0 rfl rfl dX7_would_86 ?_
          refine lv_goto (tgt := 146) hx hb dX7_would_89 (by decide) ?_
          have hq : fX7_would μ sp bl di sg sn wh = ((va_up ((fX7_shot (va_up μ 2 (fX7_copy (μ 0) (μ 2))) sp bl di sg sn).2.1) 0 (fX7_copy (((fX7_shot (va_up μ 2 (fX7_copy (μ 0) (μ 2))) sp bl di sg sn).2.1) 2) (((fX7_shot (va_up μ 2 (fX7_copy (μ 0) (μ 2))) sp bl di sg sn).2.1) 0))) 9 7, va_up ((fX7_shot (va_up μ 2 (fX7_copy (μ 0) (μ 2))) sp bl di sg sn).2.1) 0 (fX7_copy (((fX7_shot (va_up μ 2 (fX7_copy (μ 0) (μ 2))) sp bl di sg sn).2.1) 2) (((fX7_shot (va_up μ 2 (fX7_copy (μ 0) (μ 2))) sp bl di sg sn).2.1) 0)), (fX7_shot (va_up μ 2 (fX7_copy (μ 0) (μ 2))) sp bl di sg sn).2.2) := by simp only [fX7_would, if_neg c5_1, if_neg c17_2, if_neg c30_3, if_pos c82_4]
          obtain ⟨h0_, h1_, h2_⟩ := tup3 hq
          rw [h0_, h1_, h2_]
          exact r_iret X w hr rfl dX7_would_146
      · refine lv_bipush (v := (-2)) hx hb dX7_would_33 (by decide) ?_
        have hq : fX7_would μ sp bl di sg sn wh = ((-2), μ, sp) := by simp only [fX7_would, if_neg c5_1, if_neg c17_2, if_pos c30_3]
        obtain ⟨h0_, h1_, h2_⟩ := tup3 hq
        rw [h0_, h1_, h2_]
        exact r_iret X w hr rfl dX7_would_35
  · refine lv_iconst (v := (-1)) hx hb dX7_would_8 (by decide) ?_
    have hq : fX7_would μ sp bl di sg sn wh = ((-1), μ, sp) := by simp only [fX7_would, if_pos c5_1]
    obtain ⟨h0_, h1_, h2_⟩ := tup3 hq
    rw [h0_, h1_, h2_]
    exact r_iret X w hr rfl dX7_would_9
def fX7_speedLeft (μ : N2) (sp : UInt32) (bl : Int32) (di : Int32) (sg : Int32) (sn : Int32) : UInt32 × N2 × UInt32 := if (fX7_isBall μ sp bl) = 0 then ((3212836864, μ, sp)) else (if (fX7_isShot di sg sn) = 0 then ((3212836864, μ, sp)) else (((fX7_shot (va_up μ 2 (fX7_copy (μ 0) (μ 2))) sp bl di sg sn).2.2, va_up ((fX7_shot (va_up μ 2 (fX7_copy (μ 0) (μ 2))) sp bl di sg sn).2.1) 0 (fX7_copy (((fX7_shot (va_up μ 2 (fX7_copy (μ 0) (μ 2))) sp bl di sg sn).2.1) 2) (((fX7_shot (va_up μ 2 (fX7_copy (μ 0) (μ 2))) sp bl di sg sn).2.1) 0)), (fX7_shot (va_up μ 2 (fX7_copy (μ 0) (μ 2))) sp bl di sg sn).2.2)))
theorem dX7_speedLeft_0 : decode cX7_speedLeft 0 = .ok (.aload_n 0, 1) := by decide +kernel
theorem dX7_speedLeft_1 : decode cX7_speedLeft 1 = .ok (.iload_n 1, 1) := by decide +kernel
theorem dX7_speedLeft_2 : decode cX7_speedLeft 2 = .ok (.invokevirtual 145, 3) := by decide +kernel
theorem dX7_speedLeft_5 : decode cX7_speedLeft 5 = .ok (.ifCond .eq 13, 3) := by decide +kernel
theorem dX7_speedLeft_8 : decode cX7_speedLeft 8 = .ok (.iload_n 2, 1) := by decide +kernel
theorem dX7_speedLeft_9 : decode cX7_speedLeft 9 = .ok (.iload_n 3, 1) := by decide +kernel
theorem dX7_speedLeft_10 : decode cX7_speedLeft 10 = .ok (.iload 4, 2) := by decide +kernel
theorem dX7_speedLeft_12 : decode cX7_speedLeft 12 = .ok (.invokestatic 159, 3) := by decide +kernel
theorem dX7_speedLeft_15 : decode cX7_speedLeft 15 = .ok (.ifCond .ne 6, 3) := by decide +kernel
theorem dX7_speedLeft_18 : decode cX7_speedLeft 18 = .ok (.ldc 211, 2) := by decide +kernel
theorem dX7_speedLeft_20 : decode cX7_speedLeft 20 = .ok (.freturn, 1) := by decide +kernel
theorem dX7_speedLeft_21 : decode cX7_speedLeft 21 = .ok (.aload_n 0, 1) := by decide +kernel
theorem dX7_speedLeft_22 : decode cX7_speedLeft 22 = .ok (.getfield 7, 3) := by decide +kernel
theorem dX7_speedLeft_25 : decode cX7_speedLeft 25 = .ok (.aload_n 0, 1) := by decide +kernel
theorem dX7_speedLeft_26 : decode cX7_speedLeft 26 = .ok (.getfield 16, 3) := by decide +kernel
theorem dX7_speedLeft_29 : decode cX7_speedLeft 29 = .ok (.invokestatic 45, 3) := by decide +kernel
theorem dX7_speedLeft_32 : decode cX7_speedLeft 32 = .ok (.aload_n 0, 1) := by decide +kernel
theorem dX7_speedLeft_33 : decode cX7_speedLeft 33 = .ok (.iload_n 1, 1) := by decide +kernel
theorem dX7_speedLeft_34 : decode cX7_speedLeft 34 = .ok (.iload_n 2, 1) := by decide +kernel
theorem dX7_speedLeft_35 : decode cX7_speedLeft 35 = .ok (.iload_n 3, 1) := by decide +kernel
theorem dX7_speedLeft_36 : decode cX7_speedLeft 36 = .ok (.iload 4, 2) := by decide +kernel
theorem dX7_speedLeft_38 : decode cX7_speedLeft 38 = .ok (.invokevirtual 163, 3) := by decide +kernel
theorem dX7_speedLeft_41 : decode cX7_speedLeft 41 = .ok (.istore 5, 2) := by decide +kernel
theorem dX7_speedLeft_43 : decode cX7_speedLeft 43 = .ok (.aload_n 0, 1) := by decide +kernel
theorem dX7_speedLeft_44 : decode cX7_speedLeft 44 = .ok (.getfield 16, 3) := by decide +kernel
theorem dX7_speedLeft_47 : decode cX7_speedLeft 47 = .ok (.aload_n 0, 1) := by decide +kernel
theorem dX7_speedLeft_48 : decode cX7_speedLeft 48 = .ok (.getfield 7, 3) := by decide +kernel
theorem dX7_speedLeft_51 : decode cX7_speedLeft 51 = .ok (.invokestatic 45, 3) := by decide +kernel
theorem dX7_speedLeft_54 : decode cX7_speedLeft 54 = .ok (.aload_n 0, 1) := by decide +kernel
theorem dX7_speedLeft_55 : decode cX7_speedLeft 55 = .ok (.getfield 66, 3) := by decide +kernel
theorem dX7_speedLeft_58 : decode cX7_speedLeft 58 = .ok (.freturn, 1) := by decide +kernel
set_option maxHeartbeats 4000000 in
set_option maxRecDepth 100000 in
theorem kX7_speedLeft (l : Launch) (E : Ev) (a : Nat → Nat) (μ : N2) (sp : UInt32) (bl : Int32) (di : Int32) (sg : Int32) (sn : Int32) (hev : gE μ) (hA : gA (μ 0)) (hTb : gTab μ) : KQ l yX7_speedLeft cX7_speedLeft 6 (some .float) 5 116 E [.ref (a 0), .int bl, .int di, .int sg, .int sn] (wMd E a μ sp) (QF E (wMd E a μ sp) (fX7_speedLeft μ sp bl di sg sn).1 (wMd E a ((fX7_speedLeft μ sp bl di sg sn).2.1) ((fX7_speedLeft μ sp bl di sg sn).2.2))) := by
  refine KQ.mk RX7 rfl (by decide +kernel) (Nat.le_of_ble_eq_true rfl) ?_
  intro p e s m below meth c ls X hr w hl
  have hx := X.1
  have hb := X.2.1
  have hl : lv_has ls 6 [(0, .ref (a 0)), (1, .int bl), (2, .int di), (3, .int sg), (4, .int sn)] := hl
  refine lv_aload_n hx hb dX7_speedLeft_0 rfl (lv_at hl 0 rfl) ?_
  refine lv_iload_n hx hb dX7_speedLeft_1 rfl (lv_at hl 1 rfl) ?_
  refine r_ci w (r_runV (As := [.int bl]) (rest := []) X w (kX7_isBall l E a μ sp bl hev.le) ck_X7_145 ⟨Nat.le_of_ble_eq_true rfl, Nat.le_of_ble_eq_true rfl⟩ [0, 1, 2, 3, 4, 5, 6, 7, 8, 9] (hc_81 (E := E)) (by decide +kernel) (k0 := 0) CL7 rfl hl.1 (Nat.le_of_ble_eq_true rfl) rfl dX7_speedLeft_2 ⟨Nat.le_of_ble_eq_true rfl, Nat.le_of_ble_eq_true rfl⟩) (wMd E a μ sp) [0, 1, 2, 3, 4, 5, 6, 7, 8, 9] (hc_81 (E := E)) (by decide +kernel) (ha_81 (E := E)) (hw_81 (E := E)) (fun H locs w => ?_)
  refine lv_if_eq (tgt := 18) hx hb dX7_speedLeft_5 (by decide) (fun c5_1 => ?_) (fun c5_1 => ?_)
  · refine r_ldcf X wk_X7_211 dX7_speedLeft_18 ?_
    have hq : fX7_speedLeft μ sp bl di sg sn = (3212836864, μ, sp) := by simp only [fX7_speedLeft, if_pos c5_1]
    obtain ⟨h0_, h1_, h2_⟩ := tup3 hq
    rw [h0_, h1_, h2_]
    exact r_fret X w hr rfl dX7_speedLeft_20
  · refine lv_iload_n hx hb dX7_speedLeft_8 rfl (lv_at hl 2 rfl) ?_
    refine lv_iload_n hx hb dX7_speedLeft_9 rfl (lv_at hl 3 rfl) ?_
    refine lv_iload hx hb dX7_speedLeft_10 (lv_at hl 4 rfl) ?_
    refine r_ci w (r_runS (As := [.int di, .int sg, .int sn]) (rest := []) X w (kX7_isShot l E di sg sn ) ck_X7_159 ⟨Nat.le_of_ble_eq_true rfl, Nat.le_of_ble_eq_true rfl⟩ [] rfl (by decide +kernel) hl.1 (Nat.le_of_ble_eq_true rfl) rfl dX7_speedLeft_12 ⟨Nat.le_of_ble_eq_true rfl, Nat.le_of_ble_eq_true rfl⟩) (wMd E a μ sp) [] rfl (by decide +kernel) rfl rfl (fun H locs w => ?_)
    refine lv_if_ne (tgt := 21) hx hb dX7_speedLeft_15 (by decide) (fun c15_2 => ?_) (fun c15_2 => ?_)
    · refine lv_aload_n hx hb dX7_speedLeft_21 rfl (lv_at hl 0 rfl) ?_
      refine r_get X w CL7 0 (by decide) wf_X7_7 0 rfl rfl dX7_speedLeft_22 ?_
      refine lv_aload_n hx hb dX7_speedLeft_25 rfl (lv_at hl 0 rfl) ?_
      refine r_get X w CL7 2 (by decide) wf_X7_16 0 rfl rfl dX7_speedLeft_26 ?_
      refine r_cv w (r_runS (As := [.ref (a 1), .ref (a 3)]) (rest := []) X w (kX7_copy l E (a 1) (μ 0) (a 3) (μ 2) ) ck_X7_45 ⟨Nat.le_of_ble_eq_true rfl, Nat.le_of_ble_eq_true rfl⟩ [1, 3] (hc_101 (E := E)) (by decide +kernel) hl.1 (Nat.le_of_ble_eq_true rfl) rfl dX7_speedLeft_29 ⟨Nat.le_of_ble_eq_true rfl, Nat.le_of_ble_eq_true rfl⟩) (wMd E a (va_up μ 2 (fX7_copy (μ 0) (μ 2))) sp) [1, 3] (hc_101 (E := E)) (by decide +kernel) (ha_101 (E := E)) (hw_101 (E := E)) (fun H locs w => ?_)
      refine lv_aload_n hx hb dX7_speedLeft_32 rfl (lv_at hl 0 rfl) ?_
      refine lv_iload_n hx hb dX7_speedLeft_33 rfl (lv_at hl 1 rfl) ?_
      refine lv_iload_n hx hb dX7_speedLeft_34 rfl (lv_at hl 2 rfl) ?_
      refine lv_iload_n hx hb dX7_speedLeft_35 rfl (lv_at hl 3 rfl) ?_
      refine lv_iload hx hb dX7_speedLeft_36 (lv_at hl 4 rfl) ?_
      refine r_ci w (r_runV (As := [.int bl, .int di, .int sg, .int sn]) (rest := []) X w (kX7_shot l E a (va_up μ 2 (fX7_copy (μ 0) (μ 2))) sp bl di sg sn hA hTb (isBall_ix hev c5_1).2.1 (shot_ok c15_2).1 (hA.cell (isBall_ix hev c5_1).2.1 (isBall_ix hev c5_1).2.2.2.2) (shot_ok c15_2).2) ck_X7_163 ⟨Nat.le_of_ble_eq_true rfl, Nat.le_of_ble_eq_true rfl⟩ [0, 1, 2, 3, 4, 5, 6, 7, 8, 9] (hc_81 (E := E)) (by decide +kernel) (k0 := 0) CL7 rfl hl.1 (Nat.le_of_ble_eq_true rfl) rfl dX7_speedLeft_38 ⟨Nat.le_of_ble_eq_true rfl, Nat.le_of_ble_eq_true rfl⟩) (wMd E a ((fX7_shot (va_up μ 2 (fX7_copy (μ 0) (μ 2))) sp bl di sg sn).2.1) ((fX7_shot (va_up μ 2 (fX7_copy (μ 0) (μ 2))) sp bl di sg sn).2.2)) [0, 1, 2, 3, 4, 5, 6, 7, 8, 9] (hc_81 (E := E)) (by decide +kernel) (ha_81 (E := E)) (hw_81 (E := E)) (fun H locs w => ?_)
      refine lv_istore (lv' := [(5, .int ((fX7_shot (va_up μ 2 (fX7_copy (μ 0) (μ 2))) sp bl di sg sn).1)), (0, .ref (a 0)), (1, .int bl), (2, .int di), (3, .int sg), (4, .int sn)]) hx hb dX7_speedLeft_41 hl (by decide) rfl (fun ls hl => ?_)
      refine lv_aload_n hx hb dX7_speedLeft_43 rfl (lv_at hl 1 rfl) ?_
      refine r_get X w CL7 2 (by decide) wf_X7_16 0 rfl rfl dX7_speedLeft_44 ?_
      refine lv_aload_n hx hb dX7_speedLeft_47 rfl (lv_at hl 1 rfl) ?_
      refine r_get X w CL7 0 (by decide) wf_X7_7 0 rfl rfl dX7_speedLeft_48 ?_
      refine r_cv w (r_runS (As := [.ref (a 3), .ref (a 1)]) (rest := []) X w (kX7_copy l E (a 3) (((fX7_shot (va_up μ 2 (fX7_copy (μ 0) (μ 2))) sp bl di sg sn).2.1) 2) (a 1) (((fX7_shot (va_up μ 2 (fX7_copy (μ 0) (μ 2))) sp bl di sg sn).2.1) 0) ) ck_X7_45 ⟨Nat.le_of_ble_eq_true rfl, Nat.le_of_ble_eq_true rfl⟩ [3, 1] (hc_102 (E := E)) (by decide +kernel) hl.1 (Nat.le_of_ble_eq_true rfl) rfl dX7_speedLeft_51 ⟨Nat.le_of_ble_eq_true rfl, Nat.le_of_ble_eq_true rfl⟩) (wMd E a (va_up ((fX7_shot (va_up μ 2 (fX7_copy (μ 0) (μ 2))) sp bl di sg sn).2.1) 0 (fX7_copy (((fX7_shot (va_up μ 2 (fX7_copy (μ 0) (μ 2))) sp bl di sg sn).2.1) 2) (((fX7_shot (va_up μ 2 (fX7_copy (μ 0) (μ 2))) sp bl di sg sn).2.1) 0))) ((fX7_shot (va_up μ 2 (fX7_copy (μ 0) (μ 2))) sp bl di sg sn).2.2)) [3, 1] (hc_102 (E := E)) (by decide +kernel) (ha_102 (E := E)) (hw_102 (E := E)) (fun H locs w => ?_)
      refine lv_aload_n hx hb dX7_speedLeft_54 rfl (lv_at hl 1 rfl) ?_
      refine r_get X w CL7 14 (by decide) wf_X7_66 0 rfl rfl dX7_speedLeft_55 ?_
      have hq : fX7_speedLeft μ sp bl di sg sn = ((fX7_shot (va_up μ 2 (fX7_copy (μ 0) (μ 2))) sp bl di sg sn).2.2, va_up ((fX7_shot (va_up μ 2 (fX7_copy (μ 0) (μ 2))) sp bl di sg sn).2.1) 0 (fX7_copy (((fX7_shot (va_up μ 2 (fX7_copy (μ 0) (μ 2))) sp bl di sg sn).2.1) 2) (((fX7_shot (va_up μ 2 (fX7_copy (μ 0) (μ 2))) sp bl di sg sn).2.1) 0)), (fX7_shot (va_up μ 2 (fX7_copy (μ 0) (μ 2))) sp bl di sg sn).2.2) := by simp only [fX7_speedLeft, if_neg c5_1, if_neg c15_2]
      obtain ⟨h0_, h1_, h2_⟩ := tup3 hq
      rw [h0_, h1_, h2_]
      exact r_fret X w hr rfl dX7_speedLeft_58
    · refine r_ldcf X wk_X7_211 dX7_speedLeft_18 ?_
      have hq : fX7_speedLeft μ sp bl di sg sn = (3212836864, μ, sp) := by simp only [fX7_speedLeft, if_neg c5_1, if_pos c15_2]
      obtain ⟨h0_, h1_, h2_⟩ := tup3 hq
      rw [h0_, h1_, h2_]
      exact r_fret X w hr rfl dX7_speedLeft_20
/-- what reading leaves alone; the spot goes forward -/
def spO (μ μ2 : N2) : Prop := (∀ i : Nat, ¬ i = 9 → μ2 i = μ i) ∧ (∀ j : Nat, j < 11 → μ2 9 j = μ 9 j) ∧ (μ 9 11).toInt ≤ (μ2 9 11).toInt ∧ (μ2 9 11).toInt ≤ (μ 9 10).toInt
def gS (μ : N2) : Prop := 0 ≤ (μ 9 11).toInt ∧ (μ 9 11).toInt ≤ (μ 9 10).toInt
theorem spO.refl {μ : N2} (h : gS μ) : spO μ μ := ⟨fun _ _ => rfl, fun _ _ => rfl, by omega, h.2⟩
theorem spO.tx {μ μ2 : N2} (h : spO μ μ2) (hT : gT μ) : gT μ2 := by
  unfold gT
  rw [h.2.1 10 (by decide)]
  exact hT
theorem spO.sp {μ μ2 : N2} (h : spO μ μ2) (hS : gS μ) : gS μ2 := by
  unfold gS
  rw [h.2.1 10 (by decide)]
  exact ⟨by have := hS.1; have := h.2.2.1; omega, h.2.2.2⟩
theorem spO.trans {μ μ2 μ3 : N2} (h : spO μ μ2) (h2 : spO μ2 μ3) : spO μ μ3 :=
  ⟨fun i hi => (h2.1 i hi).trans (h.1 i hi), fun j hj => (h2.2.1 j hj).trans (h.2.1 j hj), by have := h.2.2.1; have := h2.2.2.1; omega, by have := h2.2.2.2; rw [h.2.1 10 (by decide)] at this; exact this⟩
theorem here_lt {μ : N2} {sp : UInt32} {lo hi : Int32} (h : ¬ fX7_isHere μ sp lo hi = 0) : (μ 9 11).toInt < (μ 9 10).toInt := by
  unfold fX7_isHere at h
  split at h
  · exact absurd rfl h
  · rename_i h1
    rw [Int32.le_iff_toInt_le] at h1
    omega
theorem spO_row {μ : N2} {j : Nat} {x : Int32} (hS : gS μ) (hj : 12 ≤ j) : spO μ (u2 μ 9 j x) := by
  refine ⟨fun i hi => u2_row hi, fun i hi => ?_, ?_, ?_⟩
  · rw [u2_at, if_neg (by omega)]
  · rw [u2_at, if_neg (by omega)]
    exact Int.le_refl _
  · rw [u2_at, if_neg (by omega)]
    exact hS.2
theorem spot_plus {μ : N2} (hT : gT μ) (hS : gS μ) (h : (μ 9 11).toInt < (μ 9 10).toInt) : (μ 9 11 + 1).toInt = (μ 9 11).toInt + 1 := by
  have e1 : (1 : Int32).toInt = 1 := rfl
  have := hS.1
  have := hT.2
  rw [ti_add (by omega) (by omega), e1]
theorem spO_one {μ : N2} (hT : gT μ) (hS : gS μ) (h : (μ 9 11).toInt < (μ 9 10).toInt) : spO μ (u2 μ 9 11 (μ 9 11 + 1)) ∧ (μ 9 11).toInt < ((u2 μ 9 11 (μ 9 11 + 1)) 9 11).toInt := by
  have e := spot_plus hT hS h
  refine ⟨⟨fun i hi => u2_row hi, fun i hi => ?_, ?_, ?_⟩, ?_⟩
  · rw [u2_at, if_neg (by omega)]
  · rw [u2_at, if_pos rfl, e]
    omega
  · rw [u2_at, if_pos rfl, e]
    omega
  · rw [u2_at, if_pos rfl, e]
    omega
theorem spO_inc {μ : N2} {x : Int32} (hT : gT μ) (hS : gS μ) (h : (μ 9 11).toInt < (μ 9 10).toInt) : spO μ (u2 (u2 μ 9 12 x) 9 11 ((u2 μ 9 12 x) 9 11 + 1)) ∧ (μ 9 11).toInt < ((u2 (u2 μ 9 12 x) 9 11 ((u2 μ 9 12 x) 9 11 + 1)) 9 11).toInt := by
  have h1 := spO_row (x := x) hS (Nat.le_refl 12)
  have e11 : (u2 μ 9 12 x) 9 11 = μ 9 11 := by rw [u2_at, if_neg (by decide)]
  have e10 : (u2 μ 9 12 x) 9 10 = μ 9 10 := by rw [u2_at, if_neg (by decide)]
  have h2 := spO_one (h1.tx hT) (h1.sp hS) (by rw [e11, e10]; exact h)
  exact ⟨h1.trans h2.1, by have := h2.2; rw [e11] at this ⊢; exact this⟩
theorem number_ok {μ : N2} {sp : UInt32} {le mo : Int32} (hT : gT μ) (hS : gS μ) : spO μ (fX7_readsNumber μ sp le mo).2 ∧ (¬ (fX7_readsNumber μ sp le mo).1 = 0 → (μ 9 11).toInt < ((fX7_readsNumber μ sp le mo).2 9 11).toInt) := by
  unfold fX7_readsNumber
  split
  · exact ⟨spO.refl hS, fun h => absurd rfl h⟩
  · rename_i h1
    have h2 := spO_inc (x := (μ 8 (μ 9 11).toNatClampNeg) - 48) hT hS (here_lt h1)
    generalize u2 (u2 μ 9 12 ((μ 8 (μ 9 11).toNatClampNeg) - 48)) 9 11 ((u2 μ 9 12 ((μ 8 (μ 9 11).toNatClampNeg) - 48)) 9 11 + 1) = μ1 at h2 ⊢
    split
    · exact ⟨h2.1, fun _ => h2.2⟩
    · split
      · exact ⟨h2.1, fun _ => h2.2⟩
      · rename_i h3
        split
        · exact ⟨h2.1, fun _ => h2.2⟩
        · have h4 := spO_inc (x := ((10 * (μ1 9 12)) + (μ1 8 (μ1 9 11).toNatClampNeg)) - 48) (h2.1.tx hT) (h2.1.sp hS) (here_lt h3)
          exact ⟨h2.1.trans h4.1, fun _ => Int.lt_trans h2.2 h4.2⟩
theorem takes_ok {μ : N2} {sp : UInt32} {ch : Int32} (hT : gT μ) (hS : gS μ) : spO μ (fX7_takes μ sp ch).2 ∧ (¬ (fX7_takes μ sp ch).1 = 0 → (μ 9 11).toInt < ((fX7_takes μ sp ch).2 9 11).toInt) := by
  unfold fX7_takes
  split
  · rename_i h1
    refine ⟨?_, fun h => absurd h1 h⟩
    have e : u2 μ 9 11 (μ 9 11 + 0) = μ := by
      funext i j
      by_cases hi : i = 9
      · subst hi
        rw [u2_at, Int32.add_zero]
        split
        · subst_vars
          rfl
        · rfl
      · rw [u2_row hi]
    show spO μ (u2 μ 9 11 (μ 9 11 + 0))
    rw [e]
    exact spO.refl hS
  · rename_i h1
    have h2 := spO_one hT hS (here_lt h1)
    exact ⟨h2.1, fun _ => h2.2⟩
theorem rb1 {μ : N2} {sp : UInt32} {x : Int32} (hT : gT μ) (hS : gS μ) : spO μ (u2 (fX7_readsNumber μ sp 0 60).2 9 13 x) := (number_ok hT hS).1.trans (spO_row ((number_ok hT hS).1.sp hS) (by decide))
theorem rb2 {μ : N2} {sp : UInt32} {x : Int32} (hT : gT μ) (hS : gS μ) : spO μ (fX7_takes (u2 (fX7_readsNumber μ sp 0 60).2 9 13 x) sp 58).2 := (rb1 hT hS).trans (takes_ok ((rb1 hT hS).tx hT) ((rb1 hT hS).sp hS)).1
theorem rb3 {μ : N2} {sp : UInt32} {x : Int32} (hT : gT μ) (hS : gS μ) : spO μ (fX7_readsNumber (fX7_takes (u2 (fX7_readsNumber μ sp 0 60).2 9 13 x) sp 58).2 sp 1 20).2 := (rb2 hT hS).trans (number_ok ((rb2 hT hS).tx hT) ((rb2 hT hS).sp hS)).1
def fX7_readsBall (μ : N2) (sp : UInt32) : Int32 × N2 := if ((fX7_readsNumber μ sp 0 60).1) = 0 then ((0, (fX7_readsNumber μ sp 0 60).2)) else (if ((fX7_takes (u2 ((fX7_readsNumber μ sp 0 60).2) 9 13 (((fX7_readsNumber μ sp 0 60).2) 9 12)) sp 58).1) = 0 then ((0, u2 ((fX7_takes (u2 ((fX7_readsNumber μ sp 0 60).2) 9 13 (((fX7_readsNumber μ sp 0 60).2) 9 12)) sp 58).2) 9 14 (((fX7_takes (u2 ((fX7_readsNumber μ sp 0 60).2) 9 13 (((fX7_readsNumber μ sp 0 60).2) 9 12)) sp 58).2) 9 12))) else (if ((fX7_readsNumber ((fX7_takes (u2 ((fX7_readsNumber μ sp 0 60).2) 9 13 (((fX7_readsNumber μ sp 0 60).2) 9 12)) sp 58).2) sp 1 20).1) = 0 then ((0, u2 ((fX7_readsNumber ((fX7_takes (u2 ((fX7_readsNumber μ sp 0 60).2) 9 13 (((fX7_readsNumber μ sp 0 60).2) 9 12)) sp 58).2) sp 1 20).2) 9 14 (((fX7_readsNumber ((fX7_takes (u2 ((fX7_readsNumber μ sp 0 60).2) 9 13 (((fX7_readsNumber μ sp 0 60).2) 9 12)) sp 58).2) sp 1 20).2) 9 12))) else ((1, u2 ((fX7_readsNumber ((fX7_takes (u2 ((fX7_readsNumber μ sp 0 60).2) 9 13 (((fX7_readsNumber μ sp 0 60).2) 9 12)) sp 58).2) sp 1 20).2) 9 14 (((fX7_readsNumber ((fX7_takes (u2 ((fX7_readsNumber μ sp 0 60).2) 9 13 (((fX7_readsNumber μ sp 0 60).2) 9 12)) sp 58).2) sp 1 20).2) 9 12)))))
theorem dX7_readsBall_0 : decode cX7_readsBall 0 = .ok (.aload_n 0, 1) := by decide +kernel
theorem dX7_readsBall_1 : decode cX7_readsBall 1 = .ok (.iconst 0, 1) := by decide +kernel
theorem dX7_readsBall_2 : decode cX7_readsBall 2 = .ok (.bipush 60, 2) := by decide +kernel
theorem dX7_readsBall_4 : decode cX7_readsBall 4 = .ok (.invokevirtual 182, 3) := by decide +kernel
theorem dX7_readsBall_7 : decode cX7_readsBall 7 = .ok (.ifCond .ne 5, 3) := by decide +kernel
theorem dX7_readsBall_10 : decode cX7_readsBall 10 = .ok (.iconst 0, 1) := by decide +kernel
theorem dX7_readsBall_11 : decode cX7_readsBall 11 = .ok (.ireturn, 1) := by decide +kernel
theorem dX7_readsBall_12 : decode cX7_readsBall 12 = .ok (.aload_n 0, 1) := by decide +kernel
theorem dX7_readsBall_13 : decode cX7_readsBall 13 = .ok (.aload_n 0, 1) := by decide +kernel
theorem dX7_readsBall_14 : decode cX7_readsBall 14 = .ok (.getfield 179, 3) := by decide +kernel
theorem dX7_readsBall_17 : decode cX7_readsBall 17 = .ok (.putfield 185, 3) := by decide +kernel
theorem dX7_readsBall_20 : decode cX7_readsBall 20 = .ok (.aload_n 0, 1) := by decide +kernel
theorem dX7_readsBall_21 : decode cX7_readsBall 21 = .ok (.bipush 58, 2) := by decide +kernel
theorem dX7_readsBall_23 : decode cX7_readsBall 23 = .ok (.invokevirtual 188, 3) := by decide +kernel
theorem dX7_readsBall_26 : decode cX7_readsBall 26 = .ok (.ifCond .eq 17, 3) := by decide +kernel
theorem dX7_readsBall_29 : decode cX7_readsBall 29 = .ok (.aload_n 0, 1) := by decide +kernel
theorem dX7_readsBall_30 : decode cX7_readsBall 30 = .ok (.iconst 1, 1) := by decide +kernel
theorem dX7_readsBall_31 : decode cX7_readsBall 31 = .ok (.bipush 20, 2) := by decide +kernel
theorem dX7_readsBall_33 : decode cX7_readsBall 33 = .ok (.invokevirtual 182, 3) := by decide +kernel
theorem dX7_readsBall_36 : decode cX7_readsBall 36 = .ok (.ifCond .eq 7, 3) := by decide +kernel
theorem dX7_readsBall_39 : decode cX7_readsBall 39 = .ok (.iconst 1, 1) := by decide +kernel
theorem dX7_readsBall_40 : decode cX7_readsBall 40 = .ok (.goto 4, 3) := by decide +kernel
theorem dX7_readsBall_43 : decode cX7_readsBall 43 = .ok (.iconst 0, 1) := by decide +kernel
theorem dX7_readsBall_44 : decode cX7_readsBall 44 = .ok (.istore_n 1, 1) := by decide +kernel
theorem dX7_readsBall_45 : decode cX7_readsBall 45 = .ok (.aload_n 0, 1) := by decide +kernel
theorem dX7_readsBall_46 : decode cX7_readsBall 46 = .ok (.aload_n 0, 1) := by decide +kernel
theorem dX7_readsBall_47 : decode cX7_readsBall 47 = .ok (.getfield 179, 3) := by decide +kernel
theorem dX7_readsBall_50 : decode cX7_readsBall 50 = .ok (.putfield 191, 3) := by decide +kernel
theorem dX7_readsBall_53 : decode cX7_readsBall 53 = .ok (.iload_n 1, 1) := by decide +kernel
theorem dX7_readsBall_54 : decode cX7_readsBall 54 = .ok (.ireturn, 1) := by decide +kernel
theorem ck_X7_182 : CkV RX7 182 RX7 yX7_readsNumber cX7_readsNumber 3 (some .boolean) 2 := ⟨wm_X7_182, wim_yX7_readsNumber, wse_yX7_readsNumber, wi_X7, wc_yX7_readsNumber, by decide +kernel⟩
theorem ck_X7_188 : CkV RX7 188 RX7 yX7_takes cX7_takes 3 (some .boolean) 1 := ⟨wm_X7_188, wim_yX7_takes, wse_yX7_takes, wi_X7, wc_yX7_takes, by decide +kernel⟩
theorem ax_103 {E : Ev} {a0 : Nat → Nat} {σ0 : N2} {v0 : UInt32} {x : Int32} : (wMd E a0 σ0 v0).set 0 (a0 0, .inr (6, ([.ref (a0 1), .ref (a0 2), .ref (a0 3), .ref (a0 4), .int (σ0 9 0), .ref (a0 5), .int (σ0 9 1), .ref (a0 6), .ref (a0 7), .ref (a0 8), .int (σ0 9 2), .int (σ0 9 3), .int (σ0 9 4), .int (σ0 9 5), .float v0, .int (σ0 9 6), .int (σ0 9 7), .int (σ0 9 8), .int (σ0 9 9), .ref (a0 9), .int (σ0 9 10), .int (σ0 9 11), .int (σ0 9 12), .int (σ0 9 13), .int (σ0 9 14)] : List Value).set 23 (.int x))) = wMd E a0 (u2 σ0 9 13 x) v0 := rfl
theorem ax_104 {E : Ev} {a0 : Nat → Nat} {σ0 : N2} {v0 : UInt32} {x : Int32} : (wMd E a0 σ0 v0).set 0 (a0 0, .inr (6, ([.ref (a0 1), .ref (a0 2), .ref (a0 3), .ref (a0 4), .int (σ0 9 0), .ref (a0 5), .int (σ0 9 1), .ref (a0 6), .ref (a0 7), .ref (a0 8), .int (σ0 9 2), .int (σ0 9 3), .int (σ0 9 4), .int (σ0 9 5), .float v0, .int (σ0 9 6), .int (σ0 9 7), .int (σ0 9 8), .int (σ0 9 9), .ref (a0 9), .int (σ0 9 10), .int (σ0 9 11), .int (σ0 9 12), .int (σ0 9 13), .int (σ0 9 14)] : List Value).set 24 (.int x))) = wMd E a0 (u2 σ0 9 14 x) v0 := rfl
set_option maxHeartbeats 4000000 in
set_option maxRecDepth 100000 in
theorem kX7_readsBall (l : Launch) (E : Ev) (a : Nat → Nat) (μ : N2) (sp : UInt32) (hT : gT μ) (hS : gS μ) : KQ l yX7_readsBall cX7_readsBall 2 (some .boolean) 3 69 E [.ref (a 0)] (wMd E a μ sp) (QI E (wMd E a μ sp) (fX7_readsBall μ sp).1 (wMd E a ((fX7_readsBall μ sp).2) sp)) := by
  refine KQ.mk RX7 rfl (by decide +kernel) (Nat.le_of_ble_eq_true rfl) ?_
  intro p e s m below meth c ls X hr w hl
  have hx := X.1
  have hb := X.2.1
  have hl : lv_has ls 2 [(0, .ref (a 0))] := hl
  refine lv_aload_n hx hb dX7_readsBall_0 rfl (lv_at hl 0 rfl) ?_
  refine lv_iconst (v := 0) hx hb dX7_readsBall_1 (by decide) ?_
  refine lv_bipush (v := 60) hx hb dX7_readsBall_2 (by decide) ?_
  refine r_ci w (r_runV (As := [.int 0, .int 60]) (rest := []) X w (kX7_readsNumber l E a μ sp 0 60 hT hS.1) ck_X7_182 ⟨Nat.le_of_ble_eq_true rfl, Nat.le_of_ble_eq_true rfl⟩ [0, 1, 2, 3, 4, 5, 6, 7, 8, 9] (hc_81 (E := E)) (by decide +kernel) (k0 := 0) CL7 rfl hl.1 (Nat.le_of_ble_eq_true rfl) rfl dX7_readsBall_4 ⟨Nat.le_of_ble_eq_true rfl, Nat.le_of_ble_eq_true rfl⟩) (wMd E a ((fX7_readsNumber μ sp 0 60).2) sp) [0, 1, 2, 3, 4, 5, 6, 7, 8, 9] (hc_81 (E := E)) (by decide +kernel) (ha_81 (E := E)) (hw_81 (E := E)) (fun H locs w => ?_)
  refine lv_if_ne (tgt := 12) hx hb dX7_readsBall_7 (by decide) (fun c7_1 => ?_) (fun c7_1 => ?_)
  · refine lv_aload_n hx hb dX7_readsBall_12 rfl (lv_at hl 0 rfl) ?_
    refine lv_aload_n hx hb dX7_readsBall_13 rfl (lv_at hl 0 rfl) ?_
    refine r_get X w CL7 22 (by decide) wf_X7_179 0 rfl rfl dX7_readsBall_14 ?_
    refine r_put X w (wMd E a (u2 ((fX7_readsNumber μ sp 0 60).2) 9 13 (((fX7_readsNumber μ sp 0 60).2) 9 12)) sp) CL7 23 (by decide) wf_X7_185 0 rfl rfl rfl rfl (Nat.le_of_ble_eq_true rfl) (ax_103 (E := E)) dX7_readsBall_17 (fun H locs w => ?_)
    refine lv_aload_n hx hb dX7_readsBall_20 rfl (lv_at hl 0 rfl) ?_
    refine lv_bipush (v := 58) hx hb dX7_readsBall_21 (by decide) ?_
    refine r_ci w (r_runV (As := [.int 58]) (rest := []) X w (kX7_takes l E a (u2 ((fX7_readsNumber μ sp 0 60).2) 9 13 (((fX7_readsNumber μ sp 0 60).2) 9 12)) sp 58 ((rb1 hT hS).tx hT) ((rb1 hT hS).sp hS).1) ck_X7_188 ⟨Nat.le_of_ble_eq_true rfl, Nat.le_of_ble_eq_true rfl⟩ [0, 1, 2, 3, 4, 5, 6, 7, 8, 9] (hc_81 (E := E)) (by decide +kernel) (k0 := 0) CL7 rfl hl.1 (Nat.le_of_ble_eq_true rfl) rfl dX7_readsBall_23 ⟨Nat.le_of_ble_eq_true rfl, Nat.le_of_ble_eq_true rfl⟩) (wMd E a ((fX7_takes (u2 ((fX7_readsNumber μ sp 0 60).2) 9 13 (((fX7_readsNumber μ sp 0 60).2) 9 12)) sp 58).2) sp) [0, 1, 2, 3, 4, 5, 6, 7, 8, 9] (hc_81 (E := E)) (by decide +kernel) (ha_81 (E := E)) (hw_81 (E := E)) (fun H locs w => ?_)
    refine lv_if_eq (tgt := 43) hx hb dX7_readsBall_26 (by decide) (fun c26_2 => ?_) (fun c26_2 => ?_)
    · refine lv_iconst (v := 0) hx hb dX7_readsBall_43 (by decide) ?_
      refine lv_istore_n (lv' := [(1, .int 0), (0, .ref (a 0))]) hx hb dX7_readsBall_44 rfl hl (by decide) rfl (fun ls hl => ?_)
      refine lv_aload_n hx hb dX7_readsBall_45 rfl (lv_at hl 1 rfl) ?_
      refine lv_aload_n hx hb dX7_readsBall_46 rfl (lv_at hl 1 rfl) ?_
      refine r_get X w CL7 22 (by decide) wf_X7_179 0 rfl rfl dX7_readsBall_47 ?_
      refine r_put X w (wMd E a (u2 ((fX7_takes (u2 ((fX7_readsNumber μ sp 0 60).2) 9 13 (((fX7_readsNumber μ sp 0 60).2) 9 12)) sp 58).2) 9 14 (((fX7_takes (u2 ((fX7_readsNumber μ sp 0 60).2) 9 13 (((fX7_readsNumber μ sp 0 60).2) 9 12)) sp 58).2) 9 12)) sp) CL7 24 (by decide) wf_X7_191 0 rfl rfl rfl rfl (Nat.le_of_ble_eq_true rfl) (ax_104 (E := E)) dX7_readsBall_50 (fun H locs w => ?_)
      refine lv_iload_n hx hb dX7_readsBall_53 rfl (lv_at hl 0 rfl) ?_
      have hq : fX7_readsBall μ sp = (0, u2 ((fX7_takes (u2 ((fX7_readsNumber μ sp 0 60).2) 9 13 (((fX7_readsNumber μ sp 0 60).2) 9 12)) sp 58).2) 9 14 (((fX7_takes (u2 ((fX7_readsNumber μ sp 0 60).2) 9 13 (((fX7_readsNumber μ sp 0 60).2) 9 12)) sp 58).2) 9 12)) := by simp only [fX7_readsBall, if_neg c7_1, if_pos c26_2]
      obtain ⟨h0_, h1_⟩ := tup2 hq
      rw [h0_, h1_]
      exact r_zret X w hr (Or.inl rfl) rfl dX7_readsBall_54
    · refine lv_aload_n hx hb dX7_readsBall_29 rfl (lv_at hl 0 rfl) ?_
      refine lv_iconst (v := 1) hx hb dX7_readsBall_30 (by decide) ?_
      refine lv_bipush (v := 20) hx hb dX7_readsBall_31 (by decide) ?_
      refine r_ci w (r_runV (As := [.int 1, .int 20]) (rest := []) X w (kX7_readsNumber l E a ((fX7_takes (u2 ((fX7_readsNumber μ sp 0 60).2) 9 13 (((fX7_readsNumber μ sp 0 60).2) 9 12)) sp 58).2) sp 1 20 ((rb2 hT hS).tx hT) ((rb2 hT hS).sp hS).1) ck_X7_182 ⟨Nat.le_of_ble_eq_true rfl, Nat.le_of_ble_eq_true rfl⟩ [0, 1, 2, 3, 4, 5, 6, 7, 8, 9] (hc_81 (E := E)) (by decide +kernel) (k0 := 0) CL7 rfl hl.1 (Nat.le_of_ble_eq_true rfl) rfl dX7_readsBall_33 ⟨Nat.le_of_ble_eq_true rfl, Nat.le_of_ble_eq_true rfl⟩) (wMd E a ((fX7_readsNumber ((fX7_takes (u2 ((fX7_readsNumber μ sp 0 60).2) 9 13 (((fX7_readsNumber μ sp 0 60).2) 9 12)) sp 58).2) sp 1 20).2) sp) [0, 1, 2, 3, 4, 5, 6, 7, 8, 9] (hc_81 (E := E)) (by decide +kernel) (ha_81 (E := E)) (hw_81 (E := E)) (fun H locs w => ?_)
      refine lv_if_eq (tgt := 43) hx hb dX7_readsBall_36 (by decide) (fun c36_3 => ?_) (fun c36_3 => ?_)
      · refine lv_iconst (v := 0) hx hb dX7_readsBall_43 (by decide) ?_
        refine lv_istore_n (lv' := [(1, .int 0), (0, .ref (a 0))]) hx hb dX7_readsBall_44 rfl hl (by decide) rfl (fun ls hl => ?_)
        refine lv_aload_n hx hb dX7_readsBall_45 rfl (lv_at hl 1 rfl) ?_
        refine lv_aload_n hx hb dX7_readsBall_46 rfl (lv_at hl 1 rfl) ?_
        refine r_get X w CL7 22 (by decide) wf_X7_179 0 rfl rfl dX7_readsBall_47 ?_
        refine r_put X w (wMd E a (u2 ((fX7_readsNumber ((fX7_takes (u2 ((fX7_readsNumber μ sp 0 60).2) 9 13 (((fX7_readsNumber μ sp 0 60).2) 9 12)) sp 58).2) sp 1 20).2) 9 14 (((fX7_readsNumber ((fX7_takes (u2 ((fX7_readsNumber μ sp 0 60).2) 9 13 (((fX7_readsNumber μ sp 0 60).2) 9 12)) sp 58).2) sp 1 20).2) 9 12)) sp) CL7 24 (by decide) wf_X7_191 0 rfl rfl rfl rfl (Nat.le_of_ble_eq_true rfl) (ax_104 (E := E)) dX7_readsBall_50 (fun H locs w => ?_)
        refine lv_iload_n hx hb dX7_readsBall_53 rfl (lv_at hl 0 rfl) ?_
        have hq : fX7_readsBall μ sp = (0, u2 ((fX7_readsNumber ((fX7_takes (u2 ((fX7_readsNumber μ sp 0 60).2) 9 13 (((fX7_readsNumber μ sp 0 60).2) 9 12)) sp 58).2) sp 1 20).2) 9 14 (((fX7_readsNumber ((fX7_takes (u2 ((fX7_readsNumber μ sp 0 60).2) 9 13 (((fX7_readsNumber μ sp 0 60).2) 9 12)) sp 58).2) sp 1 20).2) 9 12)) := by simp only [fX7_readsBall, if_neg c7_1, if_neg c26_2, if_pos c36_3]
        obtain ⟨h0_, h1_⟩ := tup2 hq
        rw [h0_, h1_]
        exact r_zret X w hr (Or.inl rfl) rfl dX7_readsBall_54
      · refine lv_iconst (v := 1) hx hb dX7_readsBall_39 (by decide) ?_
        refine lv_goto (tgt := 44) hx hb dX7_readsBall_40 (by decide) ?_
        refine lv_istore_n (lv' := [(1, .int 1), (0, .ref (a 0))]) hx hb dX7_readsBall_44 rfl hl (by decide) rfl (fun ls hl => ?_)
        refine lv_aload_n hx hb dX7_readsBall_45 rfl (lv_at hl 1 rfl) ?_
        refine lv_aload_n hx hb dX7_readsBall_46 rfl (lv_at hl 1 rfl) ?_
        refine r_get X w CL7 22 (by decide) wf_X7_179 0 rfl rfl dX7_readsBall_47 ?_
        refine r_put X w (wMd E a (u2 ((fX7_readsNumber ((fX7_takes (u2 ((fX7_readsNumber μ sp 0 60).2) 9 13 (((fX7_readsNumber μ sp 0 60).2) 9 12)) sp 58).2) sp 1 20).2) 9 14 (((fX7_readsNumber ((fX7_takes (u2 ((fX7_readsNumber μ sp 0 60).2) 9 13 (((fX7_readsNumber μ sp 0 60).2) 9 12)) sp 58).2) sp 1 20).2) 9 12)) sp) CL7 24 (by decide) wf_X7_191 0 rfl rfl rfl rfl (Nat.le_of_ble_eq_true rfl) (ax_104 (E := E)) dX7_readsBall_50 (fun H locs w => ?_)
        refine lv_iload_n hx hb dX7_readsBall_53 rfl (lv_at hl 0 rfl) ?_
        have hq : fX7_readsBall μ sp = (1, u2 ((fX7_readsNumber ((fX7_takes (u2 ((fX7_readsNumber μ sp 0 60).2) 9 13 (((fX7_readsNumber μ sp 0 60).2) 9 12)) sp 58).2) sp 1 20).2) 9 14 (((fX7_readsNumber ((fX7_takes (u2 ((fX7_readsNumber μ sp 0 60).2) 9 13 (((fX7_readsNumber μ sp 0 60).2) 9 12)) sp 58).2) sp 1 20).2) 9 12)) := by simp only [fX7_readsBall, if_neg c7_1, if_neg c26_2, if_neg c36_3]
        obtain ⟨h0_, h1_⟩ := tup2 hq
        rw [h0_, h1_]
        exact r_zret X w hr (Or.inr rfl) rfl dX7_readsBall_54
  · refine lv_iconst (v := 0) hx hb dX7_readsBall_10 (by decide) ?_
    have hq : fX7_readsBall μ sp = (0, (fX7_readsNumber μ sp 0 60).2) := by simp only [fX7_readsBall, if_pos c7_1]
    obtain ⟨h0_, h1_⟩ := tup2 hq
    rw [h0_, h1_]
    exact r_zret X w hr (Or.inl rfl) rfl dX7_readsBall_11
theorem zX7_readsBall (μ : N2) (sp : UInt32) : (fX7_readsBall μ sp).1 = 0 ∨ (fX7_readsBall μ sp).1 = 1 := by
  unfold fX7_readsBall
  repeat' split
  all_goals first | exact Or.inl rfl | exact Or.inr rfl | (simp; done) | exact zX7_readsNumber _ _ _ _ | exact zX7_takes _ _ _
theorem last14 {M : N2} {v c : Int32} {x : Int} (h : x < (M 9 11).toInt) : x < (((c, u2 M 9 14 v) : Int32 × N2).2 9 11).toInt := by
  show x < (u2 M 9 14 v 9 11).toInt
  rw [u2_at, if_neg (by decide)]
  exact h
theorem ball_ok {μ : N2} {sp : UInt32} (hT : gT μ) (hS : gS μ) : spO μ (fX7_readsBall μ sp).2 ∧ (¬ (fX7_readsBall μ sp).1 = 0 → (μ 9 11).toInt < ((fX7_readsBall μ sp).2 9 11).toInt) := by
  unfold fX7_readsBall
  split
  · exact ⟨(number_ok hT hS).1, fun h => absurd rfl h⟩
  · rename_i h1
    have h3 := (number_ok hT hS).2 h1
    split
    · exact ⟨(rb2 hT hS).trans (spO_row ((rb2 hT hS).sp hS) (by decide)), fun h => absurd rfl h⟩
    · split
      · exact ⟨(rb3 hT hS).trans (spO_row ((rb3 hT hS).sp hS) (by decide)), fun h => absurd rfl h⟩
      · refine ⟨(rb3 hT hS).trans (spO_row ((rb3 hT hS).sp hS) (by decide)), fun _ => ?_⟩
        have h4 := (rb1 (sp := sp) (x := (fX7_readsNumber μ sp 0 60).2 9 12) hT hS)
        have h5 := takes_ok (sp := sp) (ch := 58) (h4.tx hT) (h4.sp hS)
        have h6 := number_ok (sp := sp) (le := 1) (mo := 20) ((rb2 (sp := sp) (x := (fX7_readsNumber μ sp 0 60).2 9 12) hT hS).tx hT) ((rb2 (sp := sp) (x := (fX7_readsNumber μ sp 0 60).2 9 12) hT hS).sp hS)
        refine last14 ?_
        have h7 := h5.1.2.2.1
        have h8 := h6.1.2.2.1
        rw [u2_at, if_neg (by decide)] at h7
        omega
