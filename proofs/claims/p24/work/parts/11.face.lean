/-! HexBilliards: its methods (printed by wip/whole/gen/p11.py) -/
def fX6_isForce (sg : Int32) (sn : Int32) : Int32 := if sg < 10 then ((0)) else (if 999 < sg then ((0)) else (if sn < 0 then ((0)) else (if 2 < sn then ((0)) else ((1)))))
theorem dX6_isForce_0 : decode cX6_isForce 0 = .ok (.iload_n 0, 1) := by decide +kernel
theorem dX6_isForce_1 : decode cX6_isForce 1 = .ok (.bipush 10, 2) := by decide +kernel
theorem dX6_isForce_3 : decode cX6_isForce 3 = .ok (.if_icmp .lt 23, 3) := by decide +kernel
theorem dX6_isForce_6 : decode cX6_isForce 6 = .ok (.iload_n 0, 1) := by decide +kernel
theorem dX6_isForce_7 : decode cX6_isForce 7 = .ok (.sipush 999, 3) := by decide +kernel
theorem dX6_isForce_10 : decode cX6_isForce 10 = .ok (.if_icmp .gt 16, 3) := by decide +kernel
theorem dX6_isForce_13 : decode cX6_isForce 13 = .ok (.iload_n 1, 1) := by decide +kernel
theorem dX6_isForce_14 : decode cX6_isForce 14 = .ok (.ifCond .lt 12, 3) := by decide +kernel
theorem dX6_isForce_17 : decode cX6_isForce 17 = .ok (.iload_n 1, 1) := by decide +kernel
theorem dX6_isForce_18 : decode cX6_isForce 18 = .ok (.iconst 2, 1) := by decide +kernel
theorem dX6_isForce_19 : decode cX6_isForce 19 = .ok (.if_icmp .gt 7, 3) := by decide +kernel
theorem dX6_isForce_22 : decode cX6_isForce 22 = .ok (.iconst 1, 1) := by decide +kernel
theorem dX6_isForce_23 : decode cX6_isForce 23 = .ok (.goto 4, 3) := by decide +kernel
theorem dX6_isForce_26 : decode cX6_isForce 26 = .ok (.iconst 0, 1) := by decide +kernel
theorem dX6_isForce_27 : decode cX6_isForce 27 = .ok (.ireturn, 1) := by decide +kernel
set_option maxHeartbeats 4000000 in
set_option maxRecDepth 100000 in
theorem kX6_isForce (l : Launch) (E : Ev) (sg : Int32) (sn : Int32) : KQ l yX6_isForce cX6_isForce 2 (some .boolean) 0 0 E [.int sg, .int sn] [] (QI E [] (fX6_isForce sg sn) []) := by
  refine KQ.mk RX6 rfl (by decide +kernel) (Nat.le_of_ble_eq_true rfl) ?_
  intro p e s m below meth c ls X hr w hl
  have hx := X.1
  have hb := X.2.1
  have hl : lv_has ls 2 [(0, .int sg), (1, .int sn)] := hl
  refine lv_iload_n hx hb dX6_isForce_0 rfl (lv_at hl 0 rfl) ?_
  refine lv_bipush (v := 10) hx hb dX6_isForce_1 (by decide) ?_
  refine lv_icmp_lt (tgt := 26) hx hb dX6_isForce_3 (by decide) (fun c3_1 => ?_) (fun c3_1 => ?_)
  · refine lv_iconst (v := 0) hx hb dX6_isForce_26 (by decide) ?_
    have hq : fX6_isForce sg sn = (0) := by simp only [fX6_isForce, if_pos c3_1]
    rw [hq]
    exact r_zret X w hr (Or.inl rfl) rfl dX6_isForce_27
  · refine lv_iload_n hx hb dX6_isForce_6 rfl (lv_at hl 0 rfl) ?_
    refine lv_sipush (v := 999) hx hb dX6_isForce_7 (by decide) ?_
    refine lv_icmp_gt (tgt := 26) hx hb dX6_isForce_10 (by decide) (fun c10_2 => ?_) (fun c10_2 => ?_)
    · refine lv_iconst (v := 0) hx hb dX6_isForce_26 (by decide) ?_
      have hq : fX6_isForce sg sn = (0) := by simp only [fX6_isForce, if_neg c3_1, if_pos c10_2]
      rw [hq]
      exact r_zret X w hr (Or.inl rfl) rfl dX6_isForce_27
    · refine lv_iload_n hx hb dX6_isForce_13 rfl (lv_at hl 1 rfl) ?_
      refine lv_if_lt (tgt := 26) hx hb dX6_isForce_14 (by decide) (fun c14_3 => ?_) (fun c14_3 => ?_)
      · refine lv_iconst (v := 0) hx hb dX6_isForce_26 (by decide) ?_
        have hq : fX6_isForce sg sn = (0) := by simp only [fX6_isForce, if_neg c3_1, if_neg c10_2, if_pos c14_3]
        rw [hq]
        exact r_zret X w hr (Or.inl rfl) rfl dX6_isForce_27
      · refine lv_iload_n hx hb dX6_isForce_17 rfl (lv_at hl 1 rfl) ?_
        refine lv_iconst (v := 2) hx hb dX6_isForce_18 (by decide) ?_
        refine lv_icmp_gt (tgt := 26) hx hb dX6_isForce_19 (by decide) (fun c19_4 => ?_) (fun c19_4 => ?_)
        · refine lv_iconst (v := 0) hx hb dX6_isForce_26 (by decide) ?_
          have hq : fX6_isForce sg sn = (0) := by simp only [fX6_isForce, if_neg c3_1, if_neg c10_2, if_neg c14_3, if_pos c19_4]
          rw [hq]
          exact r_zret X w hr (Or.inl rfl) rfl dX6_isForce_27
        · refine lv_iconst (v := 1) hx hb dX6_isForce_22 (by decide) ?_
          refine lv_goto (tgt := 27) hx hb dX6_isForce_23 (by decide) ?_
          have hq : fX6_isForce sg sn = (1) := by simp only [fX6_isForce, if_neg c3_1, if_neg c10_2, if_neg c14_3, if_neg c19_4]
          rw [hq]
          exact r_zret X w hr (Or.inr rfl) rfl dX6_isForce_27
theorem zX6_isForce (sg : Int32) (sn : Int32) : fX6_isForce sg sn = 0 ∨ fX6_isForce sg sn = 1 := by
  unfold fX6_isForce
  repeat' split
  all_goals first | exact Or.inl rfl | exact Or.inr rfl | (simp; done) | exact Or.inl rfl
def fX6_isShot (di : Int32) (sg : Int32) (sn : Int32) : Int32 := if (fX1_isDirection di) = 0 then ((0)) else (if (fX6_isForce sg sn) = 0 then ((0)) else ((1)))
theorem dX6_isShot_0 : decode cX6_isShot 0 = .ok (.iload_n 0, 1) := by decide +kernel
theorem dX6_isShot_1 : decode cX6_isShot 1 = .ok (.invokestatic 205, 3) := by decide +kernel
theorem dX6_isShot_4 : decode cX6_isShot 4 = .ok (.ifCond .eq 15, 3) := by decide +kernel
theorem dX6_isShot_7 : decode cX6_isShot 7 = .ok (.iload_n 1, 1) := by decide +kernel
theorem dX6_isShot_8 : decode cX6_isShot 8 = .ok (.iload_n 2, 1) := by decide +kernel
theorem dX6_isShot_9 : decode cX6_isShot 9 = .ok (.invokestatic 232, 3) := by decide +kernel
theorem dX6_isShot_12 : decode cX6_isShot 12 = .ok (.ifCond .eq 7, 3) := by decide +kernel
theorem dX6_isShot_15 : decode cX6_isShot 15 = .ok (.iconst 1, 1) := by decide +kernel
theorem dX6_isShot_16 : decode cX6_isShot 16 = .ok (.goto 4, 3) := by decide +kernel
theorem dX6_isShot_19 : decode cX6_isShot 19 = .ok (.iconst 0, 1) := by decide +kernel
theorem dX6_isShot_20 : decode cX6_isShot 20 = .ok (.ireturn, 1) := by decide +kernel
theorem ck_X6_205 : CkS RX6 205 yX1_isDirection cX1_isDirection 1 (some .boolean) 1 := ⟨wm_X6_205, wst_yX1_isDirection, wi_X1, wc_yX1_isDirection, by decide +kernel⟩
theorem ck_X6_232 : CkS RX6 232 yX6_isForce cX6_isForce 2 (some .boolean) 2 := ⟨wm_X6_232, wst_yX6_isForce, wi_X6, wc_yX6_isForce, by decide +kernel⟩
set_option maxHeartbeats 4000000 in
set_option maxRecDepth 100000 in
theorem kX6_isShot (l : Launch) (E : Ev) (di : Int32) (sg : Int32) (sn : Int32) : KQ l yX6_isShot cX6_isShot 3 (some .boolean) 1 21 E [.int di, .int sg, .int sn] [] (QI E [] (fX6_isShot di sg sn) []) := by
  refine KQ.mk RX6 rfl (by decide +kernel) (Nat.le_of_ble_eq_true rfl) ?_
  intro p e s m below meth c ls X hr w hl
  have hx := X.1
  have hb := X.2.1
  have hl : lv_has ls 3 [(0, .int di), (1, .int sg), (2, .int sn)] := hl
  refine lv_iload_n hx hb dX6_isShot_0 rfl (lv_at hl 0 rfl) ?_
  refine r_ci w (r_runS (As := [.int di]) (rest := []) X w (kX1_isDirection l E di ) ck_X6_205 ⟨Nat.le_of_ble_eq_true rfl, Nat.le_of_ble_eq_true rfl⟩ [] rfl (by decide +kernel) hl.1 (Nat.le_of_ble_eq_true rfl) rfl dX6_isShot_1 ⟨Nat.le_of_ble_eq_true rfl, Nat.le_of_ble_eq_true rfl⟩) ([]) [] rfl (by decide +kernel) rfl rfl (fun H locs w => ?_)
  refine lv_if_eq (tgt := 19) hx hb dX6_isShot_4 (by decide) (fun c4_1 => ?_) (fun c4_1 => ?_)
  · refine lv_iconst (v := 0) hx hb dX6_isShot_19 (by decide) ?_
    have hq : fX6_isShot di sg sn = (0) := by simp only [fX6_isShot, if_pos c4_1]
    rw [hq]
    exact r_zret X w hr (Or.inl rfl) rfl dX6_isShot_20
  · refine lv_iload_n hx hb dX6_isShot_7 rfl (lv_at hl 1 rfl) ?_
    refine lv_iload_n hx hb dX6_isShot_8 rfl (lv_at hl 2 rfl) ?_
    refine r_ci w (r_runS (As := [.int sg, .int sn]) (rest := []) X w (kX6_isForce l E sg sn ) ck_X6_232 ⟨Nat.le_of_ble_eq_true rfl, Nat.le_of_ble_eq_true rfl⟩ [] rfl (by decide +kernel) hl.1 (Nat.le_of_ble_eq_true rfl) rfl dX6_isShot_9 ⟨Nat.le_of_ble_eq_true rfl, Nat.le_of_ble_eq_true rfl⟩) ([]) [] rfl (by decide +kernel) rfl rfl (fun H locs w => ?_)
    refine lv_if_eq (tgt := 19) hx hb dX6_isShot_12 (by decide) (fun c12_2 => ?_) (fun c12_2 => ?_)
    · refine lv_iconst (v := 0) hx hb dX6_isShot_19 (by decide) ?_
      have hq : fX6_isShot di sg sn = (0) := by simp only [fX6_isShot, if_neg c4_1, if_pos c12_2]
      rw [hq]
      exact r_zret X w hr (Or.inl rfl) rfl dX6_isShot_20
    · refine lv_iconst (v := 1) hx hb dX6_isShot_15 (by decide) ?_
      refine lv_goto (tgt := 20) hx hb dX6_isShot_16 (by decide) ?_
      have hq : fX6_isShot di sg sn = (1) := by simp only [fX6_isShot, if_neg c4_1, if_neg c12_2]
      rw [hq]
      exact r_zret X w hr (Or.inr rfl) rfl dX6_isShot_20
theorem zX6_isShot (di : Int32) (sg : Int32) (sn : Int32) : fX6_isShot di sg sn = 0 ∨ fX6_isShot di sg sn = 1 := by
  unfold fX6_isShot
  repeat' split
  all_goals first | exact Or.inl rfl | exact Or.inr rfl | (simp; done) | exact zX1_isDirection _ | exact zX6_isForce _ _
theorem fo_ok {sg sn : Int32} (h : ¬ fX6_isForce sg sn = 0) : 10 ≤ sg.toInt ∧ sg.toInt ≤ 999 := by
  have e1 : sg < 10 ↔ sg.toInt < 10 := by rw [Int32.lt_iff_toInt_lt]; exact Iff.rfl
  have e2 : 999 < sg ↔ 999 < sg.toInt := by rw [Int32.lt_iff_toInt_lt]; exact Iff.rfl
  unfold fX6_isForce at h
  split at h
  · exact absurd rfl h
  · split at h
    · exact absurd rfl h
    · rename_i h1 h2
      rw [e1] at h1
      rw [e2] at h2
      omega
theorem sh_ok {di sg sn : Int32} (h : ¬ fX6_isShot di sg sn = 0) : 10 ≤ sg.toInt ∧ sg.toInt ≤ 999 := by
  unfold fX6_isShot at h
  split at h
  · exact absurd rfl h
  · split at h
    · exact absurd rfl h
    · exact fo_ok ‹_›
theorem in_has {σ : N2} {bl : Int32} (h : ¬ fX4_hasBall σ bl = 0) : vp_in bl 12 := by
  unfold fX4_hasBall at h
  split at h
  · exact absurd rfl h
  · exact in_bn ‹_›
theorem nI_cl {x : Int32} (h : ¬ x < 0) : x = nI x.toNatClampNeg := by
  obtain ⟨j, hj, e⟩ := nI_of h
  rw [e, nI_clamp hj]
theorem kX5_walkI (l : Launch) (E : Ev) (j : Nat) (d : N1) (x : Int32) (h : ¬ x < 0) : KQ l yX5_walk cX5_walk 3 none 3 70 E [.ref j, .int x] (wWk j d) (QV E (wWk j d) (wWk j (wkN d x.toNatClampNeg))) := by
  obtain ⟨N, hN, e⟩ := nI_of h
  subst e
  rw [nI_clamp hN]
  exact kX5_walk l E j d N hN
theorem le_cl (x : Int32) : x ≤ nI x.toNatClampNeg := by
  by_cases h : x < 0
  · obtain ⟨m, hm⟩ : ∃ m : Nat, x.toNatClampNeg = m := ⟨_, rfl⟩
    rw [Int32.le_iff_toInt_le, hm]
    rw [Int32.lt_iff_toInt_lt, Int32.toInt_zero] at h
    have hm0 : m = 0 := by
      rw [← hm, Int32.toNatClampNeg]
      omega
    rw [hm0, show (nI 0).toInt = 0 from rfl]
    omega
  · rw [← nI_cl h]
    exact Int32.le_refl x
theorem lt_cl {x : Int32} {k : Nat} (hk : k < x.toNatClampNeg) : ¬ x ≤ nI k := by
  have h : ¬ x < 0 := by
    intro q
    rw [Int32.lt_iff_toInt_lt, Int32.toInt_zero] at q
    rw [Int32.toNatClampNeg] at hk
    omega
  obtain ⟨j, hj, e⟩ := nI_of h
  subst e
  rw [nI_clamp hj] at hk
  exact nI_ge hk hj
def fX6_put (hs : Int32) (σ : N2) (n : Int32) (o : Nat) (η : Nat → N2) (ce : Int32) (vl : Int32) : Int32 × N2 × Int32 × Nat × (Nat → N2) := if (fX1_isCell ce) = 0 then (((-1), σ, n, o, η)) else (if vl < 1 then (((-2), σ, n, o, η)) else (if vl ≤ 20 then (if (fX4_refusalToAdd σ ce) = (-5) then (((fX4_addBall σ ce vl).1, (fX4_addBall σ ce vl).2, (fX2_record n o η σ).1, (fX2_record n o η σ).2.1, (fX2_record n o η σ).2.2)) else (((fX4_refusalToAdd σ ce), σ, n, o, η))) else (((-2), σ, n, o, η))))
theorem dX6_put_0 : decode cX6_put 0 = .ok (.iload_n 1, 1) := by decide +kernel
theorem dX6_put_1 : decode cX6_put 1 = .ok (.invokestatic 43, 3) := by decide +kernel
theorem dX6_put_4 : decode cX6_put 4 = .ok (.ifCond .ne 5, 3) := by decide +kernel
theorem dX6_put_7 : decode cX6_put 7 = .ok (.iconst (-1), 1) := by decide +kernel
theorem dX6_put_8 : decode cX6_put 8 = .ok (.ireturn, 1) := by decide +kernel
theorem dX6_put_9 : decode cX6_put 9 = .ok (.iload_n 2, 1) := by decide +kernel
theorem dX6_put_10 : decode cX6_put 10 = .ok (.iconst 1, 1) := by decide +kernel
theorem dX6_put_11 : decode cX6_put 11 = .ok (.if_icmp .lt 9, 3) := by decide +kernel
theorem dX6_put_14 : decode cX6_put 14 = .ok (.iload_n 2, 1) := by decide +kernel
theorem dX6_put_15 : decode cX6_put 15 = .ok (.bipush 20, 2) := by decide +kernel
theorem dX6_put_17 : decode cX6_put 17 = .ok (.if_icmp .le 6, 3) := by decide +kernel
theorem dX6_put_20 : decode cX6_put 20 = .ok (.bipush (-2), 2) := by decide +kernel
theorem dX6_put_22 : decode cX6_put 22 = .ok (.ireturn, 1) := by decide +kernel
theorem dX6_put_23 : decode cX6_put 23 = .ok (.aload_n 0, 1) := by decide +kernel
theorem dX6_put_24 : decode cX6_put 24 = .ok (.getfield 10, 3) := by decide +kernel
theorem dX6_put_27 : decode cX6_put 27 = .ok (.iload_n 1, 1) := by decide +kernel
theorem dX6_put_28 : decode cX6_put 28 = .ok (.invokevirtual 49, 3) := by decide +kernel
theorem dX6_put_31 : decode cX6_put 31 = .ok (.istore_n 3, 1) := by decide +kernel
theorem dX6_put_32 : decode cX6_put 32 = .ok (.iload_n 3, 1) := by decide +kernel
theorem dX6_put_33 : decode cX6_put 33 = .ok (.bipush (-5), 2) := by decide +kernel
theorem dX6_put_35 : decode cX6_put 35 = .ok (.if_icmp .eq 5, 3) := by decide +kernel
theorem dX6_put_38 : decode cX6_put 38 = .ok (.iload_n 3, 1) := by decide +kernel
theorem dX6_put_39 : decode cX6_put 39 = .ok (.ireturn, 1) := by decide +kernel
theorem dX6_put_40 : decode cX6_put 40 = .ok (.aload_n 0, 1) := by decide +kernel
theorem dX6_put_41 : decode cX6_put 41 = .ok (.getfield 25, 3) := by decide +kernel
theorem dX6_put_44 : decode cX6_put 44 = .ok (.aload_n 0, 1) := by decide +kernel
theorem dX6_put_45 : decode cX6_put 45 = .ok (.getfield 10, 3) := by decide +kernel
theorem dX6_put_48 : decode cX6_put 48 = .ok (.invokevirtual 53, 3) := by decide +kernel
theorem dX6_put_51 : decode cX6_put 51 = .ok (.aload_n 0, 1) := by decide +kernel
theorem dX6_put_52 : decode cX6_put 52 = .ok (.getfield 10, 3) := by decide +kernel
theorem dX6_put_55 : decode cX6_put 55 = .ok (.iload_n 1, 1) := by decide +kernel
theorem dX6_put_56 : decode cX6_put 56 = .ok (.iload_n 2, 1) := by decide +kernel
theorem dX6_put_57 : decode cX6_put 57 = .ok (.invokevirtual 57, 3) := by decide +kernel
theorem dX6_put_60 : decode cX6_put 60 = .ok (.ireturn, 1) := by decide +kernel
theorem ck_X6_43 : CkS RX6 43 yX1_isCell cX1_isCell 1 (some .boolean) 1 := ⟨wm_X6_43, wst_yX1_isCell, wi_X1, wc_yX1_isCell, by decide +kernel⟩
theorem ck_X6_49 : CkV RX6 49 RX4 yX4_refusalToAdd cX4_refusalToAdd 2 (some .int) 1 := ⟨wm_X6_49, wim_yX4_refusalToAdd, wse_yX4_refusalToAdd, wi_X4, wc_yX4_refusalToAdd, by decide +kernel⟩
theorem ck_X6_53 : CkV RX6 53 RX2 yX2_record cX2_record 2 none 1 := ⟨wm_X6_53, wim_yX2_record, wse_yX2_record, wi_X2, wc_yX2_record, by decide +kernel⟩
theorem ck_X6_57 : CkV RX6 57 RX4 yX4_addBall cX4_addBall 4 (some .int) 2 := ⟨wm_X6_57, wim_yX4_addBall, wse_yX4_addBall, wi_X4, wc_yX4_addBall, by decide +kernel⟩
theorem hc_48 {E : Ev} {a0 p0_0 p0_1 p0_2 p0_3 p0_4 p0_5 : Nat} {n0 : Int32} {a1 : Nat → Nat} {σ1 : N2} {a2 : Nat → Nat} {h2 : Nat → Nat → Nat} {n2 : Int32} {η2 : Nat → N2} {o2 : Nat} : ([1, 2, 3, 4, 5, 6, 7, 8, 9] : List Nat).map (fun i => (wHb a0 p0_0 p0_1 p0_2 p0_3 p0_4 p0_5 n0 ++ (wSt E a1 σ1 ++ wHs E a2 h2 n2 o2 η2))[i]?) = (wSt E a1 σ1).map some := by rw [show wHb a0 p0_0 p0_1 p0_2 p0_3 p0_4 p0_5 n0 ++ (wSt E a1 σ1 ++ (wHs E a2 h2 n2 o2 η2)) = (wHb a0 p0_0 p0_1 p0_2 p0_3 p0_4 p0_5 n0) ++ (wSt E a1 σ1 ++ (wHs E a2 h2 n2 o2 η2)) by simp only [List.append_assoc, List.nil_append, List.append_nil]]; exact get1 (s := 1) (n := 9) rfl rfl
theorem ha_48 {E : Ev} {a1 : Nat → Nat} {σ1 : N2} {τ0_0 : N2} : (wSt E a1 τ0_0).map Prod.fst = (wSt E a1 σ1).map Prod.fst := fst_St
theorem hw_48 {E : Ev} {a0 p0_0 p0_1 p0_2 p0_3 p0_4 p0_5 : Nat} {n0 : Int32} {a1 : Nat → Nat} {σ1 : N2} {a2 : Nat → Nat} {h2 : Nat → Nat → Nat} {n2 : Int32} {η2 : Nat → N2} {o2 : Nat} {τ0_0 : N2} : wput (wHb a0 p0_0 p0_1 p0_2 p0_3 p0_4 p0_5 n0 ++ (wSt E a1 σ1 ++ wHs E a2 h2 n2 o2 η2)) [1, 2, 3, 4, 5, 6, 7, 8, 9] (wSt E a1 τ0_0) = wHb a0 p0_0 p0_1 p0_2 p0_3 p0_4 p0_5 n0 ++ (wSt E a1 τ0_0 ++ wHs E a2 h2 n2 o2 η2) := by
  show wput (wHb a0 p0_0 p0_1 p0_2 p0_3 p0_4 p0_5 n0 ++ (wSt E a1 σ1 ++ (wHs E a2 h2 n2 o2 η2))) (rg 1 9) (wSt E a1 τ0_0) = _
  rw [show wHb a0 p0_0 p0_1 p0_2 p0_3 p0_4 p0_5 n0 ++ (wSt E a1 σ1 ++ (wHs E a2 h2 n2 o2 η2)) = (wHb a0 p0_0 p0_1 p0_2 p0_3 p0_4 p0_5 n0) ++ (wSt E a1 σ1 ++ (wHs E a2 h2 n2 o2 η2)) by simp only [List.append_assoc, List.nil_append, List.append_nil], put1 (s := 1) (n := 9) rfl rfl rfl]
  try simp only [List.append_assoc, List.nil_append, List.append_nil]
theorem hc_49 {E : Ev} {a0 p0_0 p0_1 p0_2 p0_3 p0_4 p0_5 : Nat} {n0 : Int32} {a1 : Nat → Nat} {σ1 : N2} {a2 : Nat → Nat} {h2 : Nat → Nat → Nat} {n2 : Int32} {η2 : Nat → N2} {o2 : Nat} : ([10, 11, 12, 13, 14, 15, 16, 17, 18, 19, 20, 21, 22, 23, 24, 25, 26, 27, 28, 29, 30, 31, 32, 33, 34, 35, 36, 37, 38, 39, 40, 41, 42, 43, 44, 45, 46, 47, 1, 2, 3, 4, 5, 6, 7, 8, 9] : List Nat).map (fun i => (wHb a0 p0_0 p0_1 p0_2 p0_3 p0_4 p0_5 n0 ++ (wSt E a1 σ1 ++ wHs E a2 h2 n2 o2 η2))[i]?) = (wHs E a2 h2 n2 o2 η2 ++ wSt E a1 σ1).map some := get_app (is1 := rg 10 38) (is2 := rg 1 9) (by rw [show wHb a0 p0_0 p0_1 p0_2 p0_3 p0_4 p0_5 n0 ++ (wSt E a1 σ1 ++ (wHs E a2 h2 n2 o2 η2)) = (wHb a0 p0_0 p0_1 p0_2 p0_3 p0_4 p0_5 n0 ++ (wSt E a1 σ1)) ++ (wHs E a2 h2 n2 o2 η2 ++ (([] : va_W))) by simp only [List.append_assoc, List.nil_append, List.append_nil]]; exact get1 (s := 10) (n := 38) rfl rfl) ((by rw [show wHb a0 p0_0 p0_1 p0_2 p0_3 p0_4 p0_5 n0 ++ (wSt E a1 σ1 ++ (wHs E a2 h2 n2 o2 η2)) = (wHb a0 p0_0 p0_1 p0_2 p0_3 p0_4 p0_5 n0) ++ (wSt E a1 σ1 ++ (wHs E a2 h2 n2 o2 η2)) by simp only [List.append_assoc, List.nil_append, List.append_nil]]; exact get1 (s := 1) (n := 9) rfl rfl))
theorem ha_49 {E : Ev} {a1 : Nat → Nat} {σ1 : N2} {a2 : Nat → Nat} {h2 : Nat → Nat → Nat} {n2 : Int32} {η2 : Nat → N2} {o2 : Nat} {τ0_0 : Int32} {τ0_1 : Nat} {τ0_2 : Nat → N2} {τ1_0 : N2} : (wHs E a2 h2 τ0_0 τ0_1 τ0_2 ++ wSt E a1 τ1_0).map Prod.fst = (wHs E a2 h2 n2 o2 η2 ++ wSt E a1 σ1).map Prod.fst := fst_app fst_Hs (fst_St)
theorem hw_49 {E : Ev} {a0 p0_0 p0_1 p0_2 p0_3 p0_4 p0_5 : Nat} {n0 : Int32} {a1 : Nat → Nat} {σ1 : N2} {a2 : Nat → Nat} {h2 : Nat → Nat → Nat} {n2 : Int32} {η2 : Nat → N2} {o2 : Nat} {τ0_0 : Int32} {τ0_1 : Nat} {τ0_2 : Nat → N2} {τ1_0 : N2} : wput (wHb a0 p0_0 p0_1 p0_2 p0_3 p0_4 p0_5 n0 ++ (wSt E a1 σ1 ++ wHs E a2 h2 n2 o2 η2)) [10, 11, 12, 13, 14, 15, 16, 17, 18, 19, 20, 21, 22, 23, 24, 25, 26, 27, 28, 29, 30, 31, 32, 33, 34, 35, 36, 37, 38, 39, 40, 41, 42, 43, 44, 45, 46, 47, 1, 2, 3, 4, 5, 6, 7, 8, 9] (wHs E a2 h2 τ0_0 τ0_1 τ0_2 ++ wSt E a1 τ1_0) = wHb a0 p0_0 p0_1 p0_2 p0_3 p0_4 p0_5 n0 ++ (wSt E a1 τ1_0 ++ wHs E a2 h2 τ0_0 τ0_1 τ0_2) := by
  show wput (wHb a0 p0_0 p0_1 p0_2 p0_3 p0_4 p0_5 n0 ++ (wSt E a1 σ1 ++ (wHs E a2 h2 n2 o2 η2))) (rg 10 38 ++ (rg 1 9)) (wHs E a2 h2 τ0_0 τ0_1 τ0_2 ++ wSt E a1 τ1_0) = _
  rw [wput_app rfl]
  rw [show wHb a0 p0_0 p0_1 p0_2 p0_3 p0_4 p0_5 n0 ++ (wSt E a1 σ1 ++ (wHs E a2 h2 n2 o2 η2)) = (wHb a0 p0_0 p0_1 p0_2 p0_3 p0_4 p0_5 n0 ++ (wSt E a1 σ1)) ++ (wHs E a2 h2 n2 o2 η2 ++ (([] : va_W))) by simp only [List.append_assoc, List.nil_append, List.append_nil], put1 (s := 10) (n := 38) rfl rfl rfl]
  rw [show (wHb a0 p0_0 p0_1 p0_2 p0_3 p0_4 p0_5 n0 ++ (wSt E a1 σ1)) ++ (wHs E a2 h2 τ0_0 τ0_1 τ0_2 ++ (([] : va_W))) = (wHb a0 p0_0 p0_1 p0_2 p0_3 p0_4 p0_5 n0) ++ (wSt E a1 σ1 ++ (wHs E a2 h2 τ0_0 τ0_1 τ0_2)) by simp only [List.append_assoc, List.nil_append, List.append_nil], put1 (s := 1) (n := 9) rfl rfl rfl]
  try simp only [List.append_assoc, List.nil_append, List.append_nil]
set_option maxHeartbeats 4000000 in
set_option maxRecDepth 100000 in
theorem kX6_put (l : Launch) (E : Ev) (h : Nat) (p1 : Nat) (p2 : Nat) (p4 : Nat) (p5 : Nat) (hs : Int32) (sa : Nat → Nat) (σ : N2) (ya : Nat → Nat) (hh : Nat → Nat → Nat) (n : Int32) (o : Nat) (η : Nat → N2) (ce : Int32) (vl : Int32) : KQ l yX6_put cX6_put 4 (some .int) 4 102 E [.ref h, .int ce, .int vl] (wHb h (sa 0) p1 p2 (ya 0) p4 p5 hs ++ (wSt E sa σ ++ wHs E ya hh n o η)) (QI E (wHb h (sa 0) p1 p2 (ya 0) p4 p5 hs ++ (wSt E sa σ ++ wHs E ya hh n o η)) (fX6_put hs σ n o η ce vl).1 (wHb h (sa 0) p1 p2 (ya 0) p4 p5 hs ++ (wSt E sa ((fX6_put hs σ n o η ce vl).2.1) ++ wHs E ya hh ((fX6_put hs σ n o η ce vl).2.2.1) ((fX6_put hs σ n o η ce vl).2.2.2.1) ((fX6_put hs σ n o η ce vl).2.2.2.2)))) := by
  refine KQ.mk RX6 rfl (by decide +kernel) (Nat.le_of_ble_eq_true rfl) ?_
  intro p e s m below meth c ls X hr w hl
  have hx := X.1
  have hb := X.2.1
  have hl : lv_has ls 4 [(0, .ref h), (1, .int ce), (2, .int vl)] := hl
  refine lv_iload_n hx hb dX6_put_0 rfl (lv_at hl 1 rfl) ?_
  refine r_ci w (r_runS (As := [.int ce]) (rest := []) X w (kX1_isCell l E ce ) ck_X6_43 ⟨Nat.le_of_ble_eq_true rfl, Nat.le_of_ble_eq_true rfl⟩ [] rfl (by decide +kernel) hl.1 (Nat.le_of_ble_eq_true rfl) rfl dX6_put_1 ⟨Nat.le_of_ble_eq_true rfl, Nat.le_of_ble_eq_true rfl⟩) (wHb h (sa 0) p1 p2 (ya 0) p4 p5 hs ++ (wSt E sa σ ++ wHs E ya hh n o η)) [] rfl (by decide +kernel) rfl rfl (fun H locs w => ?_)
  refine lv_if_ne (tgt := 9) hx hb dX6_put_4 (by decide) (fun c4_1 => ?_) (fun c4_1 => ?_)
  · refine lv_iload_n hx hb dX6_put_9 rfl (lv_at hl 2 rfl) ?_
    refine lv_iconst (v := 1) hx hb dX6_put_10 (by decide) ?_
    refine lv_icmp_lt (tgt := 20) hx hb dX6_put_11 (by decide) (fun c11_2 => ?_) (fun c11_2 => ?_)
    · refine lv_bipush (v := (-2)) hx hb dX6_put_20 (by decide) ?_
      have hq : fX6_put hs σ n o η ce vl = ((-2), σ, n, o, η) := by simp only [fX6_put, if_neg c4_1, if_pos c11_2]
      obtain ⟨h0_, h1_, h2_, h3_, h4_⟩ := tup5 hq
      rw [h0_, h1_, h2_, h3_, h4_]
      exact r_iret X w hr rfl dX6_put_22
    · refine lv_iload_n hx hb dX6_put_14 rfl (lv_at hl 2 rfl) ?_
      refine lv_bipush (v := 20) hx hb dX6_put_15 (by decide) ?_
      refine lv_icmp_le (tgt := 23) hx hb dX6_put_17 (by decide) (fun c17_3 => ?_) (fun c17_3 => ?_)
      · refine lv_aload_n hx hb dX6_put_23 rfl (lv_at hl 0 rfl) ?_
        refine r_get X w CL6 0 (by decide) wf_X6_10 0 rfl rfl dX6_put_24 ?_
        refine lv_iload_n hx hb dX6_put_27 rfl (lv_at hl 1 rfl) ?_
        refine r_ci w (r_runV (As := [.int ce]) (rest := []) X w (kX4_refusalToAdd l E sa σ ce ) ck_X6_49 ⟨Nat.le_of_ble_eq_true rfl, Nat.le_of_ble_eq_true rfl⟩ [1, 2, 3, 4, 5, 6, 7, 8, 9] (hc_48 (E := E)) (by decide +kernel) (k0 := 0) CL4 rfl hl.1 (Nat.le_of_ble_eq_true rfl) rfl dX6_put_28 ⟨Nat.le_of_ble_eq_true rfl, Nat.le_of_ble_eq_true rfl⟩) (wHb h (sa 0) p1 p2 (ya 0) p4 p5 hs ++ (wSt E sa σ ++ wHs E ya hh n o η)) [1, 2, 3, 4, 5, 6, 7, 8, 9] (hc_48 (E := E)) (by decide +kernel) (ha_48 (E := E)) (hw_48 (E := E)) (fun H locs w => ?_)
        refine lv_istore_n (lv' := [(3, .int (fX4_refusalToAdd σ ce)), (0, .ref h), (1, .int ce), (2, .int vl)]) hx hb dX6_put_31 rfl hl (by decide) rfl (fun ls hl => ?_)
        refine lv_iload_n hx hb dX6_put_32 rfl (lv_at hl 0 rfl) ?_
        refine lv_bipush (v := (-5)) hx hb dX6_put_33 (by decide) ?_
        refine lv_icmp_eq (tgt := 40) hx hb dX6_put_35 (by decide) (fun c35_4 => ?_) (fun c35_4 => ?_)
        · refine lv_aload_n hx hb dX6_put_40 rfl (lv_at hl 1 rfl) ?_
          refine r_get X w CL6 3 (by decide) wf_X6_25 0 rfl rfl dX6_put_41 ?_
          refine lv_aload_n hx hb dX6_put_44 rfl (lv_at hl 1 rfl) ?_
          refine r_get X w CL6 0 (by decide) wf_X6_10 0 rfl rfl dX6_put_45 ?_
          refine r_cv w (r_runV (As := [.ref (sa 0)]) (rest := []) X w (kX2_record l E ya hh n o η sa σ ) ck_X6_53 ⟨Nat.le_of_ble_eq_true rfl, Nat.le_of_ble_eq_true rfl⟩ [10, 11, 12, 13, 14, 15, 16, 17, 18, 19, 20, 21, 22, 23, 24, 25, 26, 27, 28, 29, 30, 31, 32, 33, 34, 35, 36, 37, 38, 39, 40, 41, 42, 43, 44, 45, 46, 47, 1, 2, 3, 4, 5, 6, 7, 8, 9] (hc_49 (E := E)) (by decide +kernel) (k0 := 0) CL2 rfl hl.1 (Nat.le_of_ble_eq_true rfl) rfl dX6_put_48 ⟨Nat.le_of_ble_eq_true rfl, Nat.le_of_ble_eq_true rfl⟩) (wHb h (sa 0) p1 p2 (ya 0) p4 p5 hs ++ (wSt E sa σ ++ wHs E ya hh ((fX2_record n o η σ).1) ((fX2_record n o η σ).2.1) ((fX2_record n o η σ).2.2))) [10, 11, 12, 13, 14, 15, 16, 17, 18, 19, 20, 21, 22, 23, 24, 25, 26, 27, 28, 29, 30, 31, 32, 33, 34, 35, 36, 37, 38, 39, 40, 41, 42, 43, 44, 45, 46, 47, 1, 2, 3, 4, 5, 6, 7, 8, 9] (hc_49 (E := E)) (by decide +kernel) (ha_49 (E := E)) (hw_49 (E := E)) (fun H locs w => ?_)
          refine lv_aload_n hx hb dX6_put_51 rfl (lv_at hl 1 rfl) ?_
          refine r_get X w CL6 0 (by decide) wf_X6_10 0 rfl rfl dX6_put_52 ?_
          refine lv_iload_n hx hb dX6_put_55 rfl (lv_at hl 2 rfl) ?_
          refine lv_iload_n hx hb dX6_put_56 rfl (lv_at hl 3 rfl) ?_
          refine r_ci w (r_runV (As := [.int ce, .int vl]) (rest := []) X w (kX4_addBall l E sa σ ce vl ) ck_X6_57 ⟨Nat.le_of_ble_eq_true rfl, Nat.le_of_ble_eq_true rfl⟩ [1, 2, 3, 4, 5, 6, 7, 8, 9] (hc_48 (E := E)) (by decide +kernel) (k0 := 0) CL4 rfl hl.1 (Nat.le_of_ble_eq_true rfl) rfl dX6_put_57 ⟨Nat.le_of_ble_eq_true rfl, Nat.le_of_ble_eq_true rfl⟩) (wHb h (sa 0) p1 p2 (ya 0) p4 p5 hs ++ (wSt E sa ((fX4_addBall σ ce vl).2) ++ wHs E ya hh ((fX2_record n o η σ).1) ((fX2_record n o η σ).2.1) ((fX2_record n o η σ).2.2))) [1, 2, 3, 4, 5, 6, 7, 8, 9] (hc_48 (E := E)) (by decide +kernel) (ha_48 (E := E)) (hw_48 (E := E)) (fun H locs w => ?_)
          have hq : fX6_put hs σ n o η ce vl = ((fX4_addBall σ ce vl).1, (fX4_addBall σ ce vl).2, (fX2_record n o η σ).1, (fX2_record n o η σ).2.1, (fX2_record n o η σ).2.2) := by simp only [fX6_put, if_neg c4_1, if_neg c11_2, if_pos c17_3, if_pos c35_4]
          obtain ⟨h0_, h1_, h2_, h3_, h4_⟩ := tup5 hq
          rw [h0_, h1_, h2_, h3_, h4_]
          exact r_iret X w hr rfl dX6_put_60
        · refine lv_iload_n hx hb dX6_put_38 rfl (lv_at hl 0 rfl) ?_
          have hq : fX6_put hs σ n o η ce vl = ((fX4_refusalToAdd σ ce), σ, n, o, η) := by simp only [fX6_put, if_neg c4_1, if_neg c11_2, if_pos c17_3, if_neg c35_4]
          obtain ⟨h0_, h1_, h2_, h3_, h4_⟩ := tup5 hq
          rw [h0_, h1_, h2_, h3_, h4_]
          exact r_iret X w hr rfl dX6_put_39
      · refine lv_bipush (v := (-2)) hx hb dX6_put_20 (by decide) ?_
        have hq : fX6_put hs σ n o η ce vl = ((-2), σ, n, o, η) := by simp only [fX6_put, if_neg c4_1, if_neg c11_2, if_neg c17_3]
        obtain ⟨h0_, h1_, h2_, h3_, h4_⟩ := tup5 hq
        rw [h0_, h1_, h2_, h3_, h4_]
        exact r_iret X w hr rfl dX6_put_22
  · refine lv_iconst (v := (-1)) hx hb dX6_put_7 (by decide) ?_
    have hq : fX6_put hs σ n o η ce vl = ((-1), σ, n, o, η) := by simp only [fX6_put, if_pos c4_1]
    obtain ⟨h0_, h1_, h2_, h3_, h4_⟩ := tup5 hq
    rw [h0_, h1_, h2_, h3_, h4_]
    exact r_iret X w hr rfl dX6_put_8
def fX6_move (hs : Int32) (σ : N2) (n : Int32) (o : Nat) (η : Nat → N2) (bl : Int32) (ce : Int32) : Int32 × N2 × Int32 × Nat × (Nat → N2) := if (fX4_hasBall σ bl) = 0 then (((-1), σ, n, o, η)) else (if (fX1_isCell ce) = 0 then (((-1), σ, n, o, η)) else (if (fX4_cellOfBall σ bl) = ce then (((-5), σ, n, o, η)) else (if (fX4_ballOnCell σ ce) = (-5) then (((fX4_cellOfBall σ bl), (fX4_place σ bl ce), (fX2_record n o η σ).1, (fX2_record n o η σ).2.1, (fX2_record n o η σ).2.2)) else (((-4), σ, n, o, η)))))
theorem dX6_move_0 : decode cX6_move 0 = .ok (.aload_n 0, 1) := by decide +kernel
theorem dX6_move_1 : decode cX6_move 1 = .ok (.getfield 10, 3) := by decide +kernel
theorem dX6_move_4 : decode cX6_move 4 = .ok (.iload_n 1, 1) := by decide +kernel
theorem dX6_move_5 : decode cX6_move 5 = .ok (.invokevirtual 78, 3) := by decide +kernel
theorem dX6_move_8 : decode cX6_move 8 = .ok (.ifCond .eq 10, 3) := by decide +kernel
theorem dX6_move_11 : decode cX6_move 11 = .ok (.iload_n 2, 1) := by decide +kernel
theorem dX6_move_12 : decode cX6_move 12 = .ok (.invokestatic 43, 3) := by decide +kernel
theorem dX6_move_15 : decode cX6_move 15 = .ok (.ifCond .ne 5, 3) := by decide +kernel
theorem dX6_move_18 : decode cX6_move 18 = .ok (.iconst (-1), 1) := by decide +kernel
theorem dX6_move_19 : decode cX6_move 19 = .ok (.ireturn, 1) := by decide +kernel
theorem dX6_move_20 : decode cX6_move 20 = .ok (.aload_n 0, 1) := by decide +kernel
theorem dX6_move_21 : decode cX6_move 21 = .ok (.getfield 10, 3) := by decide +kernel
theorem dX6_move_24 : decode cX6_move 24 = .ok (.iload_n 1, 1) := by decide +kernel
theorem dX6_move_25 : decode cX6_move 25 = .ok (.invokevirtual 81, 3) := by decide +kernel
theorem dX6_move_28 : decode cX6_move 28 = .ok (.istore_n 3, 1) := by decide +kernel
theorem dX6_move_29 : decode cX6_move 29 = .ok (.iload_n 3, 1) := by decide +kernel
theorem dX6_move_30 : decode cX6_move 30 = .ok (.iload_n 2, 1) := by decide +kernel
theorem dX6_move_31 : decode cX6_move 31 = .ok (.if_icmp .ne 6, 3) := by decide +kernel
theorem dX6_move_34 : decode cX6_move 34 = .ok (.bipush (-5), 2) := by decide +kernel
theorem dX6_move_36 : decode cX6_move 36 = .ok (.ireturn, 1) := by decide +kernel
theorem dX6_move_37 : decode cX6_move 37 = .ok (.aload_n 0, 1) := by decide +kernel
theorem dX6_move_38 : decode cX6_move 38 = .ok (.getfield 10, 3) := by decide +kernel
theorem dX6_move_41 : decode cX6_move 41 = .ok (.iload_n 2, 1) := by decide +kernel
theorem dX6_move_42 : decode cX6_move 42 = .ok (.invokevirtual 82, 3) := by decide +kernel
theorem dX6_move_45 : decode cX6_move 45 = .ok (.bipush (-5), 2) := by decide +kernel
theorem dX6_move_47 : decode cX6_move 47 = .ok (.if_icmp .eq 6, 3) := by decide +kernel
theorem dX6_move_50 : decode cX6_move 50 = .ok (.bipush (-4), 2) := by decide +kernel
theorem dX6_move_52 : decode cX6_move 52 = .ok (.ireturn, 1) := by decide +kernel
theorem dX6_move_53 : decode cX6_move 53 = .ok (.aload_n 0, 1) := by decide +kernel
theorem dX6_move_54 : decode cX6_move 54 = .ok (.getfield 25, 3) := by decide +kernel
theorem dX6_move_57 : decode cX6_move 57 = .ok (.aload_n 0, 1) := by decide +kernel
theorem dX6_move_58 : decode cX6_move 58 = .ok (.getfield 10, 3) := by decide +kernel
theorem dX6_move_61 : decode cX6_move 61 = .ok (.invokevirtual 53, 3) := by decide +kernel
theorem dX6_move_64 : decode cX6_move 64 = .ok (.aload_n 0, 1) := by decide +kernel
theorem dX6_move_65 : decode cX6_move 65 = .ok (.getfield 10, 3) := by decide +kernel
theorem dX6_move_68 : decode cX6_move 68 = .ok (.iload_n 1, 1) := by decide +kernel
theorem dX6_move_69 : decode cX6_move 69 = .ok (.iload_n 2, 1) := by decide +kernel
theorem dX6_move_70 : decode cX6_move 70 = .ok (.invokevirtual 85, 3) := by decide +kernel
theorem dX6_move_73 : decode cX6_move 73 = .ok (.iload_n 3, 1) := by decide +kernel
theorem dX6_move_74 : decode cX6_move 74 = .ok (.ireturn, 1) := by decide +kernel
theorem ck_X6_78 : CkV RX6 78 RX4 yX4_hasBall cX4_hasBall 2 (some .boolean) 1 := ⟨wm_X6_78, wim_yX4_hasBall, wse_yX4_hasBall, wi_X4, wc_yX4_hasBall, by decide +kernel⟩
theorem ck_X6_81 : CkV RX6 81 RX4 yX4_cellOfBall cX4_cellOfBall 2 (some .int) 1 := ⟨wm_X6_81, wim_yX4_cellOfBall, wse_yX4_cellOfBall, wi_X4, wc_yX4_cellOfBall, by decide +kernel⟩
theorem ck_X6_82 : CkV RX6 82 RX4 yX4_ballOnCell cX4_ballOnCell 2 (some .int) 1 := ⟨wm_X6_82, wim_yX4_ballOnCell, wse_yX4_ballOnCell, wi_X4, wc_yX4_ballOnCell, by decide +kernel⟩
theorem ck_X6_85 : CkV RX6 85 RX4 yX4_place cX4_place 3 none 2 := ⟨wm_X6_85, wim_yX4_place, wse_yX4_place, wi_X4, wc_yX4_place, by decide +kernel⟩
set_option maxHeartbeats 4000000 in
set_option maxRecDepth 100000 in
theorem kX6_move (l : Launch) (E : Ev) (h : Nat) (p1 : Nat) (p2 : Nat) (p4 : Nat) (p5 : Nat) (hs : Int32) (sa : Nat → Nat) (σ : N2) (ya : Nat → Nat) (hh : Nat → Nat → Nat) (n : Int32) (o : Nat) (η : Nat → N2) (bl : Int32) (ce : Int32) : KQ l yX6_move cX6_move 4 (some .int) 3 102 E [.ref h, .int bl, .int ce] (wHb h (sa 0) p1 p2 (ya 0) p4 p5 hs ++ (wSt E sa σ ++ wHs E ya hh n o η)) (QI E (wHb h (sa 0) p1 p2 (ya 0) p4 p5 hs ++ (wSt E sa σ ++ wHs E ya hh n o η)) (fX6_move hs σ n o η bl ce).1 (wHb h (sa 0) p1 p2 (ya 0) p4 p5 hs ++ (wSt E sa ((fX6_move hs σ n o η bl ce).2.1) ++ wHs E ya hh ((fX6_move hs σ n o η bl ce).2.2.1) ((fX6_move hs σ n o η bl ce).2.2.2.1) ((fX6_move hs σ n o η bl ce).2.2.2.2)))) := by
  refine KQ.mk RX6 rfl (by decide +kernel) (Nat.le_of_ble_eq_true rfl) ?_
  intro p e s m below meth c ls X hr w hl
  have hx := X.1
  have hb := X.2.1
  have hl : lv_has ls 4 [(0, .ref h), (1, .int bl), (2, .int ce)] := hl
  refine lv_aload_n hx hb dX6_move_0 rfl (lv_at hl 0 rfl) ?_
  refine r_get X w CL6 0 (by decide) wf_X6_10 0 rfl rfl dX6_move_1 ?_
  refine lv_iload_n hx hb dX6_move_4 rfl (lv_at hl 1 rfl) ?_
  refine r_ci w (r_runV (As := [.int bl]) (rest := []) X w (kX4_hasBall l E sa σ bl ) ck_X6_78 ⟨Nat.le_of_ble_eq_true rfl, Nat.le_of_ble_eq_true rfl⟩ [1, 2, 3, 4, 5, 6, 7, 8, 9] (hc_48 (E := E)) (by decide +kernel) (k0 := 0) CL4 rfl hl.1 (Nat.le_of_ble_eq_true rfl) rfl dX6_move_5 ⟨Nat.le_of_ble_eq_true rfl, Nat.le_of_ble_eq_true rfl⟩) (wHb h (sa 0) p1 p2 (ya 0) p4 p5 hs ++ (wSt E sa σ ++ wHs E ya hh n o η)) [1, 2, 3, 4, 5, 6, 7, 8, 9] (hc_48 (E := E)) (by decide +kernel) (ha_48 (E := E)) (hw_48 (E := E)) (fun H locs w => ?_)
  refine lv_if_eq (tgt := 18) hx hb dX6_move_8 (by decide) (fun c8_1 => ?_) (fun c8_1 => ?_)
  · refine lv_iconst (v := (-1)) hx hb dX6_move_18 (by decide) ?_
    have hq : fX6_move hs σ n o η bl ce = ((-1), σ, n, o, η) := by simp only [fX6_move, if_pos c8_1]
    obtain ⟨h0_, h1_, h2_, h3_, h4_⟩ := tup5 hq
    rw [h0_, h1_, h2_, h3_, h4_]
    exact r_iret X w hr rfl dX6_move_19
  · refine lv_iload_n hx hb dX6_move_11 rfl (lv_at hl 2 rfl) ?_
    refine r_ci w (r_runS (As := [.int ce]) (rest := []) X w (kX1_isCell l E ce ) ck_X6_43 ⟨Nat.le_of_ble_eq_true rfl, Nat.le_of_ble_eq_true rfl⟩ [] rfl (by decide +kernel) hl.1 (Nat.le_of_ble_eq_true rfl) rfl dX6_move_12 ⟨Nat.le_of_ble_eq_true rfl, Nat.le_of_ble_eq_true rfl⟩) (wHb h (sa 0) p1 p2 (ya 0) p4 p5 hs ++ (wSt E sa σ ++ wHs E ya hh n o η)) [] rfl (by decide +kernel) rfl rfl (fun H locs w => ?_)
    refine lv_if_ne (tgt := 20) hx hb dX6_move_15 (by decide) (fun c15_2 => ?_) (fun c15_2 => ?_)
    · refine lv_aload_n hx hb dX6_move_20 rfl (lv_at hl 0 rfl) ?_
      refine r_get X w CL6 0 (by decide) wf_X6_10 0 rfl rfl dX6_move_21 ?_
      refine lv_iload_n hx hb dX6_move_24 rfl (lv_at hl 1 rfl) ?_
      refine r_ci w (r_runV (As := [.int bl]) (rest := []) X w (kX4_cellOfBall l E sa σ bl ) ck_X6_81 ⟨Nat.le_of_ble_eq_true rfl, Nat.le_of_ble_eq_true rfl⟩ [1, 2, 3, 4, 5, 6, 7, 8, 9] (hc_48 (E := E)) (by decide +kernel) (k0 := 0) CL4 rfl hl.1 (Nat.le_of_ble_eq_true rfl) rfl dX6_move_25 ⟨Nat.le_of_ble_eq_true rfl, Nat.le_of_ble_eq_true rfl⟩) (wHb h (sa 0) p1 p2 (ya 0) p4 p5 hs ++ (wSt E sa σ ++ wHs E ya hh n o η)) [1, 2, 3, 4, 5, 6, 7, 8, 9] (hc_48 (E := E)) (by decide +kernel) (ha_48 (E := E)) (hw_48 (E := E)) (fun H locs w => ?_)
      refine lv_istore_n (lv' := [(3, .int (fX4_cellOfBall σ bl)), (0, .ref h), (1, .int bl), (2, .int ce)]) hx hb dX6_move_28 rfl hl (by decide) rfl (fun ls hl => ?_)
      refine lv_iload_n hx hb dX6_move_29 rfl (lv_at hl 0 rfl) ?_
      refine lv_iload_n hx hb dX6_move_30 rfl (lv_at hl 3 rfl) ?_
      refine lv_icmp_ne (tgt := 37) hx hb dX6_move_31 (by decide) (fun c31_3 => ?_) (fun c31_3 => ?_)
      · refine lv_aload_n hx hb dX6_move_37 rfl (lv_at hl 1 rfl) ?_
        refine r_get X w CL6 0 (by decide) wf_X6_10 0 rfl rfl dX6_move_38 ?_
        refine lv_iload_n hx hb dX6_move_41 rfl (lv_at hl 3 rfl) ?_
        refine r_ci w (r_runV (As := [.int ce]) (rest := []) X w (kX4_ballOnCell l E sa σ ce ) ck_X6_82 ⟨Nat.le_of_ble_eq_true rfl, Nat.le_of_ble_eq_true rfl⟩ [1, 2, 3, 4, 5, 6, 7, 8, 9] (hc_48 (E := E)) (by decide +kernel) (k0 := 0) CL4 rfl hl.1 (Nat.le_of_ble_eq_true rfl) rfl dX6_move_42 ⟨Nat.le_of_ble_eq_true rfl, Nat.le_of_ble_eq_true rfl⟩) (wHb h (sa 0) p1 p2 (ya 0) p4 p5 hs ++ (wSt E sa σ ++ wHs E ya hh n o η)) [1, 2, 3, 4, 5, 6, 7, 8, 9] (hc_48 (E := E)) (by decide +kernel) (ha_48 (E := E)) (hw_48 (E := E)) (fun H locs w => ?_)
        refine lv_bipush (v := (-5)) hx hb dX6_move_45 (by decide) ?_
        refine lv_icmp_eq (tgt := 53) hx hb dX6_move_47 (by decide) (fun c47_4 => ?_) (fun c47_4 => ?_)
        · refine lv_aload_n hx hb dX6_move_53 rfl (lv_at hl 1 rfl) ?_
          refine r_get X w CL6 3 (by decide) wf_X6_25 0 rfl rfl dX6_move_54 ?_
          refine lv_aload_n hx hb dX6_move_57 rfl (lv_at hl 1 rfl) ?_
          refine r_get X w CL6 0 (by decide) wf_X6_10 0 rfl rfl dX6_move_58 ?_
          refine r_cv w (r_runV (As := [.ref (sa 0)]) (rest := []) X w (kX2_record l E ya hh n o η sa σ ) ck_X6_53 ⟨Nat.le_of_ble_eq_true rfl, Nat.le_of_ble_eq_true rfl⟩ [10, 11, 12, 13, 14, 15, 16, 17, 18, 19, 20, 21, 22, 23, 24, 25, 26, 27, 28, 29, 30, 31, 32, 33, 34, 35, 36, 37, 38, 39, 40, 41, 42, 43, 44, 45, 46, 47, 1, 2, 3, 4, 5, 6, 7, 8, 9] (hc_49 (E := E)) (by decide +kernel) (k0 := 0) CL2 rfl hl.1 (Nat.le_of_ble_eq_true rfl) rfl dX6_move_61 ⟨Nat.le_of_ble_eq_true rfl, Nat.le_of_ble_eq_true rfl⟩) (wHb h (sa 0) p1 p2 (ya 0) p4 p5 hs ++ (wSt E sa σ ++ wHs E ya hh ((fX2_record n o η σ).1) ((fX2_record n o η σ).2.1) ((fX2_record n o η σ).2.2))) [10, 11, 12, 13, 14, 15, 16, 17, 18, 19, 20, 21, 22, 23, 24, 25, 26, 27, 28, 29, 30, 31, 32, 33, 34, 35, 36, 37, 38, 39, 40, 41, 42, 43, 44, 45, 46, 47, 1, 2, 3, 4, 5, 6, 7, 8, 9] (hc_49 (E := E)) (by decide +kernel) (ha_49 (E := E)) (hw_49 (E := E)) (fun H locs w => ?_)
          refine lv_aload_n hx hb dX6_move_64 rfl (lv_at hl 1 rfl) ?_
          refine r_get X w CL6 0 (by decide) wf_X6_10 0 rfl rfl dX6_move_65 ?_
          refine lv_iload_n hx hb dX6_move_68 rfl (lv_at hl 2 rfl) ?_
          refine lv_iload_n hx hb dX6_move_69 rfl (lv_at hl 3 rfl) ?_
          refine r_cv w (r_runV (As := [.int bl, .int ce]) (rest := []) X w (kX4_place l E sa σ bl ce ) ck_X6_85 ⟨Nat.le_of_ble_eq_true rfl, Nat.le_of_ble_eq_true rfl⟩ [1, 2, 3, 4, 5, 6, 7, 8, 9] (hc_48 (E := E)) (by decide +kernel) (k0 := 0) CL4 rfl hl.1 (Nat.le_of_ble_eq_true rfl) rfl dX6_move_70 ⟨Nat.le_of_ble_eq_true rfl, Nat.le_of_ble_eq_true rfl⟩) (wHb h (sa 0) p1 p2 (ya 0) p4 p5 hs ++ (wSt E sa (fX4_place σ bl ce) ++ wHs E ya hh ((fX2_record n o η σ).1) ((fX2_record n o η σ).2.1) ((fX2_record n o η σ).2.2))) [1, 2, 3, 4, 5, 6, 7, 8, 9] (hc_48 (E := E)) (by decide +kernel) (ha_48 (E := E)) (hw_48 (E := E)) (fun H locs w => ?_)
          refine lv_iload_n hx hb dX6_move_73 rfl (lv_at hl 0 rfl) ?_
          have hq : fX6_move hs σ n o η bl ce = ((fX4_cellOfBall σ bl), (fX4_place σ bl ce), (fX2_record n o η σ).1, (fX2_record n o η σ).2.1, (fX2_record n o η σ).2.2) := by simp only [fX6_move, if_neg c8_1, if_neg c15_2, if_neg c31_3, if_pos c47_4]
          obtain ⟨h0_, h1_, h2_, h3_, h4_⟩ := tup5 hq
          rw [h0_, h1_, h2_, h3_, h4_]
          exact r_iret X w hr rfl dX6_move_74
        · refine lv_bipush (v := (-4)) hx hb dX6_move_50 (by decide) ?_
          have hq : fX6_move hs σ n o η bl ce = ((-4), σ, n, o, η) := by simp only [fX6_move, if_neg c8_1, if_neg c15_2, if_neg c31_3, if_neg c47_4]
          obtain ⟨h0_, h1_, h2_, h3_, h4_⟩ := tup5 hq
          rw [h0_, h1_, h2_, h3_, h4_]
          exact r_iret X w hr rfl dX6_move_52
      · refine lv_bipush (v := (-5)) hx hb dX6_move_34 (by decide) ?_
        have hq : fX6_move hs σ n o η bl ce = ((-5), σ, n, o, η) := by simp only [fX6_move, if_neg c8_1, if_neg c15_2, if_pos c31_3]
        obtain ⟨h0_, h1_, h2_, h3_, h4_⟩ := tup5 hq
        rw [h0_, h1_, h2_, h3_, h4_]
        exact r_iret X w hr rfl dX6_move_36
    · refine lv_iconst (v := (-1)) hx hb dX6_move_18 (by decide) ?_
      have hq : fX6_move hs σ n o η bl ce = ((-1), σ, n, o, η) := by simp only [fX6_move, if_neg c8_1, if_pos c15_2]
      obtain ⟨h0_, h1_, h2_, h3_, h4_⟩ := tup5 hq
      rw [h0_, h1_, h2_, h3_, h4_]
      exact r_iret X w hr rfl dX6_move_19
def fX6_takeOff (hs : Int32) (σ : N2) (n : Int32) (o : Nat) (η : Nat → N2) (bl : Int32) : Int32 × N2 × Int32 × Nat × (Nat → N2) := if (fX4_hasBall σ bl) = 0 then (((-1), σ, n, o, η)) else (((fX4_cellOfBall σ bl), (fX4_lift σ bl), (fX2_record n o η σ).1, (fX2_record n o η σ).2.1, (fX2_record n o η σ).2.2))
theorem dX6_takeOff_0 : decode cX6_takeOff 0 = .ok (.aload_n 0, 1) := by decide +kernel
theorem dX6_takeOff_1 : decode cX6_takeOff 1 = .ok (.getfield 10, 3) := by decide +kernel
theorem dX6_takeOff_4 : decode cX6_takeOff 4 = .ok (.iload_n 1, 1) := by decide +kernel
theorem dX6_takeOff_5 : decode cX6_takeOff 5 = .ok (.invokevirtual 78, 3) := by decide +kernel
theorem dX6_takeOff_8 : decode cX6_takeOff 8 = .ok (.ifCond .ne 5, 3) := by decide +kernel
theorem dX6_takeOff_11 : decode cX6_takeOff 11 = .ok (.iconst (-1), 1) := by decide +kernel
theorem dX6_takeOff_12 : decode cX6_takeOff 12 = .ok (.ireturn, 1) := by decide +kernel
theorem dX6_takeOff_13 : decode cX6_takeOff 13 = .ok (.aload_n 0, 1) := by decide +kernel
theorem dX6_takeOff_14 : decode cX6_takeOff 14 = .ok (.getfield 10, 3) := by decide +kernel
theorem dX6_takeOff_17 : decode cX6_takeOff 17 = .ok (.iload_n 1, 1) := by decide +kernel
theorem dX6_takeOff_18 : decode cX6_takeOff 18 = .ok (.invokevirtual 81, 3) := by decide +kernel
theorem dX6_takeOff_21 : decode cX6_takeOff 21 = .ok (.istore_n 2, 1) := by decide +kernel
theorem dX6_takeOff_22 : decode cX6_takeOff 22 = .ok (.aload_n 0, 1) := by decide +kernel
theorem dX6_takeOff_23 : decode cX6_takeOff 23 = .ok (.getfield 25, 3) := by decide +kernel
theorem dX6_takeOff_26 : decode cX6_takeOff 26 = .ok (.aload_n 0, 1) := by decide +kernel
theorem dX6_takeOff_27 : decode cX6_takeOff 27 = .ok (.getfield 10, 3) := by decide +kernel
theorem dX6_takeOff_30 : decode cX6_takeOff 30 = .ok (.invokevirtual 53, 3) := by decide +kernel
theorem dX6_takeOff_33 : decode cX6_takeOff 33 = .ok (.aload_n 0, 1) := by decide +kernel
theorem dX6_takeOff_34 : decode cX6_takeOff 34 = .ok (.getfield 10, 3) := by decide +kernel
theorem dX6_takeOff_37 : decode cX6_takeOff 37 = .ok (.iload_n 1, 1) := by decide +kernel
theorem dX6_takeOff_38 : decode cX6_takeOff 38 = .ok (.invokevirtual 89, 3) := by decide +kernel
theorem dX6_takeOff_41 : decode cX6_takeOff 41 = .ok (.iload_n 2, 1) := by decide +kernel
theorem dX6_takeOff_42 : decode cX6_takeOff 42 = .ok (.ireturn, 1) := by decide +kernel
theorem ck_X6_89 : CkV RX6 89 RX4 yX4_lift cX4_lift 2 none 1 := ⟨wm_X6_89, wim_yX4_lift, wse_yX4_lift, wi_X4, wc_yX4_lift, by decide +kernel⟩
set_option maxHeartbeats 4000000 in
set_option maxRecDepth 100000 in
theorem kX6_takeOff (l : Launch) (E : Ev) (h : Nat) (p1 : Nat) (p2 : Nat) (p4 : Nat) (p5 : Nat) (hs : Int32) (sa : Nat → Nat) (σ : N2) (ya : Nat → Nat) (hh : Nat → Nat → Nat) (n : Int32) (o : Nat) (η : Nat → N2) (bl : Int32) : KQ l yX6_takeOff cX6_takeOff 3 (some .int) 3 102 E [.ref h, .int bl] (wHb h (sa 0) p1 p2 (ya 0) p4 p5 hs ++ (wSt E sa σ ++ wHs E ya hh n o η)) (QI E (wHb h (sa 0) p1 p2 (ya 0) p4 p5 hs ++ (wSt E sa σ ++ wHs E ya hh n o η)) (fX6_takeOff hs σ n o η bl).1 (wHb h (sa 0) p1 p2 (ya 0) p4 p5 hs ++ (wSt E sa ((fX6_takeOff hs σ n o η bl).2.1) ++ wHs E ya hh ((fX6_takeOff hs σ n o η bl).2.2.1) ((fX6_takeOff hs σ n o η bl).2.2.2.1) ((fX6_takeOff hs σ n o η bl).2.2.2.2)))) := by
  refine KQ.mk RX6 rfl (by decide +kernel) (Nat.le_of_ble_eq_true rfl) ?_
  intro p e s m below meth c ls X hr w hl
  have hx := X.1
  have hb := X.2.1
  have hl : lv_has ls 3 [(0, .ref h), (1, .int bl)] := hl
  refine lv_aload_n hx hb dX6_takeOff_0 rfl (lv_at hl 0 rfl) ?_
  refine r_get X w CL6 0 (by decide) wf_X6_10 0 rfl rfl dX6_takeOff_1 ?_
  refine lv_iload_n hx hb dX6_takeOff_4 rfl (lv_at hl 1 rfl) ?_
  refine r_ci w (r_runV (As := [.int bl]) (rest := []) X w (kX4_hasBall l E sa σ bl ) ck_X6_78 ⟨Nat.le_of_ble_eq_true rfl, Nat.le_of_ble_eq_true rfl⟩ [1, 2, 3, 4, 5, 6, 7, 8, 9] (hc_48 (E := E)) (by decide +kernel) (k0 := 0) CL4 rfl hl.1 (Nat.le_of_ble_eq_true rfl) rfl dX6_takeOff_5 ⟨Nat.le_of_ble_eq_true rfl, Nat.le_of_ble_eq_true rfl⟩) (wHb h (sa 0) p1 p2 (ya 0) p4 p5 hs ++ (wSt E sa σ ++ wHs E ya hh n o η)) [1, 2, 3, 4, 5, 6, 7, 8, 9] (hc_48 (E := E)) (by decide +kernel) (ha_48 (E := E)) (hw_48 (E := E)) (fun H locs w => ?_)
  refine lv_if_ne (tgt := 13) hx hb dX6_takeOff_8 (by decide) (fun c8_1 => ?_) (fun c8_1 => ?_)
  · refine lv_aload_n hx hb dX6_takeOff_13 rfl (lv_at hl 0 rfl) ?_
    refine r_get X w CL6 0 (by decide) wf_X6_10 0 rfl rfl dX6_takeOff_14 ?_
    refine lv_iload_n hx hb dX6_takeOff_17 rfl (lv_at hl 1 rfl) ?_
    refine r_ci w (r_runV (As := [.int bl]) (rest := []) X w (kX4_cellOfBall l E sa σ bl ) ck_X6_81 ⟨Nat.le_of_ble_eq_true rfl, Nat.le_of_ble_eq_true rfl⟩ [1, 2, 3, 4, 5, 6, 7, 8, 9] (hc_48 (E := E)) (by decide +kernel) (k0 := 0) CL4 rfl hl.1 (Nat.le_of_ble_eq_true rfl) rfl dX6_takeOff_18 ⟨Nat.le_of_ble_eq_true rfl, Nat.le_of_ble_eq_true rfl⟩) (wHb h (sa 0) p1 p2 (ya 0) p4 p5 hs ++ (wSt E sa σ ++ wHs E ya hh n o η)) [1, 2, 3, 4, 5, 6, 7, 8, 9] (hc_48 (E := E)) (by decide +kernel) (ha_48 (E := E)) (hw_48 (E := E)) (fun H locs w => ?_)
    refine lv_istore_n (lv' := [(2, .int (fX4_cellOfBall σ bl)), (0, .ref h), (1, .int bl)]) hx hb dX6_takeOff_21 rfl hl (by decide) rfl (fun ls hl => ?_)
    refine lv_aload_n hx hb dX6_takeOff_22 rfl (lv_at hl 1 rfl) ?_
    refine r_get X w CL6 3 (by decide) wf_X6_25 0 rfl rfl dX6_takeOff_23 ?_
    refine lv_aload_n hx hb dX6_takeOff_26 rfl (lv_at hl 1 rfl) ?_
    refine r_get X w CL6 0 (by decide) wf_X6_10 0 rfl rfl dX6_takeOff_27 ?_
    refine r_cv w (r_runV (As := [.ref (sa 0)]) (rest := []) X w (kX2_record l E ya hh n o η sa σ ) ck_X6_53 ⟨Nat.le_of_ble_eq_true rfl, Nat.le_of_ble_eq_true rfl⟩ [10, 11, 12, 13, 14, 15, 16, 17, 18, 19, 20, 21, 22, 23, 24, 25, 26, 27, 28, 29, 30, 31, 32, 33, 34, 35, 36, 37, 38, 39, 40, 41, 42, 43, 44, 45, 46, 47, 1, 2, 3, 4, 5, 6, 7, 8, 9] (hc_49 (E := E)) (by decide +kernel) (k0 := 0) CL2 rfl hl.1 (Nat.le_of_ble_eq_true rfl) rfl dX6_takeOff_30 ⟨Nat.le_of_ble_eq_true rfl, Nat.le_of_ble_eq_true rfl⟩) (wHb h (sa 0) p1 p2 (ya 0) p4 p5 hs ++ (wSt E sa σ ++ wHs E ya hh ((fX2_record n o η σ).1) ((fX2_record n o η σ).2.1) ((fX2_record n o η σ).2.2))) [10, 11, 12, 13, 14, 15, 16, 17, 18, 19, 20, 21, 22, 23, 24, 25, 26, 27, 28, 29, 30, 31, 32, 33, 34, 35, 36, 37, 38, 39, 40, 41, 42, 43, 44, 45, 46, 47, 1, 2, 3, 4, 5, 6, 7, 8, 9] (hc_49 (E := E)) (by decide +kernel) (ha_49 (E := E)) (hw_49 (E := E)) (fun H locs w => ?_)
    refine lv_aload_n hx hb dX6_takeOff_33 rfl (lv_at hl 1 rfl) ?_
    refine r_get X w CL6 0 (by decide) wf_X6_10 0 rfl rfl dX6_takeOff_34 ?_
    refine lv_iload_n hx hb dX6_takeOff_37 rfl (lv_at hl 2 rfl) ?_
    refine r_cv w (r_runV (As := [.int bl]) (rest := []) X w (kX4_lift l E sa σ bl ) ck_X6_89 ⟨Nat.le_of_ble_eq_true rfl, Nat.le_of_ble_eq_true rfl⟩ [1, 2, 3, 4, 5, 6, 7, 8, 9] (hc_48 (E := E)) (by decide +kernel) (k0 := 0) CL4 rfl hl.1 (Nat.le_of_ble_eq_true rfl) rfl dX6_takeOff_38 ⟨Nat.le_of_ble_eq_true rfl, Nat.le_of_ble_eq_true rfl⟩) (wHb h (sa 0) p1 p2 (ya 0) p4 p5 hs ++ (wSt E sa (fX4_lift σ bl) ++ wHs E ya hh ((fX2_record n o η σ).1) ((fX2_record n o η σ).2.1) ((fX2_record n o η σ).2.2))) [1, 2, 3, 4, 5, 6, 7, 8, 9] (hc_48 (E := E)) (by decide +kernel) (ha_48 (E := E)) (hw_48 (E := E)) (fun H locs w => ?_)
    refine lv_iload_n hx hb dX6_takeOff_41 rfl (lv_at hl 0 rfl) ?_
    have hq : fX6_takeOff hs σ n o η bl = ((fX4_cellOfBall σ bl), (fX4_lift σ bl), (fX2_record n o η σ).1, (fX2_record n o η σ).2.1, (fX2_record n o η σ).2.2) := by simp only [fX6_takeOff, if_neg c8_1]
    obtain ⟨h0_, h1_, h2_, h3_, h4_⟩ := tup5 hq
    rw [h0_, h1_, h2_, h3_, h4_]
    exact r_iret X w hr rfl dX6_takeOff_42
  · refine lv_iconst (v := (-1)) hx hb dX6_takeOff_11 (by decide) ?_
    have hq : fX6_takeOff hs σ n o η bl = ((-1), σ, n, o, η) := by simp only [fX6_takeOff, if_pos c8_1]
    obtain ⟨h0_, h1_, h2_, h3_, h4_⟩ := tup5 hq
    rw [h0_, h1_, h2_, h3_, h4_]
    exact r_iret X w hr rfl dX6_takeOff_12
def fX6_setPots (hs : Int32) (σ : N2) (n : Int32) (o : Nat) (η : Nat → N2) (op : Int32) : Int32 × N2 × Int32 × Nat × (Nat → N2) := if op < 0 then (((-2), σ, n, o, η)) else (if op ≤ 63 then (if (σ 8 1) = op then (((-5), σ, n, o, η)) else ((σ 8 1, u2 σ 8 1 op, (fX2_record n o η σ).1, (fX2_record n o η σ).2.1, (fX2_record n o η σ).2.2))) else (((-2), σ, n, o, η)))
theorem dX6_setPots_0 : decode cX6_setPots 0 = .ok (.iload_n 1, 1) := by decide +kernel
theorem dX6_setPots_1 : decode cX6_setPots 1 = .ok (.ifCond .lt 9, 3) := by decide +kernel
theorem dX6_setPots_4 : decode cX6_setPots 4 = .ok (.iload_n 1, 1) := by decide +kernel
theorem dX6_setPots_5 : decode cX6_setPots 5 = .ok (.bipush 63, 2) := by decide +kernel
theorem dX6_setPots_7 : decode cX6_setPots 7 = .ok (.if_icmp .le 6, 3) := by decide +kernel
theorem dX6_setPots_10 : decode cX6_setPots 10 = .ok (.bipush (-2), 2) := by decide +kernel
theorem dX6_setPots_12 : decode cX6_setPots 12 = .ok (.ireturn, 1) := by decide +kernel
theorem dX6_setPots_13 : decode cX6_setPots 13 = .ok (.aload_n 0, 1) := by decide +kernel
theorem dX6_setPots_14 : decode cX6_setPots 14 = .ok (.getfield 10, 3) := by decide +kernel
theorem dX6_setPots_17 : decode cX6_setPots 17 = .ok (.getfield 93, 3) := by decide +kernel
theorem dX6_setPots_20 : decode cX6_setPots 20 = .ok (.istore_n 2, 1) := by decide +kernel
theorem dX6_setPots_21 : decode cX6_setPots 21 = .ok (.iload_n 2, 1) := by decide +kernel
theorem dX6_setPots_22 : decode cX6_setPots 22 = .ok (.iload_n 1, 1) := by decide +kernel
theorem dX6_setPots_23 : decode cX6_setPots 23 = .ok (.if_icmp .ne 6, 3) := by decide +kernel
theorem dX6_setPots_26 : decode cX6_setPots 26 = .ok (.bipush (-5), 2) := by decide +kernel
theorem dX6_setPots_28 : decode cX6_setPots 28 = .ok (.ireturn, 1) := by decide +kernel
theorem dX6_setPots_29 : decode cX6_setPots 29 = .ok (.aload_n 0, 1) := by decide +kernel
theorem dX6_setPots_30 : decode cX6_setPots 30 = .ok (.getfield 25, 3) := by decide +kernel
theorem dX6_setPots_33 : decode cX6_setPots 33 = .ok (.aload_n 0, 1) := by decide +kernel
theorem dX6_setPots_34 : decode cX6_setPots 34 = .ok (.getfield 10, 3) := by decide +kernel
theorem dX6_setPots_37 : decode cX6_setPots 37 = .ok (.invokevirtual 53, 3) := by decide +kernel
theorem dX6_setPots_40 : decode cX6_setPots 40 = .ok (.aload_n 0, 1) := by decide +kernel
theorem dX6_setPots_41 : decode cX6_setPots 41 = .ok (.getfield 10, 3) := by decide +kernel
theorem dX6_setPots_44 : decode cX6_setPots 44 = .ok (.iload_n 1, 1) := by decide +kernel
theorem dX6_setPots_45 : decode cX6_setPots 45 = .ok (.putfield 93, 3) := by decide +kernel
theorem dX6_setPots_48 : decode cX6_setPots 48 = .ok (.iload_n 2, 1) := by decide +kernel
theorem dX6_setPots_49 : decode cX6_setPots 49 = .ok (.ireturn, 1) := by decide +kernel
theorem ax_50 {E : Ev} {a0 p0_0 p0_1 p0_2 p0_3 p0_4 p0_5 : Nat} {n0 : Int32} {a1 : Nat → Nat} {σ1 : N2} {a2 : Nat → Nat} {h2 : Nat → Nat → Nat} {n2 : Int32} {η2 : Nat → N2} {o2 : Nat} {x : Int32} : (wHb a0 p0_0 p0_1 p0_2 p0_3 p0_4 p0_5 n0 ++ (wSt E a1 σ1 ++ wHs E a2 h2 n2 o2 η2)).set 1 (a1 0, .inr (3, ([.ref (a1 1), .ref (a1 2), .ref (a1 3), .ref (a1 4), .ref (a1 5), .ref (a1 6), .ref (a1 7), .ref (a1 8), .int (σ1 8 0), .int (σ1 8 1), .int (σ1 8 2), .int (σ1 8 3), .int (σ1 8 4), .int (σ1 8 5)] : List Value).set 9 (.int x))) = wHb a0 p0_0 p0_1 p0_2 p0_3 p0_4 p0_5 n0 ++ (wSt E a1 (u2 σ1 8 1 x) ++ wHs E a2 h2 n2 o2 η2) := rfl
set_option maxHeartbeats 4000000 in
set_option maxRecDepth 100000 in
theorem kX6_setPots (l : Launch) (E : Ev) (h : Nat) (p1 : Nat) (p2 : Nat) (p4 : Nat) (p5 : Nat) (hs : Int32) (sa : Nat → Nat) (σ : N2) (ya : Nat → Nat) (hh : Nat → Nat → Nat) (n : Int32) (o : Nat) (η : Nat → N2) (op : Int32) : KQ l yX6_setPots cX6_setPots 3 (some .int) 3 102 E [.ref h, .int op] (wHb h (sa 0) p1 p2 (ya 0) p4 p5 hs ++ (wSt E sa σ ++ wHs E ya hh n o η)) (QI E (wHb h (sa 0) p1 p2 (ya 0) p4 p5 hs ++ (wSt E sa σ ++ wHs E ya hh n o η)) (fX6_setPots hs σ n o η op).1 (wHb h (sa 0) p1 p2 (ya 0) p4 p5 hs ++ (wSt E sa ((fX6_setPots hs σ n o η op).2.1) ++ wHs E ya hh ((fX6_setPots hs σ n o η op).2.2.1) ((fX6_setPots hs σ n o η op).2.2.2.1) ((fX6_setPots hs σ n o η op).2.2.2.2)))) := by
  refine KQ.mk RX6 rfl (by decide +kernel) (Nat.le_of_ble_eq_true rfl) ?_
  intro p e s m below meth c ls X hr w hl
  have hx := X.1
  have hb := X.2.1
  have hl : lv_has ls 3 [(0, .ref h), (1, .int op)] := hl
  refine lv_iload_n hx hb dX6_setPots_0 rfl (lv_at hl 1 rfl) ?_
  refine lv_if_lt (tgt := 10) hx hb dX6_setPots_1 (by decide) (fun c1_1 => ?_) (fun c1_1 => ?_)
  · refine lv_bipush (v := (-2)) hx hb dX6_setPots_10 (by decide) ?_
    have hq : fX6_setPots hs σ n o η op = ((-2), σ, n, o, η) := by simp only [fX6_setPots, if_pos c1_1]
    obtain ⟨h0_, h1_, h2_, h3_, h4_⟩ := tup5 hq
    rw [h0_, h1_, h2_, h3_, h4_]
    exact r_iret X w hr rfl dX6_setPots_12
  · refine lv_iload_n hx hb dX6_setPots_4 rfl (lv_at hl 1 rfl) ?_
    refine lv_bipush (v := 63) hx hb dX6_setPots_5 (by decide) ?_
    refine lv_icmp_le (tgt := 13) hx hb dX6_setPots_7 (by decide) (fun c7_2 => ?_) (fun c7_2 => ?_)
    · refine lv_aload_n hx hb dX6_setPots_13 rfl (lv_at hl 0 rfl) ?_
      refine r_get X w CL6 0 (by decide) wf_X6_10 0 rfl rfl dX6_setPots_14 ?_
      refine r_getN X w CL4 9 (by decide) nl_24 1 rfl rfl dX6_setPots_17 ?_
      refine lv_istore_n (lv' := [(2, .int (σ 8 1)), (0, .ref h), (1, .int op)]) hx hb dX6_setPots_20 rfl hl (by decide) rfl (fun ls hl => ?_)
      refine lv_iload_n hx hb dX6_setPots_21 rfl (lv_at hl 0 rfl) ?_
      refine lv_iload_n hx hb dX6_setPots_22 rfl (lv_at hl 2 rfl) ?_
      refine lv_icmp_ne (tgt := 29) hx hb dX6_setPots_23 (by decide) (fun c23_3 => ?_) (fun c23_3 => ?_)
      · refine lv_aload_n hx hb dX6_setPots_29 rfl (lv_at hl 1 rfl) ?_
        refine r_get X w CL6 3 (by decide) wf_X6_25 0 rfl rfl dX6_setPots_30 ?_
        refine lv_aload_n hx hb dX6_setPots_33 rfl (lv_at hl 1 rfl) ?_
        refine r_get X w CL6 0 (by decide) wf_X6_10 0 rfl rfl dX6_setPots_34 ?_
        refine r_cv w (r_runV (As := [.ref (sa 0)]) (rest := []) X w (kX2_record l E ya hh n o η sa σ ) ck_X6_53 ⟨Nat.le_of_ble_eq_true rfl, Nat.le_of_ble_eq_true rfl⟩ [10, 11, 12, 13, 14, 15, 16, 17, 18, 19, 20, 21, 22, 23, 24, 25, 26, 27, 28, 29, 30, 31, 32, 33, 34, 35, 36, 37, 38, 39, 40, 41, 42, 43, 44, 45, 46, 47, 1, 2, 3, 4, 5, 6, 7, 8, 9] (hc_49 (E := E)) (by decide +kernel) (k0 := 0) CL2 rfl hl.1 (Nat.le_of_ble_eq_true rfl) rfl dX6_setPots_37 ⟨Nat.le_of_ble_eq_true rfl, Nat.le_of_ble_eq_true rfl⟩) (wHb h (sa 0) p1 p2 (ya 0) p4 p5 hs ++ (wSt E sa σ ++ wHs E ya hh ((fX2_record n o η σ).1) ((fX2_record n o η σ).2.1) ((fX2_record n o η σ).2.2))) [10, 11, 12, 13, 14, 15, 16, 17, 18, 19, 20, 21, 22, 23, 24, 25, 26, 27, 28, 29, 30, 31, 32, 33, 34, 35, 36, 37, 38, 39, 40, 41, 42, 43, 44, 45, 46, 47, 1, 2, 3, 4, 5, 6, 7, 8, 9] (hc_49 (E := E)) (by decide +kernel) (ha_49 (E := E)) (hw_49 (E := E)) (fun H locs w => ?_)
        refine lv_aload_n hx hb dX6_setPots_40 rfl (lv_at hl 1 rfl) ?_
        refine r_get X w CL6 0 (by decide) wf_X6_10 0 rfl rfl dX6_setPots_41 ?_
        refine lv_iload_n hx hb dX6_setPots_44 rfl (lv_at hl 2 rfl) ?_
        refine r_putN X w (wHb h (sa 0) p1 p2 (ya 0) p4 p5 hs ++ (wSt E sa (u2 σ 8 1 op) ++ wHs E ya hh ((fX2_record n o η σ).1) ((fX2_record n o η σ).2.1) ((fX2_record n o η σ).2.2))) CL4 9 (by decide) nl_24 1 rfl rfl rfl rfl (Nat.le_of_ble_eq_true rfl) (ax_50 (E := E)) dX6_setPots_45 (fun H locs w => ?_)
        refine lv_iload_n hx hb dX6_setPots_48 rfl (lv_at hl 0 rfl) ?_
        have hq : fX6_setPots hs σ n o η op = (σ 8 1, u2 σ 8 1 op, (fX2_record n o η σ).1, (fX2_record n o η σ).2.1, (fX2_record n o η σ).2.2) := by simp only [fX6_setPots, if_neg c1_1, if_pos c7_2, if_neg c23_3]
        obtain ⟨h0_, h1_, h2_, h3_, h4_⟩ := tup5 hq
        rw [h0_, h1_, h2_, h3_, h4_]
        exact r_iret X w hr rfl dX6_setPots_49
      · refine lv_bipush (v := (-5)) hx hb dX6_setPots_26 (by decide) ?_
        have hq : fX6_setPots hs σ n o η op = ((-5), σ, n, o, η) := by simp only [fX6_setPots, if_neg c1_1, if_pos c7_2, if_pos c23_3]
        obtain ⟨h0_, h1_, h2_, h3_, h4_⟩ := tup5 hq
        rw [h0_, h1_, h2_, h3_, h4_]
        exact r_iret X w hr rfl dX6_setPots_28
    · refine lv_bipush (v := (-2)) hx hb dX6_setPots_10 (by decide) ?_
      have hq : fX6_setPots hs σ n o η op = ((-2), σ, n, o, η) := by simp only [fX6_setPots, if_neg c1_1, if_neg c7_2]
      obtain ⟨h0_, h1_, h2_, h3_, h4_⟩ := tup5 hq
      rw [h0_, h1_, h2_, h3_, h4_]
      exact r_iret X w hr rfl dX6_setPots_12
def fX6_set (hs : Int32) (σ : N2) (n : Int32) (o : Nat) (η : Nat → N2) (wh : Int32) (vl : Int32) : Int32 × N2 × Int32 × Nat × (Nat → N2) := if wh < 0 then (((-2), σ, n, o, η)) else (if wh < 3 then (if vl < (sT 0 wh.toNatClampNeg) then (((-2), σ, n, o, η)) else (if vl ≤ (sT 1 wh.toNatClampNeg) then (if (σ 6 wh.toNatClampNeg) = vl then (((-5), σ, n, o, η)) else ((σ 6 wh.toNatClampNeg, u2 σ 6 wh.toNatClampNeg vl, (fX2_record n o η σ).1, (fX2_record n o η σ).2.1, (fX2_record n o η σ).2.2))) else (((-2), σ, n, o, η)))) else (((-2), σ, n, o, η)))
theorem dX6_set_0 : decode cX6_set 0 = .ok (.iload_n 1, 1) := by decide +kernel
theorem dX6_set_1 : decode cX6_set 1 = .ok (.ifCond .lt 8, 3) := by decide +kernel
theorem dX6_set_4 : decode cX6_set 4 = .ok (.iload_n 1, 1) := by decide +kernel
theorem dX6_set_5 : decode cX6_set 5 = .ok (.iconst 3, 1) := by decide +kernel
theorem dX6_set_6 : decode cX6_set 6 = .ok (.if_icmp .lt 6, 3) := by decide +kernel
theorem dX6_set_9 : decode cX6_set 9 = .ok (.bipush (-2), 2) := by decide +kernel
theorem dX6_set_11 : decode cX6_set 11 = .ok (.ireturn, 1) := by decide +kernel
theorem dX6_set_12 : decode cX6_set 12 = .ok (.iload_n 2, 1) := by decide +kernel
theorem dX6_set_13 : decode cX6_set 13 = .ok (.getstatic 96, 3) := by decide +kernel
theorem dX6_set_16 : decode cX6_set 16 = .ok (.iload_n 1, 1) := by decide +kernel
theorem dX6_set_17 : decode cX6_set 17 = .ok (.iaload, 1) := by decide +kernel
theorem dX6_set_18 : decode cX6_set 18 = .ok (.if_icmp .lt 12, 3) := by decide +kernel
theorem dX6_set_21 : decode cX6_set 21 = .ok (.iload_n 2, 1) := by decide +kernel
theorem dX6_set_22 : decode cX6_set 22 = .ok (.getstatic 100, 3) := by decide +kernel
theorem dX6_set_25 : decode cX6_set 25 = .ok (.iload_n 1, 1) := by decide +kernel
theorem dX6_set_26 : decode cX6_set 26 = .ok (.iaload, 1) := by decide +kernel
theorem dX6_set_27 : decode cX6_set 27 = .ok (.if_icmp .le 6, 3) := by decide +kernel
theorem dX6_set_30 : decode cX6_set 30 = .ok (.bipush (-2), 2) := by decide +kernel
theorem dX6_set_32 : decode cX6_set 32 = .ok (.ireturn, 1) := by decide +kernel
theorem dX6_set_33 : decode cX6_set 33 = .ok (.aload_n 0, 1) := by decide +kernel
theorem dX6_set_34 : decode cX6_set 34 = .ok (.getfield 10, 3) := by decide +kernel
theorem dX6_set_37 : decode cX6_set 37 = .ok (.getfield 103, 3) := by decide +kernel
theorem dX6_set_40 : decode cX6_set 40 = .ok (.iload_n 1, 1) := by decide +kernel
theorem dX6_set_41 : decode cX6_set 41 = .ok (.iaload, 1) := by decide +kernel
theorem dX6_set_42 : decode cX6_set 42 = .ok (.istore_n 3, 1) := by decide +kernel
theorem dX6_set_43 : decode cX6_set 43 = .ok (.iload_n 3, 1) := by decide +kernel
theorem dX6_set_44 : decode cX6_set 44 = .ok (.iload_n 2, 1) := by decide +kernel
theorem dX6_set_45 : decode cX6_set 45 = .ok (.if_icmp .ne 6, 3) := by decide +kernel
theorem dX6_set_48 : decode cX6_set 48 = .ok (.bipush (-5), 2) := by decide +kernel
theorem dX6_set_50 : decode cX6_set 50 = .ok (.ireturn, 1) := by decide +kernel
theorem dX6_set_51 : decode cX6_set 51 = .ok (.aload_n 0, 1) := by decide +kernel
theorem dX6_set_52 : decode cX6_set 52 = .ok (.getfield 25, 3) := by decide +kernel
theorem dX6_set_55 : decode cX6_set 55 = .ok (.aload_n 0, 1) := by decide +kernel
theorem dX6_set_56 : decode cX6_set 56 = .ok (.getfield 10, 3) := by decide +kernel
theorem dX6_set_59 : decode cX6_set 59 = .ok (.invokevirtual 53, 3) := by decide +kernel
theorem dX6_set_62 : decode cX6_set 62 = .ok (.aload_n 0, 1) := by decide +kernel
theorem dX6_set_63 : decode cX6_set 63 = .ok (.getfield 10, 3) := by decide +kernel
theorem dX6_set_66 : decode cX6_set 66 = .ok (.getfield 103, 3) := by decide +kernel
theorem dX6_set_69 : decode cX6_set 69 = .ok (.iload_n 1, 1) := by decide +kernel
theorem dX6_set_70 : decode cX6_set 70 = .ok (.iload_n 2, 1) := by decide +kernel
theorem dX6_set_71 : decode cX6_set 71 = .ok (.iastore, 1) := by decide +kernel
theorem dX6_set_72 : decode cX6_set 72 = .ok (.iload_n 3, 1) := by decide +kernel
theorem dX6_set_73 : decode cX6_set 73 = .ok (.ireturn, 1) := by decide +kernel
theorem ax_51 {E : Ev} {a0 p0_0 p0_1 p0_2 p0_3 p0_4 p0_5 : Nat} {n0 : Int32} {a1 : Nat → Nat} {σ1 : N2} {a2 : Nat → Nat} {h2 : Nat → Nat → Nat} {n2 : Int32} {η2 : Nat → N2} {o2 : Nat} {i x : Int32} : (wHb a0 p0_0 p0_1 p0_2 p0_3 p0_4 p0_5 n0 ++ (wSt E a1 σ1 ++ wHs E a2 h2 n2 o2 η2)).set 8 (a1 7, .inl (E.2.1.1, 3, .inl (upd (σ1 6) i.toNatClampNeg x))) = wHb a0 p0_0 p0_1 p0_2 p0_3 p0_4 p0_5 n0 ++ (wSt E a1 (u2 σ1 6 i.toNatClampNeg x) ++ wHs E a2 h2 n2 o2 η2) := rfl
set_option maxHeartbeats 4000000 in
set_option maxRecDepth 100000 in
theorem kX6_set (l : Launch) (E : Ev) (h : Nat) (p1 : Nat) (p2 : Nat) (p4 : Nat) (p5 : Nat) (hs : Int32) (sa : Nat → Nat) (σ : N2) (ya : Nat → Nat) (hh : Nat → Nat → Nat) (n : Int32) (o : Nat) (η : Nat → N2) (wh : Int32) (vl : Int32) : KQ l yX6_set cX6_set 4 (some .int) 3 102 E [.ref h, .int wh, .int vl] (wHb h (sa 0) p1 p2 (ya 0) p4 p5 hs ++ (wSt E sa σ ++ wHs E ya hh n o η)) (QI E (wHb h (sa 0) p1 p2 (ya 0) p4 p5 hs ++ (wSt E sa σ ++ wHs E ya hh n o η)) (fX6_set hs σ n o η wh vl).1 (wHb h (sa 0) p1 p2 (ya 0) p4 p5 hs ++ (wSt E sa ((fX6_set hs σ n o η wh vl).2.1) ++ wHs E ya hh ((fX6_set hs σ n o η wh vl).2.2.1) ((fX6_set hs σ n o η wh vl).2.2.2.1) ((fX6_set hs σ n o η wh vl).2.2.2.2)))) := by
  refine KQ.mk RX6 rfl (by decide +kernel) (Nat.le_of_ble_eq_true rfl) ?_
  intro p e s m below meth c ls X hr w hl
  have hx := X.1
  have hb := X.2.1
  have hl : lv_has ls 4 [(0, .ref h), (1, .int wh), (2, .int vl)] := hl
  refine lv_iload_n hx hb dX6_set_0 rfl (lv_at hl 1 rfl) ?_
  refine lv_if_lt (tgt := 9) hx hb dX6_set_1 (by decide) (fun c1_1 => ?_) (fun c1_1 => ?_)
  · refine lv_bipush (v := (-2)) hx hb dX6_set_9 (by decide) ?_
    have hq : fX6_set hs σ n o η wh vl = ((-2), σ, n, o, η) := by simp only [fX6_set, if_pos c1_1]
    obtain ⟨h0_, h1_, h2_, h3_, h4_⟩ := tup5 hq
    rw [h0_, h1_, h2_, h3_, h4_]
    exact r_iret X w hr rfl dX6_set_11
  · refine lv_iload_n hx hb dX6_set_4 rfl (lv_at hl 1 rfl) ?_
    refine lv_iconst (v := 3) hx hb dX6_set_5 (by decide) ?_
    refine lv_icmp_lt (tgt := 12) hx hb dX6_set_6 (by decide) (fun c6_2 => ?_) (fun c6_2 => ?_)
    · refine lv_iload_n hx hb dX6_set_12 rfl (lv_at hl 2 rfl) ?_
      refine r_gets X w 0 rfl wf_X6_96 dX6_set_13 ?_
      refine lv_iload_n hx hb dX6_set_16 rfl (lv_at hl 1 rfl) ?_
      refine r_tald X w 0 rfl rfl (N := 3) (vin_lt 3 rfl c1_1 c6_2) dX6_set_17 ?_
      refine lv_icmp_lt (tgt := 30) hx hb dX6_set_18 (by decide) (fun c18_3 => ?_) (fun c18_3 => ?_)
      · refine lv_bipush (v := (-2)) hx hb dX6_set_30 (by decide) ?_
        have hq : fX6_set hs σ n o η wh vl = ((-2), σ, n, o, η) := by simp only [fX6_set, if_neg c1_1, if_pos c6_2, if_pos c18_3]
        obtain ⟨h0_, h1_, h2_, h3_, h4_⟩ := tup5 hq
        rw [h0_, h1_, h2_, h3_, h4_]
        exact r_iret X w hr rfl dX6_set_32
      · refine lv_iload_n hx hb dX6_set_21 rfl (lv_at hl 2 rfl) ?_
        refine r_gets X w 1 rfl wf_X6_100 dX6_set_22 ?_
        refine lv_iload_n hx hb dX6_set_25 rfl (lv_at hl 1 rfl) ?_
        refine r_tald X w 1 rfl rfl (N := 3) (vin_lt 3 rfl c1_1 c6_2) dX6_set_26 ?_
        refine lv_icmp_le (tgt := 33) hx hb dX6_set_27 (by decide) (fun c27_4 => ?_) (fun c27_4 => ?_)
        · refine lv_aload_n hx hb dX6_set_33 rfl (lv_at hl 0 rfl) ?_
          refine r_get X w CL6 0 (by decide) wf_X6_10 0 rfl rfl dX6_set_34 ?_
          refine r_getN X w CL4 6 (by decide) nl_26 1 rfl rfl dX6_set_37 ?_
          refine lv_iload_n hx hb dX6_set_40 rfl (lv_at hl 1 rfl) ?_
          refine r_iald X w 8 rfl (vin_lt 3 rfl c1_1 c6_2) dX6_set_41 ?_
          refine lv_istore_n (lv' := [(3, .int (σ 6 wh.toNatClampNeg)), (0, .ref h), (1, .int wh), (2, .int vl)]) hx hb dX6_set_42 rfl hl (by decide) rfl (fun ls hl => ?_)
          refine lv_iload_n hx hb dX6_set_43 rfl (lv_at hl 0 rfl) ?_
          refine lv_iload_n hx hb dX6_set_44 rfl (lv_at hl 3 rfl) ?_
          refine lv_icmp_ne (tgt := 51) hx hb dX6_set_45 (by decide) (fun c45_5 => ?_) (fun c45_5 => ?_)
          · refine lv_aload_n hx hb dX6_set_51 rfl (lv_at hl 1 rfl) ?_
            refine r_get X w CL6 3 (by decide) wf_X6_25 0 rfl rfl dX6_set_52 ?_
            refine lv_aload_n hx hb dX6_set_55 rfl (lv_at hl 1 rfl) ?_
            refine r_get X w CL6 0 (by decide) wf_X6_10 0 rfl rfl dX6_set_56 ?_
            refine r_cv w (r_runV (As := [.ref (sa 0)]) (rest := []) X w (kX2_record l E ya hh n o η sa σ ) ck_X6_53 ⟨Nat.le_of_ble_eq_true rfl, Nat.le_of_ble_eq_true rfl⟩ [10, 11, 12, 13, 14, 15, 16, 17, 18, 19, 20, 21, 22, 23, 24, 25, 26, 27, 28, 29, 30, 31, 32, 33, 34, 35, 36, 37, 38, 39, 40, 41, 42, 43, 44, 45, 46, 47, 1, 2, 3, 4, 5, 6, 7, 8, 9] (hc_49 (E := E)) (by decide +kernel) (k0 := 0) CL2 rfl hl.1 (Nat.le_of_ble_eq_true rfl) rfl dX6_set_59 ⟨Nat.le_of_ble_eq_true rfl, Nat.le_of_ble_eq_true rfl⟩) (wHb h (sa 0) p1 p2 (ya 0) p4 p5 hs ++ (wSt E sa σ ++ wHs E ya hh ((fX2_record n o η σ).1) ((fX2_record n o η σ).2.1) ((fX2_record n o η σ).2.2))) [10, 11, 12, 13, 14, 15, 16, 17, 18, 19, 20, 21, 22, 23, 24, 25, 26, 27, 28, 29, 30, 31, 32, 33, 34, 35, 36, 37, 38, 39, 40, 41, 42, 43, 44, 45, 46, 47, 1, 2, 3, 4, 5, 6, 7, 8, 9] (hc_49 (E := E)) (by decide +kernel) (ha_49 (E := E)) (hw_49 (E := E)) (fun H locs w => ?_)
            refine lv_aload_n hx hb dX6_set_62 rfl (lv_at hl 1 rfl) ?_
            refine r_get X w CL6 0 (by decide) wf_X6_10 0 rfl rfl dX6_set_63 ?_
            refine r_getN X w CL4 6 (by decide) nl_26 1 rfl rfl dX6_set_66 ?_
            refine lv_iload_n hx hb dX6_set_69 rfl (lv_at hl 2 rfl) ?_
            refine lv_iload_n hx hb dX6_set_70 rfl (lv_at hl 3 rfl) ?_
            refine r_iast X w (wHb h (sa 0) p1 p2 (ya 0) p4 p5 hs ++ (wSt E sa (u2 σ 6 wh.toNatClampNeg vl) ++ wHs E ya hh ((fX2_record n o η σ).1) ((fX2_record n o η σ).2.1) ((fX2_record n o η σ).2.2))) 8 rfl (vin_lt 3 rfl c1_1 c6_2) (ax_51 (E := E)) dX6_set_71 (fun H locs w => ?_)
            refine lv_iload_n hx hb dX6_set_72 rfl (lv_at hl 0 rfl) ?_
            have hq : fX6_set hs σ n o η wh vl = (σ 6 wh.toNatClampNeg, u2 σ 6 wh.toNatClampNeg vl, (fX2_record n o η σ).1, (fX2_record n o η σ).2.1, (fX2_record n o η σ).2.2) := by simp only [fX6_set, if_neg c1_1, if_pos c6_2, if_neg c18_3, if_pos c27_4, if_neg c45_5]
            obtain ⟨h0_, h1_, h2_, h3_, h4_⟩ := tup5 hq
            rw [h0_, h1_, h2_, h3_, h4_]
            exact r_iret X w hr rfl dX6_set_73
          · refine lv_bipush (v := (-5)) hx hb dX6_set_48 (by decide) ?_
            have hq : fX6_set hs σ n o η wh vl = ((-5), σ, n, o, η) := by simp only [fX6_set, if_neg c1_1, if_pos c6_2, if_neg c18_3, if_pos c27_4, if_pos c45_5]
            obtain ⟨h0_, h1_, h2_, h3_, h4_⟩ := tup5 hq
            rw [h0_, h1_, h2_, h3_, h4_]
            exact r_iret X w hr rfl dX6_set_50
        · refine lv_bipush (v := (-2)) hx hb dX6_set_30 (by decide) ?_
          have hq : fX6_set hs σ n o η wh vl = ((-2), σ, n, o, η) := by simp only [fX6_set, if_neg c1_1, if_pos c6_2, if_neg c18_3, if_neg c27_4]
          obtain ⟨h0_, h1_, h2_, h3_, h4_⟩ := tup5 hq
          rw [h0_, h1_, h2_, h3_, h4_]
          exact r_iret X w hr rfl dX6_set_32
    · refine lv_bipush (v := (-2)) hx hb dX6_set_9 (by decide) ?_
      have hq : fX6_set hs σ n o η wh vl = ((-2), σ, n, o, η) := by simp only [fX6_set, if_neg c1_1, if_neg c6_2]
      obtain ⟨h0_, h1_, h2_, h3_, h4_⟩ := tup5 hq
      rw [h0_, h1_, h2_, h3_, h4_]
      exact r_iret X w hr rfl dX6_set_11
def fX6_shoot (hs : Int32) (σ : N2) (n : Int32) (o : Nat) (η : Nat → N2) (z : N1) (sp : UInt32) (d : N1) (pl : Int32) (bl : Int32) (di : Int32) (sg : Int32) (sn : Int32) : Int32 × N2 × Int32 × Nat × (Nat → N2) × N1 × UInt32 × N1 := if (fX6_isPlayer pl) = 0 then (((-1), σ, n, o, η, z, sp, d)) else (if (fX4_hasBall σ bl) = 0 then (((-1), σ, n, o, η, z, sp, d)) else (if (fX6_isShot di sg sn) = 0 then (((-2), σ, n, o, η, z, sp, d)) else (if pl = (σ 8 2) then (((fX4_valueOfBall ((fX3_play z sp d σ bl di sg sn).2.2.2) (((fX3_play z sp d σ bl di sg sn).1) 6)), (fX4_scoreShot ((fX3_play z sp d σ bl di sg sn).2.2.2) (fX4_valueOfBall ((fX3_play z sp d σ bl di sg sn).2.2.2) (((fX3_play z sp d σ bl di sg sn).1) 6))), (fX2_record n o η σ).1, (fX2_record n o η σ).2.1, (fX2_record n o η σ).2.2, (fX3_play z sp d σ bl di sg sn).1, (fX3_play z sp d σ bl di sg sn).2.1, (fX3_play z sp d σ bl di sg sn).2.2.1)) else (((-4), σ, n, o, η, z, sp, d)))))
theorem dX6_shoot_0 : decode cX6_shoot 0 = .ok (.iload_n 1, 1) := by decide +kernel
theorem dX6_shoot_1 : decode cX6_shoot 1 = .ok (.invokestatic 106, 3) := by decide +kernel
theorem dX6_shoot_4 : decode cX6_shoot 4 = .ok (.ifCond .eq 14, 3) := by decide +kernel
theorem dX6_shoot_7 : decode cX6_shoot 7 = .ok (.aload_n 0, 1) := by decide +kernel
theorem dX6_shoot_8 : decode cX6_shoot 8 = .ok (.getfield 10, 3) := by decide +kernel
theorem dX6_shoot_11 : decode cX6_shoot 11 = .ok (.iload_n 2, 1) := by decide +kernel
theorem dX6_shoot_12 : decode cX6_shoot 12 = .ok (.invokevirtual 78, 3) := by decide +kernel
theorem dX6_shoot_15 : decode cX6_shoot 15 = .ok (.ifCond .ne 5, 3) := by decide +kernel
theorem dX6_shoot_18 : decode cX6_shoot 18 = .ok (.iconst (-1), 1) := by decide +kernel
theorem dX6_shoot_19 : decode cX6_shoot 19 = .ok (.ireturn, 1) := by decide +kernel
theorem dX6_shoot_20 : decode cX6_shoot 20 = .ok (.iload_n 3, 1) := by decide +kernel
theorem dX6_shoot_21 : decode cX6_shoot 21 = .ok (.iload 4, 2) := by decide +kernel
theorem dX6_shoot_23 : decode cX6_shoot 23 = .ok (.iload 5, 2) := by decide +kernel
theorem dX6_shoot_25 : decode cX6_shoot 25 = .ok (.invokestatic 109, 3) := by decide +kernel
theorem dX6_shoot_28 : decode cX6_shoot 28 = .ok (.ifCond .ne 6, 3) := by decide +kernel
theorem dX6_shoot_31 : decode cX6_shoot 31 = .ok (.bipush (-2), 2) := by decide +kernel
theorem dX6_shoot_33 : decode cX6_shoot 33 = .ok (.ireturn, 1) := by decide +kernel
theorem dX6_shoot_34 : decode cX6_shoot 34 = .ok (.iload_n 1, 1) := by decide +kernel
theorem dX6_shoot_35 : decode cX6_shoot 35 = .ok (.aload_n 0, 1) := by decide +kernel
theorem dX6_shoot_36 : decode cX6_shoot 36 = .ok (.getfield 10, 3) := by decide +kernel
theorem dX6_shoot_39 : decode cX6_shoot 39 = .ok (.getfield 113, 3) := by decide +kernel
theorem dX6_shoot_42 : decode cX6_shoot 42 = .ok (.if_icmp .eq 6, 3) := by decide +kernel
theorem dX6_shoot_45 : decode cX6_shoot 45 = .ok (.bipush (-4), 2) := by decide +kernel
theorem dX6_shoot_47 : decode cX6_shoot 47 = .ok (.ireturn, 1) := by decide +kernel
theorem dX6_shoot_48 : decode cX6_shoot 48 = .ok (.aload_n 0, 1) := by decide +kernel
theorem dX6_shoot_49 : decode cX6_shoot 49 = .ok (.getfield 25, 3) := by decide +kernel
theorem dX6_shoot_52 : decode cX6_shoot 52 = .ok (.aload_n 0, 1) := by decide +kernel
theorem dX6_shoot_53 : decode cX6_shoot 53 = .ok (.getfield 10, 3) := by decide +kernel
theorem dX6_shoot_56 : decode cX6_shoot 56 = .ok (.invokevirtual 53, 3) := by decide +kernel
theorem dX6_shoot_59 : decode cX6_shoot 59 = .ok (.aload_n 0, 1) := by decide +kernel
theorem dX6_shoot_60 : decode cX6_shoot 60 = .ok (.getfield 39, 3) := by decide +kernel
theorem dX6_shoot_63 : decode cX6_shoot 63 = .ok (.aload_n 0, 1) := by decide +kernel
theorem dX6_shoot_64 : decode cX6_shoot 64 = .ok (.getfield 10, 3) := by decide +kernel
theorem dX6_shoot_67 : decode cX6_shoot 67 = .ok (.iload_n 2, 1) := by decide +kernel
theorem dX6_shoot_68 : decode cX6_shoot 68 = .ok (.iload_n 3, 1) := by decide +kernel
theorem dX6_shoot_69 : decode cX6_shoot 69 = .ok (.iload 4, 2) := by decide +kernel
theorem dX6_shoot_71 : decode cX6_shoot 71 = .ok (.iload 5, 2) := by decide +kernel
theorem dX6_shoot_73 : decode cX6_shoot 73 = .ok (.invokevirtual 116, 3) := by decide +kernel
theorem dX6_shoot_76 : decode cX6_shoot 76 = .ok (.aload_n 0, 1) := by decide +kernel
theorem dX6_shoot_77 : decode cX6_shoot 77 = .ok (.getfield 10, 3) := by decide +kernel
theorem dX6_shoot_80 : decode cX6_shoot 80 = .ok (.aload_n 0, 1) := by decide +kernel
theorem dX6_shoot_81 : decode cX6_shoot 81 = .ok (.getfield 39, 3) := by decide +kernel
theorem dX6_shoot_84 : decode cX6_shoot 84 = .ok (.getfield 120, 3) := by decide +kernel
theorem dX6_shoot_87 : decode cX6_shoot 87 = .ok (.invokevirtual 123, 3) := by decide +kernel
theorem dX6_shoot_90 : decode cX6_shoot 90 = .ok (.istore 6, 2) := by decide +kernel
theorem dX6_shoot_92 : decode cX6_shoot 92 = .ok (.aload_n 0, 1) := by decide +kernel
theorem dX6_shoot_93 : decode cX6_shoot 93 = .ok (.getfield 10, 3) := by decide +kernel
theorem dX6_shoot_96 : decode cX6_shoot 96 = .ok (.iload 6, 2) := by decide +kernel
theorem dX6_shoot_98 : decode cX6_shoot 98 = .ok (.invokevirtual 124, 3) := by decide +kernel
theorem dX6_shoot_101 : decode cX6_shoot 101 = .ok (.iload 6, 2) := by decide +kernel
theorem dX6_shoot_103 : decode cX6_shoot 103 = .ok (.ireturn, 1) := by decide +kernel
theorem ck_X6_106 : CkS RX6 106 yX6_isPlayer cX6_isPlayer 1 (some .boolean) 1 := ⟨wm_X6_106, wst_yX6_isPlayer, wi_X6, wc_yX6_isPlayer, by decide +kernel⟩
theorem ck_X6_109 : CkS RX6 109 yX6_isShot cX6_isShot 3 (some .boolean) 3 := ⟨wm_X6_109, wst_yX6_isShot, wi_X6, wc_yX6_isShot, by decide +kernel⟩
theorem ck_X6_116 : CkV RX6 116 RX3 yX3_play cX3_play 9 none 5 := ⟨wm_X6_116, wim_yX3_play, wse_yX3_play, wi_X3, wc_yX3_play, by decide +kernel⟩
theorem ck_X6_123 : CkV RX6 123 RX4 yX4_valueOfBall cX4_valueOfBall 2 (some .int) 1 := ⟨wm_X6_123, wim_yX4_valueOfBall, wse_yX4_valueOfBall, wi_X4, wc_yX4_valueOfBall, by decide +kernel⟩
theorem ck_X6_124 : CkV RX6 124 RX4 yX4_scoreShot cX4_scoreShot 2 none 1 := ⟨wm_X6_124, wim_yX4_scoreShot, wse_yX4_scoreShot, wi_X4, wc_yX4_scoreShot, by decide +kernel⟩
theorem hc_52 {E : Ev} {a0 p0_0 p0_1 p0_2 p0_3 p0_4 p0_5 : Nat} {n0 : Int32} {a1 : Nat → Nat} {σ1 : N2} {a2 : Nat → Nat} {h2 : Nat → Nat → Nat} {n2 : Int32} {η2 : Nat → N2} {o2 : Nat} {a3 j3 : Nat} {σ3 : N1} {v3 : UInt32} {a4 : Nat} {σ4 : N1} : ([1, 2, 3, 4, 5, 6, 7, 8, 9] : List Nat).map (fun i => (wHb a0 p0_0 p0_1 p0_2 p0_3 p0_4 p0_5 n0 ++ (wSt E a1 σ1 ++ (wHs E a2 h2 n2 o2 η2 ++ (wSh a3 j3 σ3 v3 ++ wWk a4 σ4))))[i]?) = (wSt E a1 σ1).map some := by rw [show wHb a0 p0_0 p0_1 p0_2 p0_3 p0_4 p0_5 n0 ++ (wSt E a1 σ1 ++ (wHs E a2 h2 n2 o2 η2 ++ (wSh a3 j3 σ3 v3 ++ (wWk a4 σ4)))) = (wHb a0 p0_0 p0_1 p0_2 p0_3 p0_4 p0_5 n0) ++ (wSt E a1 σ1 ++ (wHs E a2 h2 n2 o2 η2 ++ (wSh a3 j3 σ3 v3 ++ (wWk a4 σ4)))) by simp only [List.append_assoc, List.nil_append, List.append_nil]]; exact get1 (s := 1) (n := 9) rfl rfl
theorem ha_52 {E : Ev} {a1 : Nat → Nat} {σ1 : N2} {τ0_0 : N2} : (wSt E a1 τ0_0).map Prod.fst = (wSt E a1 σ1).map Prod.fst := fst_St
theorem hw_52 {E : Ev} {a0 p0_0 p0_1 p0_2 p0_3 p0_4 p0_5 : Nat} {n0 : Int32} {a1 : Nat → Nat} {σ1 : N2} {a2 : Nat → Nat} {h2 : Nat → Nat → Nat} {n2 : Int32} {η2 : Nat → N2} {o2 : Nat} {a3 j3 : Nat} {σ3 : N1} {v3 : UInt32} {a4 : Nat} {σ4 : N1} {τ0_0 : N2} : wput (wHb a0 p0_0 p0_1 p0_2 p0_3 p0_4 p0_5 n0 ++ (wSt E a1 σ1 ++ (wHs E a2 h2 n2 o2 η2 ++ (wSh a3 j3 σ3 v3 ++ wWk a4 σ4)))) [1, 2, 3, 4, 5, 6, 7, 8, 9] (wSt E a1 τ0_0) = wHb a0 p0_0 p0_1 p0_2 p0_3 p0_4 p0_5 n0 ++ (wSt E a1 τ0_0 ++ (wHs E a2 h2 n2 o2 η2 ++ (wSh a3 j3 σ3 v3 ++ wWk a4 σ4))) := by
  show wput (wHb a0 p0_0 p0_1 p0_2 p0_3 p0_4 p0_5 n0 ++ (wSt E a1 σ1 ++ (wHs E a2 h2 n2 o2 η2 ++ (wSh a3 j3 σ3 v3 ++ (wWk a4 σ4))))) (rg 1 9) (wSt E a1 τ0_0) = _
  rw [show wHb a0 p0_0 p0_1 p0_2 p0_3 p0_4 p0_5 n0 ++ (wSt E a1 σ1 ++ (wHs E a2 h2 n2 o2 η2 ++ (wSh a3 j3 σ3 v3 ++ (wWk a4 σ4)))) = (wHb a0 p0_0 p0_1 p0_2 p0_3 p0_4 p0_5 n0) ++ (wSt E a1 σ1 ++ (wHs E a2 h2 n2 o2 η2 ++ (wSh a3 j3 σ3 v3 ++ (wWk a4 σ4)))) by simp only [List.append_assoc, List.nil_append, List.append_nil], put1 (s := 1) (n := 9) rfl rfl rfl]
  try simp only [List.append_assoc, List.nil_append, List.append_nil]
theorem hc_53 {E : Ev} {a0 p0_0 p0_1 p0_2 p0_3 p0_4 p0_5 : Nat} {n0 : Int32} {a1 : Nat → Nat} {σ1 : N2} {a2 : Nat → Nat} {h2 : Nat → Nat → Nat} {n2 : Int32} {η2 : Nat → N2} {o2 : Nat} {a3 j3 : Nat} {σ3 : N1} {v3 : UInt32} {a4 : Nat} {σ4 : N1} : ([10, 11, 12, 13, 14, 15, 16, 17, 18, 19, 20, 21, 22, 23, 24, 25, 26, 27, 28, 29, 30, 31, 32, 33, 34, 35, 36, 37, 38, 39, 40, 41, 42, 43, 44, 45, 46, 47, 1, 2, 3, 4, 5, 6, 7, 8, 9] : List Nat).map (fun i => (wHb a0 p0_0 p0_1 p0_2 p0_3 p0_4 p0_5 n0 ++ (wSt E a1 σ1 ++ (wHs E a2 h2 n2 o2 η2 ++ (wSh a3 j3 σ3 v3 ++ wWk a4 σ4))))[i]?) = (wHs E a2 h2 n2 o2 η2 ++ wSt E a1 σ1).map some := get_app (is1 := rg 10 38) (is2 := rg 1 9) (by rw [show wHb a0 p0_0 p0_1 p0_2 p0_3 p0_4 p0_5 n0 ++ (wSt E a1 σ1 ++ (wHs E a2 h2 n2 o2 η2 ++ (wSh a3 j3 σ3 v3 ++ (wWk a4 σ4)))) = (wHb a0 p0_0 p0_1 p0_2 p0_3 p0_4 p0_5 n0 ++ (wSt E a1 σ1)) ++ (wHs E a2 h2 n2 o2 η2 ++ (wSh a3 j3 σ3 v3 ++ (wWk a4 σ4))) by simp only [List.append_assoc, List.nil_append, List.append_nil]]; exact get1 (s := 10) (n := 38) rfl rfl) ((by rw [show wHb a0 p0_0 p0_1 p0_2 p0_3 p0_4 p0_5 n0 ++ (wSt E a1 σ1 ++ (wHs E a2 h2 n2 o2 η2 ++ (wSh a3 j3 σ3 v3 ++ (wWk a4 σ4)))) = (wHb a0 p0_0 p0_1 p0_2 p0_3 p0_4 p0_5 n0) ++ (wSt E a1 σ1 ++ (wHs E a2 h2 n2 o2 η2 ++ (wSh a3 j3 σ3 v3 ++ (wWk a4 σ4)))) by simp only [List.append_assoc, List.nil_append, List.append_nil]]; exact get1 (s := 1) (n := 9) rfl rfl))
theorem ha_53 {E : Ev} {a1 : Nat → Nat} {σ1 : N2} {a2 : Nat → Nat} {h2 : Nat → Nat → Nat} {n2 : Int32} {η2 : Nat → N2} {o2 : Nat} {τ0_0 : Int32} {τ0_1 : Nat} {τ0_2 : Nat → N2} {τ1_0 : N2} : (wHs E a2 h2 τ0_0 τ0_1 τ0_2 ++ wSt E a1 τ1_0).map Prod.fst = (wHs E a2 h2 n2 o2 η2 ++ wSt E a1 σ1).map Prod.fst := fst_app fst_Hs (fst_St)
theorem hw_53 {E : Ev} {a0 p0_0 p0_1 p0_2 p0_3 p0_4 p0_5 : Nat} {n0 : Int32} {a1 : Nat → Nat} {σ1 : N2} {a2 : Nat → Nat} {h2 : Nat → Nat → Nat} {n2 : Int32} {η2 : Nat → N2} {o2 : Nat} {a3 j3 : Nat} {σ3 : N1} {v3 : UInt32} {a4 : Nat} {σ4 : N1} {τ0_0 : Int32} {τ0_1 : Nat} {τ0_2 : Nat → N2} {τ1_0 : N2} : wput (wHb a0 p0_0 p0_1 p0_2 p0_3 p0_4 p0_5 n0 ++ (wSt E a1 σ1 ++ (wHs E a2 h2 n2 o2 η2 ++ (wSh a3 j3 σ3 v3 ++ wWk a4 σ4)))) [10, 11, 12, 13, 14, 15, 16, 17, 18, 19, 20, 21, 22, 23, 24, 25, 26, 27, 28, 29, 30, 31, 32, 33, 34, 35, 36, 37, 38, 39, 40, 41, 42, 43, 44, 45, 46, 47, 1, 2, 3, 4, 5, 6, 7, 8, 9] (wHs E a2 h2 τ0_0 τ0_1 τ0_2 ++ wSt E a1 τ1_0) = wHb a0 p0_0 p0_1 p0_2 p0_3 p0_4 p0_5 n0 ++ (wSt E a1 τ1_0 ++ (wHs E a2 h2 τ0_0 τ0_1 τ0_2 ++ (wSh a3 j3 σ3 v3 ++ wWk a4 σ4))) := by
  show wput (wHb a0 p0_0 p0_1 p0_2 p0_3 p0_4 p0_5 n0 ++ (wSt E a1 σ1 ++ (wHs E a2 h2 n2 o2 η2 ++ (wSh a3 j3 σ3 v3 ++ (wWk a4 σ4))))) (rg 10 38 ++ (rg 1 9)) (wHs E a2 h2 τ0_0 τ0_1 τ0_2 ++ wSt E a1 τ1_0) = _
  rw [wput_app rfl]
  rw [show wHb a0 p0_0 p0_1 p0_2 p0_3 p0_4 p0_5 n0 ++ (wSt E a1 σ1 ++ (wHs E a2 h2 n2 o2 η2 ++ (wSh a3 j3 σ3 v3 ++ (wWk a4 σ4)))) = (wHb a0 p0_0 p0_1 p0_2 p0_3 p0_4 p0_5 n0 ++ (wSt E a1 σ1)) ++ (wHs E a2 h2 n2 o2 η2 ++ (wSh a3 j3 σ3 v3 ++ (wWk a4 σ4))) by simp only [List.append_assoc, List.nil_append, List.append_nil], put1 (s := 10) (n := 38) rfl rfl rfl]
  rw [show (wHb a0 p0_0 p0_1 p0_2 p0_3 p0_4 p0_5 n0 ++ (wSt E a1 σ1)) ++ (wHs E a2 h2 τ0_0 τ0_1 τ0_2 ++ (wSh a3 j3 σ3 v3 ++ (wWk a4 σ4))) = (wHb a0 p0_0 p0_1 p0_2 p0_3 p0_4 p0_5 n0) ++ (wSt E a1 σ1 ++ (wHs E a2 h2 τ0_0 τ0_1 τ0_2 ++ (wSh a3 j3 σ3 v3 ++ (wWk a4 σ4)))) by simp only [List.append_assoc, List.nil_append, List.append_nil], put1 (s := 1) (n := 9) rfl rfl rfl]
  try simp only [List.append_assoc, List.nil_append, List.append_nil]
theorem hc_54 {E : Ev} {a0 p0_0 p0_1 p0_2 p0_3 p0_4 p0_5 : Nat} {n0 : Int32} {a1 : Nat → Nat} {σ1 : N2} {a2 : Nat → Nat} {h2 : Nat → Nat → Nat} {n2 : Int32} {η2 : Nat → N2} {o2 : Nat} {a3 j3 : Nat} {σ3 : N1} {v3 : UInt32} {a4 : Nat} {σ4 : N1} : ([48, 49, 1, 2, 3, 4, 5, 6, 7, 8, 9] : List Nat).map (fun i => (wHb a0 p0_0 p0_1 p0_2 p0_3 p0_4 p0_5 n0 ++ (wSt E a1 σ1 ++ (wHs E a2 h2 n2 o2 η2 ++ (wSh a3 j3 σ3 v3 ++ wWk a4 σ4))))[i]?) = (wSh a3 j3 σ3 v3 ++ (wWk a4 σ4 ++ wSt E a1 σ1)).map some := get_app (is1 := rg 48 1) (is2 := rg 49 1 ++ (rg 1 9)) (by rw [show wHb a0 p0_0 p0_1 p0_2 p0_3 p0_4 p0_5 n0 ++ (wSt E a1 σ1 ++ (wHs E a2 h2 n2 o2 η2 ++ (wSh a3 j3 σ3 v3 ++ (wWk a4 σ4)))) = (wHb a0 p0_0 p0_1 p0_2 p0_3 p0_4 p0_5 n0 ++ (wSt E a1 σ1 ++ (wHs E a2 h2 n2 o2 η2))) ++ (wSh a3 j3 σ3 v3 ++ (wWk a4 σ4)) by simp only [List.append_assoc, List.nil_append, List.append_nil]]; exact get1 (s := 48) (n := 1) rfl rfl) (get_app (is1 := rg 49 1) (is2 := rg 1 9) (by rw [show wHb a0 p0_0 p0_1 p0_2 p0_3 p0_4 p0_5 n0 ++ (wSt E a1 σ1 ++ (wHs E a2 h2 n2 o2 η2 ++ (wSh a3 j3 σ3 v3 ++ (wWk a4 σ4)))) = (wHb a0 p0_0 p0_1 p0_2 p0_3 p0_4 p0_5 n0 ++ (wSt E a1 σ1 ++ (wHs E a2 h2 n2 o2 η2 ++ (wSh a3 j3 σ3 v3)))) ++ (wWk a4 σ4 ++ (([] : va_W))) by simp only [List.append_assoc, List.nil_append, List.append_nil]]; exact get1 (s := 49) (n := 1) rfl rfl) ((by rw [show wHb a0 p0_0 p0_1 p0_2 p0_3 p0_4 p0_5 n0 ++ (wSt E a1 σ1 ++ (wHs E a2 h2 n2 o2 η2 ++ (wSh a3 j3 σ3 v3 ++ (wWk a4 σ4)))) = (wHb a0 p0_0 p0_1 p0_2 p0_3 p0_4 p0_5 n0) ++ (wSt E a1 σ1 ++ (wHs E a2 h2 n2 o2 η2 ++ (wSh a3 j3 σ3 v3 ++ (wWk a4 σ4)))) by simp only [List.append_assoc, List.nil_append, List.append_nil]]; exact get1 (s := 1) (n := 9) rfl rfl)))
theorem ha_54 {E : Ev} {a1 : Nat → Nat} {σ1 : N2} {a3 j3 : Nat} {σ3 : N1} {v3 : UInt32} {a4 : Nat} {σ4 : N1} {τ0_0 : N1} {τ0_1 : UInt32} {τ1_0 : N1} {τ2_0 : N2} : (wSh a3 j3 τ0_0 τ0_1 ++ (wWk a4 τ1_0 ++ wSt E a1 τ2_0)).map Prod.fst = (wSh a3 j3 σ3 v3 ++ (wWk a4 σ4 ++ wSt E a1 σ1)).map Prod.fst := fst_app fst_Sh (fst_app fst_Wk (fst_St))
theorem hw_54 {E : Ev} {a0 p0_0 p0_1 p0_2 p0_3 p0_4 p0_5 : Nat} {n0 : Int32} {a1 : Nat → Nat} {σ1 : N2} {a2 : Nat → Nat} {h2 : Nat → Nat → Nat} {n2 : Int32} {η2 : Nat → N2} {o2 : Nat} {a3 j3 : Nat} {σ3 : N1} {v3 : UInt32} {a4 : Nat} {σ4 : N1} {τ0_0 : N1} {τ0_1 : UInt32} {τ1_0 : N1} {τ2_0 : N2} : wput (wHb a0 p0_0 p0_1 p0_2 p0_3 p0_4 p0_5 n0 ++ (wSt E a1 σ1 ++ (wHs E a2 h2 n2 o2 η2 ++ (wSh a3 j3 σ3 v3 ++ wWk a4 σ4)))) [48, 49, 1, 2, 3, 4, 5, 6, 7, 8, 9] (wSh a3 j3 τ0_0 τ0_1 ++ (wWk a4 τ1_0 ++ wSt E a1 τ2_0)) = wHb a0 p0_0 p0_1 p0_2 p0_3 p0_4 p0_5 n0 ++ (wSt E a1 τ2_0 ++ (wHs E a2 h2 n2 o2 η2 ++ (wSh a3 j3 τ0_0 τ0_1 ++ wWk a4 τ1_0))) := by
  show wput (wHb a0 p0_0 p0_1 p0_2 p0_3 p0_4 p0_5 n0 ++ (wSt E a1 σ1 ++ (wHs E a2 h2 n2 o2 η2 ++ (wSh a3 j3 σ3 v3 ++ (wWk a4 σ4))))) (rg 48 1 ++ (rg 49 1 ++ (rg 1 9))) (wSh a3 j3 τ0_0 τ0_1 ++ (wWk a4 τ1_0 ++ wSt E a1 τ2_0)) = _
  rw [wput_app rfl]
  rw [show wHb a0 p0_0 p0_1 p0_2 p0_3 p0_4 p0_5 n0 ++ (wSt E a1 σ1 ++ (wHs E a2 h2 n2 o2 η2 ++ (wSh a3 j3 σ3 v3 ++ (wWk a4 σ4)))) = (wHb a0 p0_0 p0_1 p0_2 p0_3 p0_4 p0_5 n0 ++ (wSt E a1 σ1 ++ (wHs E a2 h2 n2 o2 η2))) ++ (wSh a3 j3 σ3 v3 ++ (wWk a4 σ4)) by simp only [List.append_assoc, List.nil_append, List.append_nil], put1 (s := 48) (n := 1) rfl rfl rfl]
  rw [wput_app rfl]
  rw [show (wHb a0 p0_0 p0_1 p0_2 p0_3 p0_4 p0_5 n0 ++ (wSt E a1 σ1 ++ (wHs E a2 h2 n2 o2 η2))) ++ (wSh a3 j3 τ0_0 τ0_1 ++ (wWk a4 σ4)) = (wHb a0 p0_0 p0_1 p0_2 p0_3 p0_4 p0_5 n0 ++ (wSt E a1 σ1 ++ (wHs E a2 h2 n2 o2 η2 ++ (wSh a3 j3 τ0_0 τ0_1)))) ++ (wWk a4 σ4 ++ (([] : va_W))) by simp only [List.append_assoc, List.nil_append, List.append_nil], put1 (s := 49) (n := 1) rfl rfl rfl]
  rw [show (wHb a0 p0_0 p0_1 p0_2 p0_3 p0_4 p0_5 n0 ++ (wSt E a1 σ1 ++ (wHs E a2 h2 n2 o2 η2 ++ (wSh a3 j3 τ0_0 τ0_1)))) ++ (wWk a4 τ1_0 ++ (([] : va_W))) = (wHb a0 p0_0 p0_1 p0_2 p0_3 p0_4 p0_5 n0) ++ (wSt E a1 σ1 ++ (wHs E a2 h2 n2 o2 η2 ++ (wSh a3 j3 τ0_0 τ0_1 ++ (wWk a4 τ1_0)))) by simp only [List.append_assoc, List.nil_append, List.append_nil], put1 (s := 1) (n := 9) rfl rfl rfl]
  try simp only [List.append_assoc, List.nil_append, List.append_nil]
set_option maxHeartbeats 4000000 in
set_option maxRecDepth 100000 in
theorem kX6_shoot (l : Launch) (E : Ev) (h : Nat) (p1 : Nat) (p2 : Nat) (p4 : Nat) (k : Nat) (hs : Int32) (sa : Nat → Nat) (σ : N2) (ya : Nat → Nat) (hh : Nat → Nat → Nat) (n : Int32) (o : Nat) (η : Nat → N2) (j : Nat) (z : N1) (sp : UInt32) (d : N1) (pl : Int32) (bl : Int32) (di : Int32) (sg : Int32) (sn : Int32) (gs : gset σ) : KQ l yX6_shoot cX6_shoot 7 (some .int) 5 119 E [.ref h, .int pl, .int bl, .int di, .int sg, .int sn] (wHb h (sa 0) p1 p2 (ya 0) p4 k hs ++ (wSt E sa σ ++ (wHs E ya hh n o η ++ (wSh k j z sp ++ wWk j d)))) (QI E (wHb h (sa 0) p1 p2 (ya 0) p4 k hs ++ (wSt E sa σ ++ (wHs E ya hh n o η ++ (wSh k j z sp ++ wWk j d)))) (fX6_shoot hs σ n o η z sp d pl bl di sg sn).1 (wHb h (sa 0) p1 p2 (ya 0) p4 k hs ++ (wSt E sa ((fX6_shoot hs σ n o η z sp d pl bl di sg sn).2.1) ++ (wHs E ya hh ((fX6_shoot hs σ n o η z sp d pl bl di sg sn).2.2.1) ((fX6_shoot hs σ n o η z sp d pl bl di sg sn).2.2.2.1) ((fX6_shoot hs σ n o η z sp d pl bl di sg sn).2.2.2.2.1) ++ (wSh k j ((fX6_shoot hs σ n o η z sp d pl bl di sg sn).2.2.2.2.2.1) ((fX6_shoot hs σ n o η z sp d pl bl di sg sn).2.2.2.2.2.2.1) ++ wWk j ((fX6_shoot hs σ n o η z sp d pl bl di sg sn).2.2.2.2.2.2.2)))))) := by
  refine KQ.mk RX6 rfl (by decide +kernel) (Nat.le_of_ble_eq_true rfl) ?_
  intro p e s m below meth c ls X hr w hl
  have hx := X.1
  have hb := X.2.1
  have hl : lv_has ls 7 [(0, .ref h), (1, .int pl), (2, .int bl), (3, .int di), (4, .int sg), (5, .int sn)] := hl
  refine lv_iload_n hx hb dX6_shoot_0 rfl (lv_at hl 1 rfl) ?_
  refine r_ci w (r_runS (As := [.int pl]) (rest := []) X w (kX6_isPlayer l E pl ) ck_X6_106 ⟨Nat.le_of_ble_eq_true rfl, Nat.le_of_ble_eq_true rfl⟩ [] rfl (by decide +kernel) hl.1 (Nat.le_of_ble_eq_true rfl) rfl dX6_shoot_1 ⟨Nat.le_of_ble_eq_true rfl, Nat.le_of_ble_eq_true rfl⟩) (wHb h (sa 0) p1 p2 (ya 0) p4 k hs ++ (wSt E sa σ ++ (wHs E ya hh n o η ++ (wSh k j z sp ++ wWk j d)))) [] rfl (by decide +kernel) rfl rfl (fun H locs w => ?_)
  refine lv_if_eq (tgt := 18) hx hb dX6_shoot_4 (by decide) (fun c4_1 => ?_) (fun c4_1 => ?_)
  · refine lv_iconst (v := (-1)) hx hb dX6_shoot_18 (by decide) ?_
    have hq : fX6_shoot hs σ n o η z sp d pl bl di sg sn = ((-1), σ, n, o, η, z, sp, d) := by simp only [fX6_shoot, if_pos c4_1]
    obtain ⟨h0_, h1_, h2_, h3_, h4_, h5_, h6_, h7_⟩ := tup8 hq
    rw [h0_, h1_, h2_, h3_, h4_, h5_, h6_, h7_]
    exact r_iret X w hr rfl dX6_shoot_19
  · refine lv_aload_n hx hb dX6_shoot_7 rfl (lv_at hl 0 rfl) ?_
    refine r_get X w CL6 0 (by decide) wf_X6_10 0 rfl rfl dX6_shoot_8 ?_
    refine lv_iload_n hx hb dX6_shoot_11 rfl (lv_at hl 2 rfl) ?_
    refine r_ci w (r_runV (As := [.int bl]) (rest := []) X w (kX4_hasBall l E sa σ bl ) ck_X6_78 ⟨Nat.le_of_ble_eq_true rfl, Nat.le_of_ble_eq_true rfl⟩ [1, 2, 3, 4, 5, 6, 7, 8, 9] (hc_52 (E := E)) (by decide +kernel) (k0 := 0) CL4 rfl hl.1 (Nat.le_of_ble_eq_true rfl) rfl dX6_shoot_12 ⟨Nat.le_of_ble_eq_true rfl, Nat.le_of_ble_eq_true rfl⟩) (wHb h (sa 0) p1 p2 (ya 0) p4 k hs ++ (wSt E sa σ ++ (wHs E ya hh n o η ++ (wSh k j z sp ++ wWk j d)))) [1, 2, 3, 4, 5, 6, 7, 8, 9] (hc_52 (E := E)) (by decide +kernel) (ha_52 (E := E)) (hw_52 (E := E)) (fun H locs w => ?_)
    refine lv_if_ne (tgt := 20) hx hb dX6_shoot_15 (by decide) (fun c15_2 => ?_) (fun c15_2 => ?_)
    · refine lv_iload_n hx hb dX6_shoot_20 rfl (lv_at hl 3 rfl) ?_
      refine lv_iload hx hb dX6_shoot_21 (lv_at hl 4 rfl) ?_
      refine lv_iload hx hb dX6_shoot_23 (lv_at hl 5 rfl) ?_
      refine r_ci w (r_runS (As := [.int di, .int sg, .int sn]) (rest := []) X w (kX6_isShot l E di sg sn ) ck_X6_109 ⟨Nat.le_of_ble_eq_true rfl, Nat.le_of_ble_eq_true rfl⟩ [] rfl (by decide +kernel) hl.1 (Nat.le_of_ble_eq_true rfl) rfl dX6_shoot_25 ⟨Nat.le_of_ble_eq_true rfl, Nat.le_of_ble_eq_true rfl⟩) (wHb h (sa 0) p1 p2 (ya 0) p4 k hs ++ (wSt E sa σ ++ (wHs E ya hh n o η ++ (wSh k j z sp ++ wWk j d)))) [] rfl (by decide +kernel) rfl rfl (fun H locs w => ?_)
      refine lv_if_ne (tgt := 34) hx hb dX6_shoot_28 (by decide) (fun c28_3 => ?_) (fun c28_3 => ?_)
      · refine lv_iload_n hx hb dX6_shoot_34 rfl (lv_at hl 1 rfl) ?_
        refine lv_aload_n hx hb dX6_shoot_35 rfl (lv_at hl 0 rfl) ?_
        refine r_get X w CL6 0 (by decide) wf_X6_10 0 rfl rfl dX6_shoot_36 ?_
        refine r_getN X w CL4 10 (by decide) nl_0 1 rfl rfl dX6_shoot_39 ?_
        refine lv_icmp_eq (tgt := 48) hx hb dX6_shoot_42 (by decide) (fun c42_4 => ?_) (fun c42_4 => ?_)
        · refine lv_aload_n hx hb dX6_shoot_48 rfl (lv_at hl 0 rfl) ?_
          refine r_get X w CL6 3 (by decide) wf_X6_25 0 rfl rfl dX6_shoot_49 ?_
          refine lv_aload_n hx hb dX6_shoot_52 rfl (lv_at hl 0 rfl) ?_
          refine r_get X w CL6 0 (by decide) wf_X6_10 0 rfl rfl dX6_shoot_53 ?_
          refine r_cv w (r_runV (As := [.ref (sa 0)]) (rest := []) X w (kX2_record l E ya hh n o η sa σ ) ck_X6_53 ⟨Nat.le_of_ble_eq_true rfl, Nat.le_of_ble_eq_true rfl⟩ [10, 11, 12, 13, 14, 15, 16, 17, 18, 19, 20, 21, 22, 23, 24, 25, 26, 27, 28, 29, 30, 31, 32, 33, 34, 35, 36, 37, 38, 39, 40, 41, 42, 43, 44, 45, 46, 47, 1, 2, 3, 4, 5, 6, 7, 8, 9] (hc_53 (E := E)) (by decide +kernel) (k0 := 0) CL2 rfl hl.1 (Nat.le_of_ble_eq_true rfl) rfl dX6_shoot_56 ⟨Nat.le_of_ble_eq_true rfl, Nat.le_of_ble_eq_true rfl⟩) (wHb h (sa 0) p1 p2 (ya 0) p4 k hs ++ (wSt E sa σ ++ (wHs E ya hh ((fX2_record n o η σ).1) ((fX2_record n o η σ).2.1) ((fX2_record n o η σ).2.2) ++ (wSh k j z sp ++ wWk j d)))) [10, 11, 12, 13, 14, 15, 16, 17, 18, 19, 20, 21, 22, 23, 24, 25, 26, 27, 28, 29, 30, 31, 32, 33, 34, 35, 36, 37, 38, 39, 40, 41, 42, 43, 44, 45, 46, 47, 1, 2, 3, 4, 5, 6, 7, 8, 9] (hc_53 (E := E)) (by decide +kernel) (ha_53 (E := E)) (hw_53 (E := E)) (fun H locs w => ?_)
          refine lv_aload_n hx hb dX6_shoot_59 rfl (lv_at hl 0 rfl) ?_
          refine r_get X w CL6 5 (by decide) wf_X6_39 0 rfl rfl dX6_shoot_60 ?_
          refine lv_aload_n hx hb dX6_shoot_63 rfl (lv_at hl 0 rfl) ?_
          refine r_get X w CL6 0 (by decide) wf_X6_10 0 rfl rfl dX6_shoot_64 ?_
          refine lv_iload_n hx hb dX6_shoot_67 rfl (lv_at hl 2 rfl) ?_
          refine lv_iload_n hx hb dX6_shoot_68 rfl (lv_at hl 3 rfl) ?_
          refine lv_iload hx hb dX6_shoot_69 (lv_at hl 4 rfl) ?_
          refine lv_iload hx hb dX6_shoot_71 (lv_at hl 5 rfl) ?_
          refine r_cv w (r_runV (As := [.ref (sa 0), .int bl, .int di, .int sg, .int sn]) (rest := []) X w (kX3_play l E k j z sp d sa σ bl di sg sn gs (sh_ok c28_3)) ck_X6_116 ⟨Nat.le_of_ble_eq_true rfl, Nat.le_of_ble_eq_true rfl⟩ [48, 49, 1, 2, 3, 4, 5, 6, 7, 8, 9] (hc_54 (E := E)) (by decide +kernel) (k0 := 0) CL3 rfl hl.1 (Nat.le_of_ble_eq_true rfl) rfl dX6_shoot_73 ⟨Nat.le_of_ble_eq_true rfl, Nat.le_of_ble_eq_true rfl⟩) (wHb h (sa 0) p1 p2 (ya 0) p4 k hs ++ (wSt E sa ((fX3_play z sp d σ bl di sg sn).2.2.2) ++ (wHs E ya hh ((fX2_record n o η σ).1) ((fX2_record n o η σ).2.1) ((fX2_record n o η σ).2.2) ++ (wSh k j ((fX3_play z sp d σ bl di sg sn).1) ((fX3_play z sp d σ bl di sg sn).2.1) ++ wWk j ((fX3_play z sp d σ bl di sg sn).2.2.1))))) [48, 49, 1, 2, 3, 4, 5, 6, 7, 8, 9] (hc_54 (E := E)) (by decide +kernel) (ha_54 (E := E)) (hw_54 (E := E)) (fun H locs w => ?_)
          refine lv_aload_n hx hb dX6_shoot_76 rfl (lv_at hl 0 rfl) ?_
          refine r_get X w CL6 0 (by decide) wf_X6_10 0 rfl rfl dX6_shoot_77 ?_
          refine lv_aload_n hx hb dX6_shoot_80 rfl (lv_at hl 0 rfl) ?_
          refine r_get X w CL6 5 (by decide) wf_X6_39 0 rfl rfl dX6_shoot_81 ?_
          refine r_getN X w CL3 8 (by decide) nl_1 48 rfl rfl dX6_shoot_84 ?_
          refine r_ci w (r_runV (As := [.int (((fX3_play z sp d σ bl di sg sn).1) 6)]) (rest := []) X w (kX4_valueOfBall l E sa ((fX3_play z sp d σ bl di sg sn).2.2.2) (((fX3_play z sp d σ bl di sg sn).1) 6) ) ck_X6_123 ⟨Nat.le_of_ble_eq_true rfl, Nat.le_of_ble_eq_true rfl⟩ [1, 2, 3, 4, 5, 6, 7, 8, 9] (hc_52 (E := E)) (by decide +kernel) (k0 := 0) CL4 rfl hl.1 (Nat.le_of_ble_eq_true rfl) rfl dX6_shoot_87 ⟨Nat.le_of_ble_eq_true rfl, Nat.le_of_ble_eq_true rfl⟩) (wHb h (sa 0) p1 p2 (ya 0) p4 k hs ++ (wSt E sa ((fX3_play z sp d σ bl di sg sn).2.2.2) ++ (wHs E ya hh ((fX2_record n o η σ).1) ((fX2_record n o η σ).2.1) ((fX2_record n o η σ).2.2) ++ (wSh k j ((fX3_play z sp d σ bl di sg sn).1) ((fX3_play z sp d σ bl di sg sn).2.1) ++ wWk j ((fX3_play z sp d σ bl di sg sn).2.2.1))))) [1, 2, 3, 4, 5, 6, 7, 8, 9] (hc_52 (E := E)) (by decide +kernel) (ha_52 (E := E)) (hw_52 (E := E)) (fun H locs w => ?_)
          refine lv_istore (lv' := [(6, .int (fX4_valueOfBall ((fX3_play z sp d σ bl di sg sn).2.2.2) (((fX3_play z sp d σ bl di sg sn).1) 6))), (0, .ref h), (1, .int pl), (2, .int bl), (3, .int di), (4, .int sg), (5, .int sn)]) hx hb dX6_shoot_90 hl (by decide) rfl (fun ls hl => ?_)
          refine lv_aload_n hx hb dX6_shoot_92 rfl (lv_at hl 1 rfl) ?_
          refine r_get X w CL6 0 (by decide) wf_X6_10 0 rfl rfl dX6_shoot_93 ?_
          refine lv_iload hx hb dX6_shoot_96 (lv_at hl 0 rfl) ?_
          refine r_cv w (r_runV (As := [.int (fX4_valueOfBall ((fX3_play z sp d σ bl di sg sn).2.2.2) (((fX3_play z sp d σ bl di sg sn).1) 6))]) (rest := []) X w (kX4_scoreShot l E sa ((fX3_play z sp d σ bl di sg sn).2.2.2) (fX4_valueOfBall ((fX3_play z sp d σ bl di sg sn).2.2.2) (((fX3_play z sp d σ bl di sg sn).1) 6)) ) ck_X6_124 ⟨Nat.le_of_ble_eq_true rfl, Nat.le_of_ble_eq_true rfl⟩ [1, 2, 3, 4, 5, 6, 7, 8, 9] (hc_52 (E := E)) (by decide +kernel) (k0 := 0) CL4 rfl hl.1 (Nat.le_of_ble_eq_true rfl) rfl dX6_shoot_98 ⟨Nat.le_of_ble_eq_true rfl, Nat.le_of_ble_eq_true rfl⟩) (wHb h (sa 0) p1 p2 (ya 0) p4 k hs ++ (wSt E sa (fX4_scoreShot ((fX3_play z sp d σ bl di sg sn).2.2.2) (fX4_valueOfBall ((fX3_play z sp d σ bl di sg sn).2.2.2) (((fX3_play z sp d σ bl di sg sn).1) 6))) ++ (wHs E ya hh ((fX2_record n o η σ).1) ((fX2_record n o η σ).2.1) ((fX2_record n o η σ).2.2) ++ (wSh k j ((fX3_play z sp d σ bl di sg sn).1) ((fX3_play z sp d σ bl di sg sn).2.1) ++ wWk j ((fX3_play z sp d σ bl di sg sn).2.2.1))))) [1, 2, 3, 4, 5, 6, 7, 8, 9] (hc_52 (E := E)) (by decide +kernel) (ha_52 (E := E)) (hw_52 (E := E)) (fun H locs w => ?_)
          refine lv_iload hx hb dX6_shoot_101 (lv_at hl 0 rfl) ?_
          have hq : fX6_shoot hs σ n o η z sp d pl bl di sg sn = ((fX4_valueOfBall ((fX3_play z sp d σ bl di sg sn).2.2.2) (((fX3_play z sp d σ bl di sg sn).1) 6)), (fX4_scoreShot ((fX3_play z sp d σ bl di sg sn).2.2.2) (fX4_valueOfBall ((fX3_play z sp d σ bl di sg sn).2.2.2) (((fX3_play z sp d σ bl di sg sn).1) 6))), (fX2_record n o η σ).1, (fX2_record n o η σ).2.1, (fX2_record n o η σ).2.2, (fX3_play z sp d σ bl di sg sn).1, (fX3_play z sp d σ bl di sg sn).2.1, (fX3_play z sp d σ bl di sg sn).2.2.1) := by simp only [fX6_shoot, if_neg c4_1, if_neg c15_2, if_neg c28_3, if_pos c42_4]
          obtain ⟨h0_, h1_, h2_, h3_, h4_, h5_, h6_, h7_⟩ := tup8 hq
          rw [h0_, h1_, h2_, h3_, h4_, h5_, h6_, h7_]
          exact r_iret X w hr rfl dX6_shoot_103
        · refine lv_bipush (v := (-4)) hx hb dX6_shoot_45 (by decide) ?_
          have hq : fX6_shoot hs σ n o η z sp d pl bl di sg sn = ((-4), σ, n, o, η, z, sp, d) := by simp only [fX6_shoot, if_neg c4_1, if_neg c15_2, if_neg c28_3, if_neg c42_4]
          obtain ⟨h0_, h1_, h2_, h3_, h4_, h5_, h6_, h7_⟩ := tup8 hq
          rw [h0_, h1_, h2_, h3_, h4_, h5_, h6_, h7_]
          exact r_iret X w hr rfl dX6_shoot_47
      · refine lv_bipush (v := (-2)) hx hb dX6_shoot_31 (by decide) ?_
        have hq : fX6_shoot hs σ n o η z sp d pl bl di sg sn = ((-2), σ, n, o, η, z, sp, d) := by simp only [fX6_shoot, if_neg c4_1, if_neg c15_2, if_pos c28_3]
        obtain ⟨h0_, h1_, h2_, h3_, h4_, h5_, h6_, h7_⟩ := tup8 hq
        rw [h0_, h1_, h2_, h3_, h4_, h5_, h6_, h7_]
        exact r_iret X w hr rfl dX6_shoot_33
    · refine lv_iconst (v := (-1)) hx hb dX6_shoot_18 (by decide) ?_
      have hq : fX6_shoot hs σ n o η z sp d pl bl di sg sn = ((-1), σ, n, o, η, z, sp, d) := by simp only [fX6_shoot, if_neg c4_1, if_pos c15_2]
      obtain ⟨h0_, h1_, h2_, h3_, h4_, h5_, h6_, h7_⟩ := tup8 hq
      rw [h0_, h1_, h2_, h3_, h4_, h5_, h6_, h7_]
      exact r_iret X w hr rfl dX6_shoot_19
def fX6_pass (hs : Int32) (σ : N2) (n : Int32) (o : Nat) (η : Nat → N2) (pl : Int32) : Int32 × N2 × Int32 × Nat × (Nat → N2) := if (fX6_isPlayer pl) = 0 then (((-1), σ, n, o, η)) else (if pl = (σ 8 2) then ((σ 8 3, (fX4_changeTurn σ), (fX2_record n o η σ).1, (fX2_record n o η σ).2.1, (fX2_record n o η σ).2.2)) else (((-4), σ, n, o, η)))
theorem dX6_pass_0 : decode cX6_pass 0 = .ok (.iload_n 1, 1) := by decide +kernel
theorem dX6_pass_1 : decode cX6_pass 1 = .ok (.invokestatic 106, 3) := by decide +kernel
theorem dX6_pass_4 : decode cX6_pass 4 = .ok (.ifCond .ne 5, 3) := by decide +kernel
theorem dX6_pass_7 : decode cX6_pass 7 = .ok (.iconst (-1), 1) := by decide +kernel
theorem dX6_pass_8 : decode cX6_pass 8 = .ok (.ireturn, 1) := by decide +kernel
theorem dX6_pass_9 : decode cX6_pass 9 = .ok (.iload_n 1, 1) := by decide +kernel
theorem dX6_pass_10 : decode cX6_pass 10 = .ok (.aload_n 0, 1) := by decide +kernel
theorem dX6_pass_11 : decode cX6_pass 11 = .ok (.getfield 10, 3) := by decide +kernel
theorem dX6_pass_14 : decode cX6_pass 14 = .ok (.getfield 113, 3) := by decide +kernel
theorem dX6_pass_17 : decode cX6_pass 17 = .ok (.if_icmp .eq 6, 3) := by decide +kernel
theorem dX6_pass_20 : decode cX6_pass 20 = .ok (.bipush (-4), 2) := by decide +kernel
theorem dX6_pass_22 : decode cX6_pass 22 = .ok (.ireturn, 1) := by decide +kernel
theorem dX6_pass_23 : decode cX6_pass 23 = .ok (.aload_n 0, 1) := by decide +kernel
theorem dX6_pass_24 : decode cX6_pass 24 = .ok (.getfield 10, 3) := by decide +kernel
theorem dX6_pass_27 : decode cX6_pass 27 = .ok (.getfield 127, 3) := by decide +kernel
theorem dX6_pass_30 : decode cX6_pass 30 = .ok (.istore_n 2, 1) := by decide +kernel
theorem dX6_pass_31 : decode cX6_pass 31 = .ok (.aload_n 0, 1) := by decide +kernel
theorem dX6_pass_32 : decode cX6_pass 32 = .ok (.getfield 25, 3) := by decide +kernel
theorem dX6_pass_35 : decode cX6_pass 35 = .ok (.aload_n 0, 1) := by decide +kernel
theorem dX6_pass_36 : decode cX6_pass 36 = .ok (.getfield 10, 3) := by decide +kernel
theorem dX6_pass_39 : decode cX6_pass 39 = .ok (.invokevirtual 53, 3) := by decide +kernel
theorem dX6_pass_42 : decode cX6_pass 42 = .ok (.aload_n 0, 1) := by decide +kernel
theorem dX6_pass_43 : decode cX6_pass 43 = .ok (.getfield 10, 3) := by decide +kernel
theorem dX6_pass_46 : decode cX6_pass 46 = .ok (.invokevirtual 130, 3) := by decide +kernel
theorem dX6_pass_49 : decode cX6_pass 49 = .ok (.iload_n 2, 1) := by decide +kernel
theorem dX6_pass_50 : decode cX6_pass 50 = .ok (.ireturn, 1) := by decide +kernel
theorem ck_X6_130 : CkV RX6 130 RX4 yX4_changeTurn cX4_changeTurn 1 none 0 := ⟨wm_X6_130, wim_yX4_changeTurn, wse_yX4_changeTurn, wi_X4, wc_yX4_changeTurn, by decide +kernel⟩
set_option maxHeartbeats 4000000 in
set_option maxRecDepth 100000 in
theorem kX6_pass (l : Launch) (E : Ev) (h : Nat) (p1 : Nat) (p2 : Nat) (p4 : Nat) (p5 : Nat) (hs : Int32) (sa : Nat → Nat) (σ : N2) (ya : Nat → Nat) (hh : Nat → Nat → Nat) (n : Int32) (o : Nat) (η : Nat → N2) (pl : Int32) : KQ l yX6_pass cX6_pass 3 (some .int) 3 102 E [.ref h, .int pl] (wHb h (sa 0) p1 p2 (ya 0) p4 p5 hs ++ (wSt E sa σ ++ wHs E ya hh n o η)) (QI E (wHb h (sa 0) p1 p2 (ya 0) p4 p5 hs ++ (wSt E sa σ ++ wHs E ya hh n o η)) (fX6_pass hs σ n o η pl).1 (wHb h (sa 0) p1 p2 (ya 0) p4 p5 hs ++ (wSt E sa ((fX6_pass hs σ n o η pl).2.1) ++ wHs E ya hh ((fX6_pass hs σ n o η pl).2.2.1) ((fX6_pass hs σ n o η pl).2.2.2.1) ((fX6_pass hs σ n o η pl).2.2.2.2)))) := by
  refine KQ.mk RX6 rfl (by decide +kernel) (Nat.le_of_ble_eq_true rfl) ?_
  intro p e s m below meth c ls X hr w hl
  have hx := X.1
  have hb := X.2.1
  have hl : lv_has ls 3 [(0, .ref h), (1, .int pl)] := hl
  refine lv_iload_n hx hb dX6_pass_0 rfl (lv_at hl 1 rfl) ?_
  refine r_ci w (r_runS (As := [.int pl]) (rest := []) X w (kX6_isPlayer l E pl ) ck_X6_106 ⟨Nat.le_of_ble_eq_true rfl, Nat.le_of_ble_eq_true rfl⟩ [] rfl (by decide +kernel) hl.1 (Nat.le_of_ble_eq_true rfl) rfl dX6_pass_1 ⟨Nat.le_of_ble_eq_true rfl, Nat.le_of_ble_eq_true rfl⟩) (wHb h (sa 0) p1 p2 (ya 0) p4 p5 hs ++ (wSt E sa σ ++ wHs E ya hh n o η)) [] rfl (by decide +kernel) rfl rfl (fun H locs w => ?_)
  refine lv_if_ne (tgt := 9) hx hb dX6_pass_4 (by decide) (fun c4_1 => ?_) (fun c4_1 => ?_)
  · refine lv_iload_n hx hb dX6_pass_9 rfl (lv_at hl 1 rfl) ?_
    refine lv_aload_n hx hb dX6_pass_10 rfl (lv_at hl 0 rfl) ?_
    refine r_get X w CL6 0 (by decide) wf_X6_10 0 rfl rfl dX6_pass_11 ?_
    refine r_getN X w CL4 10 (by decide) nl_0 1 rfl rfl dX6_pass_14 ?_
    refine lv_icmp_eq (tgt := 23) hx hb dX6_pass_17 (by decide) (fun c17_2 => ?_) (fun c17_2 => ?_)
    · refine lv_aload_n hx hb dX6_pass_23 rfl (lv_at hl 0 rfl) ?_
      refine r_get X w CL6 0 (by decide) wf_X6_10 0 rfl rfl dX6_pass_24 ?_
      refine r_getN X w CL4 11 (by decide) nl_2 1 rfl rfl dX6_pass_27 ?_
      refine lv_istore_n (lv' := [(2, .int (σ 8 3)), (0, .ref h), (1, .int pl)]) hx hb dX6_pass_30 rfl hl (by decide) rfl (fun ls hl => ?_)
      refine lv_aload_n hx hb dX6_pass_31 rfl (lv_at hl 1 rfl) ?_
      refine r_get X w CL6 3 (by decide) wf_X6_25 0 rfl rfl dX6_pass_32 ?_
      refine lv_aload_n hx hb dX6_pass_35 rfl (lv_at hl 1 rfl) ?_
      refine r_get X w CL6 0 (by decide) wf_X6_10 0 rfl rfl dX6_pass_36 ?_
      refine r_cv w (r_runV (As := [.ref (sa 0)]) (rest := []) X w (kX2_record l E ya hh n o η sa σ ) ck_X6_53 ⟨Nat.le_of_ble_eq_true rfl, Nat.le_of_ble_eq_true rfl⟩ [10, 11, 12, 13, 14, 15, 16, 17, 18, 19, 20, 21, 22, 23, 24, 25, 26, 27, 28, 29, 30, 31, 32, 33, 34, 35, 36, 37, 38, 39, 40, 41, 42, 43, 44, 45, 46, 47, 1, 2, 3, 4, 5, 6, 7, 8, 9] (hc_49 (E := E)) (by decide +kernel) (k0 := 0) CL2 rfl hl.1 (Nat.le_of_ble_eq_true rfl) rfl dX6_pass_39 ⟨Nat.le_of_ble_eq_true rfl, Nat.le_of_ble_eq_true rfl⟩) (wHb h (sa 0) p1 p2 (ya 0) p4 p5 hs ++ (wSt E sa σ ++ wHs E ya hh ((fX2_record n o η σ).1) ((fX2_record n o η σ).2.1) ((fX2_record n o η σ).2.2))) [10, 11, 12, 13, 14, 15, 16, 17, 18, 19, 20, 21, 22, 23, 24, 25, 26, 27, 28, 29, 30, 31, 32, 33, 34, 35, 36, 37, 38, 39, 40, 41, 42, 43, 44, 45, 46, 47, 1, 2, 3, 4, 5, 6, 7, 8, 9] (hc_49 (E := E)) (by decide +kernel) (ha_49 (E := E)) (hw_49 (E := E)) (fun H locs w => ?_)
      refine lv_aload_n hx hb dX6_pass_42 rfl (lv_at hl 1 rfl) ?_
      refine r_get X w CL6 0 (by decide) wf_X6_10 0 rfl rfl dX6_pass_43 ?_
      refine r_cv w (r_runV (As := []) (rest := []) X w (kX4_changeTurn l E sa σ ) ck_X6_130 ⟨Nat.le_of_ble_eq_true rfl, Nat.le_of_ble_eq_true rfl⟩ [1, 2, 3, 4, 5, 6, 7, 8, 9] (hc_48 (E := E)) (by decide +kernel) (k0 := 0) CL4 rfl hl.1 (Nat.le_of_ble_eq_true rfl) rfl dX6_pass_46 ⟨Nat.le_of_ble_eq_true rfl, Nat.le_of_ble_eq_true rfl⟩) (wHb h (sa 0) p1 p2 (ya 0) p4 p5 hs ++ (wSt E sa (fX4_changeTurn σ) ++ wHs E ya hh ((fX2_record n o η σ).1) ((fX2_record n o η σ).2.1) ((fX2_record n o η σ).2.2))) [1, 2, 3, 4, 5, 6, 7, 8, 9] (hc_48 (E := E)) (by decide +kernel) (ha_48 (E := E)) (hw_48 (E := E)) (fun H locs w => ?_)
      refine lv_iload_n hx hb dX6_pass_49 rfl (lv_at hl 0 rfl) ?_
      have hq : fX6_pass hs σ n o η pl = (σ 8 3, (fX4_changeTurn σ), (fX2_record n o η σ).1, (fX2_record n o η σ).2.1, (fX2_record n o η σ).2.2) := by simp only [fX6_pass, if_neg c4_1, if_pos c17_2]
      obtain ⟨h0_, h1_, h2_, h3_, h4_⟩ := tup5 hq
      rw [h0_, h1_, h2_, h3_, h4_]
      exact r_iret X w hr rfl dX6_pass_50
    · refine lv_bipush (v := (-4)) hx hb dX6_pass_20 (by decide) ?_
      have hq : fX6_pass hs σ n o η pl = ((-4), σ, n, o, η) := by simp only [fX6_pass, if_neg c4_1, if_neg c17_2]
      obtain ⟨h0_, h1_, h2_, h3_, h4_⟩ := tup5 hq
      rw [h0_, h1_, h2_, h3_, h4_]
      exact r_iret X w hr rfl dX6_pass_22
  · refine lv_iconst (v := (-1)) hx hb dX6_pass_7 (by decide) ?_
    have hq : fX6_pass hs σ n o η pl = ((-1), σ, n, o, η) := by simp only [fX6_pass, if_pos c4_1]
    obtain ⟨h0_, h1_, h2_, h3_, h4_⟩ := tup5 hq
    rw [h0_, h1_, h2_, h3_, h4_]
    exact r_iret X w hr rfl dX6_pass_8
def fX6_type (hs : Int32) (t : N2) (ch : Int32) : Int32 × N2 := if ((fX0_append t ch).1) = 0 then (((-3), (fX0_append t ch).2)) else ((((fX0_append t ch).2) 3 0, (fX0_append t ch).2))
theorem dX6_type_0 : decode cX6_type 0 = .ok (.aload_n 0, 1) := by decide +kernel
theorem dX6_type_1 : decode cX6_type 1 = .ok (.getfield 32, 3) := by decide +kernel
theorem dX6_type_4 : decode cX6_type 4 = .ok (.iload_n 1, 1) := by decide +kernel
theorem dX6_type_5 : decode cX6_type 5 = .ok (.invokevirtual 133, 3) := by decide +kernel
theorem dX6_type_8 : decode cX6_type 8 = .ok (.ifCond .eq 13, 3) := by decide +kernel
theorem dX6_type_11 : decode cX6_type 11 = .ok (.aload_n 0, 1) := by decide +kernel
theorem dX6_type_12 : decode cX6_type 12 = .ok (.getfield 32, 3) := by decide +kernel
theorem dX6_type_15 : decode cX6_type 15 = .ok (.getfield 137, 3) := by decide +kernel
theorem dX6_type_18 : decode cX6_type 18 = .ok (.goto 5, 3) := by decide +kernel
theorem dX6_type_21 : decode cX6_type 21 = .ok (.bipush (-3), 2) := by decide +kernel
theorem dX6_type_23 : decode cX6_type 23 = .ok (.ireturn, 1) := by decide +kernel
theorem ck_X6_133 : CkV RX6 133 RX0 yX0_append cX0_append 2 (some .boolean) 1 := ⟨wm_X6_133, wim_yX0_append, wse_yX0_append, wi_X0, wc_yX0_append, by decide +kernel⟩
theorem hc_55 {E : Ev} {a0 p0_0 p0_1 p0_2 p0_3 p0_4 p0_5 : Nat} {n0 : Int32} {a1 : Nat → Nat} {σ1 : N2} : ([1, 2, 3, 4] : List Nat).map (fun i => (wHb a0 p0_0 p0_1 p0_2 p0_3 p0_4 p0_5 n0 ++ wTx E a1 σ1)[i]?) = (wTx E a1 σ1).map some := rfl
theorem ha_55 {E : Ev} {a1 : Nat → Nat} {σ1 : N2} {τ0_0 : N2} : (wTx E a1 τ0_0).map Prod.fst = (wTx E a1 σ1).map Prod.fst := rfl
theorem hw_55 {E : Ev} {a0 p0_0 p0_1 p0_2 p0_3 p0_4 p0_5 : Nat} {n0 : Int32} {a1 : Nat → Nat} {σ1 : N2} {τ0_0 : N2} : wput (wHb a0 p0_0 p0_1 p0_2 p0_3 p0_4 p0_5 n0 ++ wTx E a1 σ1) [1, 2, 3, 4] (wTx E a1 τ0_0) = wHb a0 p0_0 p0_1 p0_2 p0_3 p0_4 p0_5 n0 ++ wTx E a1 τ0_0 := rfl
set_option maxHeartbeats 4000000 in
set_option maxRecDepth 100000 in
theorem kX6_type (l : Launch) (E : Ev) (h : Nat) (p0 : Nat) (p1 : Nat) (p2 : Nat) (p3 : Nat) (p5 : Nat) (hs : Int32) (xa : Nat → Nat) (t : N2) (ch : Int32) (hc : vp_nar .char ch = ch) : KQ l yX6_type cX6_type 2 (some .int) 1 21 E [.ref h, .int ch] (wHb h p0 p1 p2 p3 (xa 0) p5 hs ++ wTx E xa t) (QI E (wHb h p0 p1 p2 p3 (xa 0) p5 hs ++ wTx E xa t) (fX6_type hs t ch).1 (wHb h p0 p1 p2 p3 (xa 0) p5 hs ++ wTx E xa ((fX6_type hs t ch).2))) := by
  refine KQ.mk RX6 rfl (by decide +kernel) (Nat.le_of_ble_eq_true rfl) ?_
  intro p e s m below meth c ls X hr w hl
  have hx := X.1
  have hb := X.2.1
  have hl : lv_has ls 2 [(0, .ref h), (1, .int ch)] := hl
  refine lv_aload_n hx hb dX6_type_0 rfl (lv_at hl 0 rfl) ?_
  refine r_get X w CL6 4 (by decide) wf_X6_32 0 rfl rfl dX6_type_1 ?_
  refine lv_iload_n hx hb dX6_type_4 rfl (lv_at hl 1 rfl) ?_
  refine r_ci w (r_runV (As := [.int ch]) (rest := []) X w (kX0_append l E xa t ch hc) ck_X6_133 ⟨Nat.le_of_ble_eq_true rfl, Nat.le_of_ble_eq_true rfl⟩ [1, 2, 3, 4] (hc_55 (E := E)) (by decide +kernel) (k0 := 0) CL0 rfl hl.1 (Nat.le_of_ble_eq_true rfl) rfl dX6_type_5 ⟨Nat.le_of_ble_eq_true rfl, Nat.le_of_ble_eq_true rfl⟩) (wHb h p0 p1 p2 p3 (xa 0) p5 hs ++ wTx E xa ((fX0_append t ch).2)) [1, 2, 3, 4] (hc_55 (E := E)) (by decide +kernel) (ha_55 (E := E)) (hw_55 (E := E)) (fun H locs w => ?_)
  refine lv_if_eq (tgt := 21) hx hb dX6_type_8 (by decide) (fun c8_1 => ?_) (fun c8_1 => ?_)
  · refine lv_bipush (v := (-3)) hx hb dX6_type_21 (by decide) ?_
    have hq : fX6_type hs t ch = ((-3), (fX0_append t ch).2) := by simp only [fX6_type, if_pos c8_1]
    obtain ⟨h0_, h1_⟩ := tup2 hq
    rw [h0_, h1_]
    exact r_iret X w hr rfl dX6_type_23
  · refine lv_aload_n hx hb dX6_type_11 rfl (lv_at hl 0 rfl) ?_
    refine r_get X w CL6 4 (by decide) wf_X6_32 0 rfl rfl dX6_type_12 ?_
    refine r_getN X w CL0 1 (by decide) nl_3 1 rfl rfl dX6_type_15 ?_
    refine lv_goto (tgt := 23) hx hb dX6_type_18 (by decide) ?_
    have hq : fX6_type hs t ch = (((fX0_append t ch).2) 3 0, (fX0_append t ch).2) := by simp only [fX6_type, if_neg c8_1]
    obtain ⟨h0_, h1_⟩ := tup2 hq
    rw [h0_, h1_]
    exact r_iret X w hr rfl dX6_type_23
def fX6_clearText (hs : Int32) (t : N2) : Int32 × N2 := (t 3 0, u2 t 3 0 0)
theorem dX6_clearText_0 : decode cX6_clearText 0 = .ok (.aload_n 0, 1) := by decide +kernel
theorem dX6_clearText_1 : decode cX6_clearText 1 = .ok (.getfield 32, 3) := by decide +kernel
theorem dX6_clearText_4 : decode cX6_clearText 4 = .ok (.getfield 137, 3) := by decide +kernel
theorem dX6_clearText_7 : decode cX6_clearText 7 = .ok (.istore_n 1, 1) := by decide +kernel
theorem dX6_clearText_8 : decode cX6_clearText 8 = .ok (.aload_n 0, 1) := by decide +kernel
theorem dX6_clearText_9 : decode cX6_clearText 9 = .ok (.getfield 32, 3) := by decide +kernel
theorem dX6_clearText_12 : decode cX6_clearText 12 = .ok (.iconst 0, 1) := by decide +kernel
theorem dX6_clearText_13 : decode cX6_clearText 13 = .ok (.putfield 137, 3) := by decide +kernel
theorem dX6_clearText_16 : decode cX6_clearText 16 = .ok (.iload_n 1, 1) := by decide +kernel
theorem dX6_clearText_17 : decode cX6_clearText 17 = .ok (.ireturn, 1) := by decide +kernel
theorem ax_56 {E : Ev} {a0 p0_0 p0_1 p0_2 p0_3 p0_4 p0_5 : Nat} {n0 : Int32} {a1 : Nat → Nat} {σ1 : N2} {x : Int32} : (wHb a0 p0_0 p0_1 p0_2 p0_3 p0_4 p0_5 n0 ++ wTx E a1 σ1).set 1 (a1 0, .inr (0, ([.ref (a1 1), .int (σ1 3 0), .ref (a1 2), .ref (a1 3), .int (σ1 3 1), .int (σ1 3 2), .int (σ1 3 3)] : List Value).set 1 (.int x))) = wHb a0 p0_0 p0_1 p0_2 p0_3 p0_4 p0_5 n0 ++ wTx E a1 (u2 σ1 3 0 x) := rfl
set_option maxHeartbeats 4000000 in
set_option maxRecDepth 100000 in
theorem kX6_clearText (l : Launch) (E : Ev) (h : Nat) (p0 : Nat) (p1 : Nat) (p2 : Nat) (p3 : Nat) (p5 : Nat) (hs : Int32) (xa : Nat → Nat) (t : N2) : KQ l yX6_clearText cX6_clearText 2 (some .int) 0 0 E [.ref h] (wHb h p0 p1 p2 p3 (xa 0) p5 hs ++ wTx E xa t) (QI E (wHb h p0 p1 p2 p3 (xa 0) p5 hs ++ wTx E xa t) (fX6_clearText hs t).1 (wHb h p0 p1 p2 p3 (xa 0) p5 hs ++ wTx E xa ((fX6_clearText hs t).2))) := by
  refine KQ.mk RX6 rfl (by decide +kernel) (Nat.le_of_ble_eq_true rfl) ?_
  intro p e s m below meth c ls X hr w hl
  have hx := X.1
  have hb := X.2.1
  have hl : lv_has ls 2 [(0, .ref h)] := hl
  refine lv_aload_n hx hb dX6_clearText_0 rfl (lv_at hl 0 rfl) ?_
  refine r_get X w CL6 4 (by decide) wf_X6_32 0 rfl rfl dX6_clearText_1 ?_
  refine r_getN X w CL0 1 (by decide) nl_3 1 rfl rfl dX6_clearText_4 ?_
  refine lv_istore_n (lv' := [(1, .int (t 3 0)), (0, .ref h)]) hx hb dX6_clearText_7 rfl hl (by decide) rfl (fun ls hl => ?_)
  refine lv_aload_n hx hb dX6_clearText_8 rfl (lv_at hl 1 rfl) ?_
  refine r_get X w CL6 4 (by decide) wf_X6_32 0 rfl rfl dX6_clearText_9 ?_
  refine lv_iconst (v := 0) hx hb dX6_clearText_12 (by decide) ?_
  refine r_putN X w (wHb h p0 p1 p2 p3 (xa 0) p5 hs ++ wTx E xa (u2 t 3 0 0)) CL0 1 (by decide) nl_3 1 rfl rfl rfl rfl (Nat.le_of_ble_eq_true rfl) (ax_56 (E := E)) dX6_clearText_13 (fun H locs w => ?_)
  refine lv_iload_n hx hb dX6_clearText_16 rfl (lv_at hl 0 rfl) ?_
  have hq : fX6_clearText hs t = (t 3 0, u2 t 3 0 0) := rfl
  obtain ⟨h0_, h1_⟩ := tup2 hq
  rw [h0_, h1_]
  exact r_iret X w hr rfl dX6_clearText_17
def fX6_cell (hs : Int32) (q : Int32) (r : Int32) : Int32 := ((fX1_cellAt q r))
theorem dX6_cell_0 : decode cX6_cell 0 = .ok (.iload_n 1, 1) := by decide +kernel
theorem dX6_cell_1 : decode cX6_cell 1 = .ok (.iload_n 2, 1) := by decide +kernel
theorem dX6_cell_2 : decode cX6_cell 2 = .ok (.invokestatic 154, 3) := by decide +kernel
theorem dX6_cell_5 : decode cX6_cell 5 = .ok (.ireturn, 1) := by decide +kernel
theorem ck_X6_154 : CkS RX6 154 yX1_cellAt cX1_cellAt 2 (some .int) 2 := ⟨wm_X6_154, wst_yX1_cellAt, wi_X1, wc_yX1_cellAt, by decide +kernel⟩
set_option maxHeartbeats 4000000 in
set_option maxRecDepth 100000 in
theorem kX6_cell (l : Launch) (E : Ev) (h : Nat) (p0 : Nat) (p1 : Nat) (p2 : Nat) (p3 : Nat) (p4 : Nat) (p5 : Nat) (hs : Int32) (q : Int32) (r : Int32) : KQ l yX6_cell cX6_cell 3 (some .int) 2 41 E [.ref h, .int q, .int r] (wHb h p0 p1 p2 p3 p4 p5 hs) (QI E (wHb h p0 p1 p2 p3 p4 p5 hs) (fX6_cell hs q r) (wHb h p0 p1 p2 p3 p4 p5 hs)) := by
  refine KQ.mk RX6 rfl (by decide +kernel) (Nat.le_of_ble_eq_true rfl) ?_
  intro p e s m below meth c ls X hr w hl
  have hx := X.1
  have hb := X.2.1
  have hl : lv_has ls 3 [(0, .ref h), (1, .int q), (2, .int r)] := hl
  refine lv_iload_n hx hb dX6_cell_0 rfl (lv_at hl 1 rfl) ?_
  refine lv_iload_n hx hb dX6_cell_1 rfl (lv_at hl 2 rfl) ?_
  refine r_ci w (r_runS (As := [.int q, .int r]) (rest := []) X w (kX1_cellAt l E q r ) ck_X6_154 ⟨Nat.le_of_ble_eq_true rfl, Nat.le_of_ble_eq_true rfl⟩ [] rfl (by decide +kernel) hl.1 (Nat.le_of_ble_eq_true rfl) rfl dX6_cell_2 ⟨Nat.le_of_ble_eq_true rfl, Nat.le_of_ble_eq_true rfl⟩) (wHb h p0 p1 p2 p3 p4 p5 hs) [] rfl (by decide +kernel) rfl rfl (fun H locs w => ?_)
  have hq : fX6_cell hs q r = ((fX1_cellAt q r)) := rfl
  rw [hq]
  exact r_iret X w hr rfl dX6_cell_5
def fX6_ofCell (hs : Int32) (σ : N2) (ce : Int32) (wt : Int32) : Int32 := if (fX1_isCell ce) = 0 then (((-1))) else (if wt = 0 then (((fX1_columnOf ce) + 4)) else (if wt = 1 then (((fX1_rowOf ce) + 4)) else (if wt = 2 then (((fX4_ballOnCell σ ce))) else (if wt = 3 then (((fX1_cornerOf ce))) else (if wt = 4 then (((fX1_cellsBeside ce))) else (((-2))))))))
theorem dX6_ofCell_0 : decode cX6_ofCell 0 = .ok (.iload_n 1, 1) := by decide +kernel
theorem dX6_ofCell_1 : decode cX6_ofCell 1 = .ok (.invokestatic 43, 3) := by decide +kernel
theorem dX6_ofCell_4 : decode cX6_ofCell 4 = .ok (.ifCond .ne 5, 3) := by decide +kernel
theorem dX6_ofCell_7 : decode cX6_ofCell 7 = .ok (.iconst (-1), 1) := by decide +kernel
theorem dX6_ofCell_8 : decode cX6_ofCell 8 = .ok (.ireturn, 1) := by decide +kernel
theorem dX6_ofCell_9 : decode cX6_ofCell 9 = .ok (.iload_n 2, 1) := by decide +kernel
theorem dX6_ofCell_10 : decode cX6_ofCell 10 = .ok (.tableswitch 67 0 4 #[34, 41, 48, 57, 62], 34) := by decide +kernel
theorem dX6_ofCell_44 : decode cX6_ofCell 44 = .ok (.iload_n 1, 1) := by decide +kernel
theorem dX6_ofCell_45 : decode cX6_ofCell 45 = .ok (.invokestatic 157, 3) := by decide +kernel
theorem dX6_ofCell_48 : decode cX6_ofCell 48 = .ok (.iconst 4, 1) := by decide +kernel
theorem dX6_ofCell_49 : decode cX6_ofCell 49 = .ok (.iadd, 1) := by decide +kernel
theorem dX6_ofCell_50 : decode cX6_ofCell 50 = .ok (.ireturn, 1) := by decide +kernel
theorem dX6_ofCell_51 : decode cX6_ofCell 51 = .ok (.iload_n 1, 1) := by decide +kernel
theorem dX6_ofCell_52 : decode cX6_ofCell 52 = .ok (.invokestatic 160, 3) := by decide +kernel
theorem dX6_ofCell_55 : decode cX6_ofCell 55 = .ok (.iconst 4, 1) := by decide +kernel
theorem dX6_ofCell_56 : decode cX6_ofCell 56 = .ok (.iadd, 1) := by decide +kernel
theorem dX6_ofCell_57 : decode cX6_ofCell 57 = .ok (.ireturn, 1) := by decide +kernel
theorem dX6_ofCell_58 : decode cX6_ofCell 58 = .ok (.aload_n 0, 1) := by decide +kernel
theorem dX6_ofCell_59 : decode cX6_ofCell 59 = .ok (.getfield 10, 3) := by decide +kernel
theorem dX6_ofCell_62 : decode cX6_ofCell 62 = .ok (.iload_n 1, 1) := by decide +kernel
theorem dX6_ofCell_63 : decode cX6_ofCell 63 = .ok (.invokevirtual 82, 3) := by decide +kernel
theorem dX6_ofCell_66 : decode cX6_ofCell 66 = .ok (.ireturn, 1) := by decide +kernel
theorem dX6_ofCell_67 : decode cX6_ofCell 67 = .ok (.iload_n 1, 1) := by decide +kernel
theorem dX6_ofCell_68 : decode cX6_ofCell 68 = .ok (.invokestatic 163, 3) := by decide +kernel
theorem dX6_ofCell_71 : decode cX6_ofCell 71 = .ok (.ireturn, 1) := by decide +kernel
theorem dX6_ofCell_72 : decode cX6_ofCell 72 = .ok (.iload_n 1, 1) := by decide +kernel
theorem dX6_ofCell_73 : decode cX6_ofCell 73 = .ok (.invokestatic 166, 3) := by decide +kernel
theorem dX6_ofCell_76 : decode cX6_ofCell 76 = .ok (.ireturn, 1) := by decide +kernel
theorem dX6_ofCell_77 : decode cX6_ofCell 77 = .ok (.bipush (-2), 2) := by decide +kernel
theorem dX6_ofCell_79 : decode cX6_ofCell 79 = .ok (.ireturn, 1) := by decide +kernel
theorem ck_X6_157 : CkS RX6 157 yX1_columnOf cX1_columnOf 2 (some .int) 1 := ⟨wm_X6_157, wst_yX1_columnOf, wi_X1, wc_yX1_columnOf, by decide +kernel⟩
theorem ck_X6_160 : CkS RX6 160 yX1_rowOf cX1_rowOf 2 (some .int) 1 := ⟨wm_X6_160, wst_yX1_rowOf, wi_X1, wc_yX1_rowOf, by decide +kernel⟩
theorem ck_X6_163 : CkS RX6 163 yX1_cornerOf cX1_cornerOf 2 (some .int) 1 := ⟨wm_X6_163, wst_yX1_cornerOf, wi_X1, wc_yX1_cornerOf, by decide +kernel⟩
theorem ck_X6_166 : CkS RX6 166 yX1_cellsBeside cX1_cellsBeside 5 (some .int) 1 := ⟨wm_X6_166, wst_yX1_cellsBeside, wi_X1, wc_yX1_cellsBeside, by decide +kernel⟩
theorem hc_57 {E : Ev} {a0 p0_0 p0_1 p0_2 p0_3 p0_4 p0_5 : Nat} {n0 : Int32} {a1 : Nat → Nat} {σ1 : N2} : ([1, 2, 3, 4, 5, 6, 7, 8, 9] : List Nat).map (fun i => (wHb a0 p0_0 p0_1 p0_2 p0_3 p0_4 p0_5 n0 ++ wSt E a1 σ1)[i]?) = (wSt E a1 σ1).map some := rfl
theorem ha_57 {E : Ev} {a1 : Nat → Nat} {σ1 : N2} {τ0_0 : N2} : (wSt E a1 τ0_0).map Prod.fst = (wSt E a1 σ1).map Prod.fst := rfl
theorem hw_57 {E : Ev} {a0 p0_0 p0_1 p0_2 p0_3 p0_4 p0_5 : Nat} {n0 : Int32} {a1 : Nat → Nat} {σ1 : N2} {τ0_0 : N2} : wput (wHb a0 p0_0 p0_1 p0_2 p0_3 p0_4 p0_5 n0 ++ wSt E a1 σ1) [1, 2, 3, 4, 5, 6, 7, 8, 9] (wSt E a1 τ0_0) = wHb a0 p0_0 p0_1 p0_2 p0_3 p0_4 p0_5 n0 ++ wSt E a1 τ0_0 := rfl
set_option maxHeartbeats 4000000 in
set_option maxRecDepth 100000 in
theorem kX6_ofCell (l : Launch) (E : Ev) (h : Nat) (p1 : Nat) (p2 : Nat) (p3 : Nat) (p4 : Nat) (p5 : Nat) (hs : Int32) (sa : Nat → Nat) (σ : N2) (ce : Int32) (wt : Int32) : KQ l yX6_ofCell cX6_ofCell 3 (some .int) 3 66 E [.ref h, .int ce, .int wt] (wHb h (sa 0) p1 p2 p3 p4 p5 hs ++ wSt E sa σ) (QI E (wHb h (sa 0) p1 p2 p3 p4 p5 hs ++ wSt E sa σ) (fX6_ofCell hs σ ce wt) (wHb h (sa 0) p1 p2 p3 p4 p5 hs ++ wSt E sa σ)) := by
  refine KQ.mk RX6 rfl (by decide +kernel) (Nat.le_of_ble_eq_true rfl) ?_
  intro p e s m below meth c ls X hr w hl
  have hx := X.1
  have hb := X.2.1
  have hl : lv_has ls 3 [(0, .ref h), (1, .int ce), (2, .int wt)] := hl
  refine lv_iload_n hx hb dX6_ofCell_0 rfl (lv_at hl 1 rfl) ?_
  refine r_ci w (r_runS (As := [.int ce]) (rest := []) X w (kX1_isCell l E ce ) ck_X6_43 ⟨Nat.le_of_ble_eq_true rfl, Nat.le_of_ble_eq_true rfl⟩ [] rfl (by decide +kernel) hl.1 (Nat.le_of_ble_eq_true rfl) rfl dX6_ofCell_1 ⟨Nat.le_of_ble_eq_true rfl, Nat.le_of_ble_eq_true rfl⟩) (wHb h (sa 0) p1 p2 p3 p4 p5 hs ++ wSt E sa σ) [] rfl (by decide +kernel) rfl rfl (fun H locs w => ?_)
  refine lv_if_ne (tgt := 9) hx hb dX6_ofCell_4 (by decide) (fun c4_1 => ?_) (fun c4_1 => ?_)
  · refine lv_iload_n hx hb dX6_ofCell_9 rfl (lv_at hl 2 rfl) ?_
    by_cases c10_2 : wt = 0
    · refine lv_tableIn (off := 34) (tgt := 44) hx hb dX6_ofCell_10 (by rw [c10_2]; decide) (by rw [c10_2]; decide) (by rw [c10_2]; rfl) (by decide) ?_
      refine lv_iload_n hx hb dX6_ofCell_44 rfl (lv_at hl 1 rfl) ?_
      refine r_ci w (r_runS (As := [.int ce]) (rest := []) X w (kX1_columnOf l E ce ) ck_X6_157 ⟨Nat.le_of_ble_eq_true rfl, Nat.le_of_ble_eq_true rfl⟩ [] rfl (by decide +kernel) hl.1 (Nat.le_of_ble_eq_true rfl) rfl dX6_ofCell_45 ⟨Nat.le_of_ble_eq_true rfl, Nat.le_of_ble_eq_true rfl⟩) (wHb h (sa 0) p1 p2 p3 p4 p5 hs ++ wSt E sa σ) [] rfl (by decide +kernel) rfl rfl (fun H locs w => ?_)
      refine lv_iconst (v := 4) hx hb dX6_ofCell_48 (by decide) ?_
      refine lv_iadd hx hb dX6_ofCell_49 ?_
      have hq : fX6_ofCell hs σ ce wt = ((fX1_columnOf ce) + 4) := by simp only [fX6_ofCell, if_neg c4_1, if_pos c10_2]
      rw [hq]
      exact r_iret X w hr rfl dX6_ofCell_50
    · by_cases c10_3 : wt = 1
      · refine lv_tableIn (off := 41) (tgt := 51) hx hb dX6_ofCell_10 (by rw [c10_3]; decide) (by rw [c10_3]; decide) (by rw [c10_3]; rfl) (by decide) ?_
        refine lv_iload_n hx hb dX6_ofCell_51 rfl (lv_at hl 1 rfl) ?_
        refine r_ci w (r_runS (As := [.int ce]) (rest := []) X w (kX1_rowOf l E ce ) ck_X6_160 ⟨Nat.le_of_ble_eq_true rfl, Nat.le_of_ble_eq_true rfl⟩ [] rfl (by decide +kernel) hl.1 (Nat.le_of_ble_eq_true rfl) rfl dX6_ofCell_52 ⟨Nat.le_of_ble_eq_true rfl, Nat.le_of_ble_eq_true rfl⟩) (wHb h (sa 0) p1 p2 p3 p4 p5 hs ++ wSt E sa σ) [] rfl (by decide +kernel) rfl rfl (fun H locs w => ?_)
        refine lv_iconst (v := 4) hx hb dX6_ofCell_55 (by decide) ?_
        refine lv_iadd hx hb dX6_ofCell_56 ?_
        have hq : fX6_ofCell hs σ ce wt = ((fX1_rowOf ce) + 4) := by simp only [fX6_ofCell, if_neg c4_1, if_neg c10_2, if_pos c10_3]
        rw [hq]
        exact r_iret X w hr rfl dX6_ofCell_57
      · by_cases c10_4 : wt = 2
        · refine lv_tableIn (off := 48) (tgt := 58) hx hb dX6_ofCell_10 (by rw [c10_4]; decide) (by rw [c10_4]; decide) (by rw [c10_4]; rfl) (by decide) ?_
          refine lv_aload_n hx hb dX6_ofCell_58 rfl (lv_at hl 0 rfl) ?_
          refine r_get X w CL6 0 (by decide) wf_X6_10 0 rfl rfl dX6_ofCell_59 ?_
          refine lv_iload_n hx hb dX6_ofCell_62 rfl (lv_at hl 1 rfl) ?_
          refine r_ci w (r_runV (As := [.int ce]) (rest := []) X w (kX4_ballOnCell l E sa σ ce ) ck_X6_82 ⟨Nat.le_of_ble_eq_true rfl, Nat.le_of_ble_eq_true rfl⟩ [1, 2, 3, 4, 5, 6, 7, 8, 9] (hc_57 (E := E)) (by decide +kernel) (k0 := 0) CL4 rfl hl.1 (Nat.le_of_ble_eq_true rfl) rfl dX6_ofCell_63 ⟨Nat.le_of_ble_eq_true rfl, Nat.le_of_ble_eq_true rfl⟩) (wHb h (sa 0) p1 p2 p3 p4 p5 hs ++ wSt E sa σ) [1, 2, 3, 4, 5, 6, 7, 8, 9] (hc_57 (E := E)) (by decide +kernel) (ha_57 (E := E)) (hw_57 (E := E)) (fun H locs w => ?_)
          have hq : fX6_ofCell hs σ ce wt = ((fX4_ballOnCell σ ce)) := by simp only [fX6_ofCell, if_neg c4_1, if_neg c10_2, if_neg c10_3, if_pos c10_4]
          rw [hq]
          exact r_iret X w hr rfl dX6_ofCell_66
        · by_cases c10_5 : wt = 3
          · refine lv_tableIn (off := 57) (tgt := 67) hx hb dX6_ofCell_10 (by rw [c10_5]; decide) (by rw [c10_5]; decide) (by rw [c10_5]; rfl) (by decide) ?_
            refine lv_iload_n hx hb dX6_ofCell_67 rfl (lv_at hl 1 rfl) ?_
            refine r_ci w (r_runS (As := [.int ce]) (rest := []) X w (kX1_cornerOf l E ce ) ck_X6_163 ⟨Nat.le_of_ble_eq_true rfl, Nat.le_of_ble_eq_true rfl⟩ [] rfl (by decide +kernel) hl.1 (Nat.le_of_ble_eq_true rfl) rfl dX6_ofCell_68 ⟨Nat.le_of_ble_eq_true rfl, Nat.le_of_ble_eq_true rfl⟩) (wHb h (sa 0) p1 p2 p3 p4 p5 hs ++ wSt E sa σ) [] rfl (by decide +kernel) rfl rfl (fun H locs w => ?_)
            have hq : fX6_ofCell hs σ ce wt = ((fX1_cornerOf ce)) := by simp only [fX6_ofCell, if_neg c4_1, if_neg c10_2, if_neg c10_3, if_neg c10_4, if_pos c10_5]
            rw [hq]
            exact r_iret X w hr rfl dX6_ofCell_71
          · by_cases c10_6 : wt = 4
            · refine lv_tableIn (off := 62) (tgt := 72) hx hb dX6_ofCell_10 (by rw [c10_6]; decide) (by rw [c10_6]; decide) (by rw [c10_6]; rfl) (by decide) ?_
              refine lv_iload_n hx hb dX6_ofCell_72 rfl (lv_at hl 1 rfl) ?_
              refine r_ci w (r_runS (As := [.int ce]) (rest := []) X w (kX1_cellsBeside l E ce ) ck_X6_166 ⟨Nat.le_of_ble_eq_true rfl, Nat.le_of_ble_eq_true rfl⟩ [] rfl (by decide +kernel) hl.1 (Nat.le_of_ble_eq_true rfl) rfl dX6_ofCell_73 ⟨Nat.le_of_ble_eq_true rfl, Nat.le_of_ble_eq_true rfl⟩) (wHb h (sa 0) p1 p2 p3 p4 p5 hs ++ wSt E sa σ) [] rfl (by decide +kernel) rfl rfl (fun H locs w => ?_)
              have hq : fX6_ofCell hs σ ce wt = ((fX1_cellsBeside ce)) := by simp only [fX6_ofCell, if_neg c4_1, if_neg c10_2, if_neg c10_3, if_neg c10_4, if_neg c10_5, if_pos c10_6]
              rw [hq]
              exact r_iret X w hr rfl dX6_ofCell_76
            · refine lv_tableOut (tgt := 77) hx hb dX6_ofCell_10 (tab_out_4 c10_2 c10_3 c10_4 c10_5 c10_6) (by decide) ?_
              refine lv_bipush (v := (-2)) hx hb dX6_ofCell_77 (by decide) ?_
              have hq : fX6_ofCell hs σ ce wt = ((-2)) := by simp only [fX6_ofCell, if_neg c4_1, if_neg c10_2, if_neg c10_3, if_neg c10_4, if_neg c10_5, if_neg c10_6]
              rw [hq]
              exact r_iret X w hr rfl dX6_ofCell_79
  · refine lv_iconst (v := (-1)) hx hb dX6_ofCell_7 (by decide) ?_
    have hq : fX6_ofCell hs σ ce wt = ((-1)) := by simp only [fX6_ofCell, if_pos c4_1]
    rw [hq]
    exact r_iret X w hr rfl dX6_ofCell_8
def fX6_ball (hs : Int32) (σ : N2) (bl : Int32) (wt : Int32) : Int32 := if (fX4_hasBall σ bl) = 0 then (((-1))) else (if wt = 0 then ((σ 0 bl.toNatClampNeg)) else (if wt = 1 then ((σ 1 bl.toNatClampNeg)) else (if wt = 2 then ((σ 2 bl.toNatClampNeg)) else (if wt = 3 then ((σ 3 bl.toNatClampNeg)) else (if wt = 4 then ((σ 4 bl.toNatClampNeg)) else (((-2))))))))
theorem dX6_ball_0 : decode cX6_ball 0 = .ok (.aload_n 0, 1) := by decide +kernel
theorem dX6_ball_1 : decode cX6_ball 1 = .ok (.getfield 10, 3) := by decide +kernel
theorem dX6_ball_4 : decode cX6_ball 4 = .ok (.iload_n 1, 1) := by decide +kernel
theorem dX6_ball_5 : decode cX6_ball 5 = .ok (.invokevirtual 78, 3) := by decide +kernel
theorem dX6_ball_8 : decode cX6_ball 8 = .ok (.ifCond .ne 5, 3) := by decide +kernel
theorem dX6_ball_11 : decode cX6_ball 11 = .ok (.iconst (-1), 1) := by decide +kernel
theorem dX6_ball_12 : decode cX6_ball 12 = .ok (.ireturn, 1) := by decide +kernel
theorem dX6_ball_13 : decode cX6_ball 13 = .ok (.iload_n 2, 1) := by decide +kernel
theorem dX6_ball_14 : decode cX6_ball 14 = .ok (.tableswitch 84 0 4 #[34, 44, 54, 64, 74], 34) := by decide +kernel
theorem dX6_ball_48 : decode cX6_ball 48 = .ok (.aload_n 0, 1) := by decide +kernel
theorem dX6_ball_49 : decode cX6_ball 49 = .ok (.getfield 10, 3) := by decide +kernel
theorem dX6_ball_52 : decode cX6_ball 52 = .ok (.getfield 169, 3) := by decide +kernel
theorem dX6_ball_55 : decode cX6_ball 55 = .ok (.iload_n 1, 1) := by decide +kernel
theorem dX6_ball_56 : decode cX6_ball 56 = .ok (.iaload, 1) := by decide +kernel
theorem dX6_ball_57 : decode cX6_ball 57 = .ok (.ireturn, 1) := by decide +kernel
theorem dX6_ball_58 : decode cX6_ball 58 = .ok (.aload_n 0, 1) := by decide +kernel
theorem dX6_ball_59 : decode cX6_ball 59 = .ok (.getfield 10, 3) := by decide +kernel
theorem dX6_ball_62 : decode cX6_ball 62 = .ok (.getfield 172, 3) := by decide +kernel
theorem dX6_ball_65 : decode cX6_ball 65 = .ok (.iload_n 1, 1) := by decide +kernel
theorem dX6_ball_66 : decode cX6_ball 66 = .ok (.iaload, 1) := by decide +kernel
theorem dX6_ball_67 : decode cX6_ball 67 = .ok (.ireturn, 1) := by decide +kernel
theorem dX6_ball_68 : decode cX6_ball 68 = .ok (.aload_n 0, 1) := by decide +kernel
theorem dX6_ball_69 : decode cX6_ball 69 = .ok (.getfield 10, 3) := by decide +kernel
theorem dX6_ball_72 : decode cX6_ball 72 = .ok (.getfield 175, 3) := by decide +kernel
theorem dX6_ball_75 : decode cX6_ball 75 = .ok (.iload_n 1, 1) := by decide +kernel
theorem dX6_ball_76 : decode cX6_ball 76 = .ok (.iaload, 1) := by decide +kernel
theorem dX6_ball_77 : decode cX6_ball 77 = .ok (.ireturn, 1) := by decide +kernel
theorem dX6_ball_78 : decode cX6_ball 78 = .ok (.aload_n 0, 1) := by decide +kernel
theorem dX6_ball_79 : decode cX6_ball 79 = .ok (.getfield 10, 3) := by decide +kernel
theorem dX6_ball_82 : decode cX6_ball 82 = .ok (.getfield 178, 3) := by decide +kernel
theorem dX6_ball_85 : decode cX6_ball 85 = .ok (.iload_n 1, 1) := by decide +kernel
theorem dX6_ball_86 : decode cX6_ball 86 = .ok (.iaload, 1) := by decide +kernel
theorem dX6_ball_87 : decode cX6_ball 87 = .ok (.ireturn, 1) := by decide +kernel
theorem dX6_ball_88 : decode cX6_ball 88 = .ok (.aload_n 0, 1) := by decide +kernel
theorem dX6_ball_89 : decode cX6_ball 89 = .ok (.getfield 10, 3) := by decide +kernel
theorem dX6_ball_92 : decode cX6_ball 92 = .ok (.getfield 181, 3) := by decide +kernel
theorem dX6_ball_95 : decode cX6_ball 95 = .ok (.iload_n 1, 1) := by decide +kernel
theorem dX6_ball_96 : decode cX6_ball 96 = .ok (.iaload, 1) := by decide +kernel
theorem dX6_ball_97 : decode cX6_ball 97 = .ok (.ireturn, 1) := by decide +kernel
theorem dX6_ball_98 : decode cX6_ball 98 = .ok (.bipush (-2), 2) := by decide +kernel
theorem dX6_ball_100 : decode cX6_ball 100 = .ok (.ireturn, 1) := by decide +kernel
set_option maxHeartbeats 4000000 in
set_option maxRecDepth 100000 in
theorem kX6_ball (l : Launch) (E : Ev) (h : Nat) (p1 : Nat) (p2 : Nat) (p3 : Nat) (p4 : Nat) (p5 : Nat) (hs : Int32) (sa : Nat → Nat) (σ : N2) (bl : Int32) (wt : Int32) : KQ l yX6_ball cX6_ball 3 (some .int) 2 41 E [.ref h, .int bl, .int wt] (wHb h (sa 0) p1 p2 p3 p4 p5 hs ++ wSt E sa σ) (QI E (wHb h (sa 0) p1 p2 p3 p4 p5 hs ++ wSt E sa σ) (fX6_ball hs σ bl wt) (wHb h (sa 0) p1 p2 p3 p4 p5 hs ++ wSt E sa σ)) := by
  refine KQ.mk RX6 rfl (by decide +kernel) (Nat.le_of_ble_eq_true rfl) ?_
  intro p e s m below meth c ls X hr w hl
  have hx := X.1
  have hb := X.2.1
  have hl : lv_has ls 3 [(0, .ref h), (1, .int bl), (2, .int wt)] := hl
  refine lv_aload_n hx hb dX6_ball_0 rfl (lv_at hl 0 rfl) ?_
  refine r_get X w CL6 0 (by decide) wf_X6_10 0 rfl rfl dX6_ball_1 ?_
  refine lv_iload_n hx hb dX6_ball_4 rfl (lv_at hl 1 rfl) ?_
  refine r_ci w (r_runV (As := [.int bl]) (rest := []) X w (kX4_hasBall l E sa σ bl ) ck_X6_78 ⟨Nat.le_of_ble_eq_true rfl, Nat.le_of_ble_eq_true rfl⟩ [1, 2, 3, 4, 5, 6, 7, 8, 9] (hc_57 (E := E)) (by decide +kernel) (k0 := 0) CL4 rfl hl.1 (Nat.le_of_ble_eq_true rfl) rfl dX6_ball_5 ⟨Nat.le_of_ble_eq_true rfl, Nat.le_of_ble_eq_true rfl⟩) (wHb h (sa 0) p1 p2 p3 p4 p5 hs ++ wSt E sa σ) [1, 2, 3, 4, 5, 6, 7, 8, 9] (hc_57 (E := E)) (by decide +kernel) (ha_57 (E := E)) (hw_57 (E := E)) (fun H locs w => ?_)
  refine lv_if_ne (tgt := 13) hx hb dX6_ball_8 (by decide) (fun c8_1 => ?_) (fun c8_1 => ?_)
  · refine lv_iload_n hx hb dX6_ball_13 rfl (lv_at hl 2 rfl) ?_
    by_cases c14_2 : wt = 0
    · refine lv_tableIn (off := 34) (tgt := 48) hx hb dX6_ball_14 (by rw [c14_2]; decide) (by rw [c14_2]; decide) (by rw [c14_2]; rfl) (by decide) ?_
      refine lv_aload_n hx hb dX6_ball_48 rfl (lv_at hl 0 rfl) ?_
      refine r_get X w CL6 0 (by decide) wf_X6_10 0 rfl rfl dX6_ball_49 ?_
      refine r_getN X w CL4 0 (by decide) nl_5 1 rfl rfl dX6_ball_52 ?_
      refine lv_iload_n hx hb dX6_ball_55 rfl (lv_at hl 1 rfl) ?_
      refine r_iald X w 2 rfl (in_has c8_1) dX6_ball_56 ?_
      have hq : fX6_ball hs σ bl wt = (σ 0 bl.toNatClampNeg) := by simp only [fX6_ball, if_neg c8_1, if_pos c14_2]
      rw [hq]
      exact r_iret X w hr rfl dX6_ball_57
    · by_cases c14_3 : wt = 1
      · refine lv_tableIn (off := 44) (tgt := 58) hx hb dX6_ball_14 (by rw [c14_3]; decide) (by rw [c14_3]; decide) (by rw [c14_3]; rfl) (by decide) ?_
        refine lv_aload_n hx hb dX6_ball_58 rfl (lv_at hl 0 rfl) ?_
        refine r_get X w CL6 0 (by decide) wf_X6_10 0 rfl rfl dX6_ball_59 ?_
        refine r_getN X w CL4 1 (by decide) nl_6 1 rfl rfl dX6_ball_62 ?_
        refine lv_iload_n hx hb dX6_ball_65 rfl (lv_at hl 1 rfl) ?_
        refine r_iald X w 3 rfl (in_has c8_1) dX6_ball_66 ?_
        have hq : fX6_ball hs σ bl wt = (σ 1 bl.toNatClampNeg) := by simp only [fX6_ball, if_neg c8_1, if_neg c14_2, if_pos c14_3]
        rw [hq]
        exact r_iret X w hr rfl dX6_ball_67
      · by_cases c14_4 : wt = 2
        · refine lv_tableIn (off := 54) (tgt := 68) hx hb dX6_ball_14 (by rw [c14_4]; decide) (by rw [c14_4]; decide) (by rw [c14_4]; rfl) (by decide) ?_
          refine lv_aload_n hx hb dX6_ball_68 rfl (lv_at hl 0 rfl) ?_
          refine r_get X w CL6 0 (by decide) wf_X6_10 0 rfl rfl dX6_ball_69 ?_
          refine r_getN X w CL4 2 (by decide) nl_7 1 rfl rfl dX6_ball_72 ?_
          refine lv_iload_n hx hb dX6_ball_75 rfl (lv_at hl 1 rfl) ?_
          refine r_iald X w 4 rfl (in_has c8_1) dX6_ball_76 ?_
          have hq : fX6_ball hs σ bl wt = (σ 2 bl.toNatClampNeg) := by simp only [fX6_ball, if_neg c8_1, if_neg c14_2, if_neg c14_3, if_pos c14_4]
          rw [hq]
          exact r_iret X w hr rfl dX6_ball_77
        · by_cases c14_5 : wt = 3
          · refine lv_tableIn (off := 64) (tgt := 78) hx hb dX6_ball_14 (by rw [c14_5]; decide) (by rw [c14_5]; decide) (by rw [c14_5]; rfl) (by decide) ?_
            refine lv_aload_n hx hb dX6_ball_78 rfl (lv_at hl 0 rfl) ?_
            refine r_get X w CL6 0 (by decide) wf_X6_10 0 rfl rfl dX6_ball_79 ?_
            refine r_getN X w CL4 3 (by decide) nl_8 1 rfl rfl dX6_ball_82 ?_
            refine lv_iload_n hx hb dX6_ball_85 rfl (lv_at hl 1 rfl) ?_
            refine r_iald X w 5 rfl (in_has c8_1) dX6_ball_86 ?_
            have hq : fX6_ball hs σ bl wt = (σ 3 bl.toNatClampNeg) := by simp only [fX6_ball, if_neg c8_1, if_neg c14_2, if_neg c14_3, if_neg c14_4, if_pos c14_5]
            rw [hq]
            exact r_iret X w hr rfl dX6_ball_87
          · by_cases c14_6 : wt = 4
            · refine lv_tableIn (off := 74) (tgt := 88) hx hb dX6_ball_14 (by rw [c14_6]; decide) (by rw [c14_6]; decide) (by rw [c14_6]; rfl) (by decide) ?_
              refine lv_aload_n hx hb dX6_ball_88 rfl (lv_at hl 0 rfl) ?_
              refine r_get X w CL6 0 (by decide) wf_X6_10 0 rfl rfl dX6_ball_89 ?_
              refine r_getN X w CL4 4 (by decide) nl_9 1 rfl rfl dX6_ball_92 ?_
              refine lv_iload_n hx hb dX6_ball_95 rfl (lv_at hl 1 rfl) ?_
              refine r_iald X w 6 rfl (in_has c8_1) dX6_ball_96 ?_
              have hq : fX6_ball hs σ bl wt = (σ 4 bl.toNatClampNeg) := by simp only [fX6_ball, if_neg c8_1, if_neg c14_2, if_neg c14_3, if_neg c14_4, if_neg c14_5, if_pos c14_6]
              rw [hq]
              exact r_iret X w hr rfl dX6_ball_97
            · refine lv_tableOut (tgt := 98) hx hb dX6_ball_14 (tab_out_4 c14_2 c14_3 c14_4 c14_5 c14_6) (by decide) ?_
              refine lv_bipush (v := (-2)) hx hb dX6_ball_98 (by decide) ?_
              have hq : fX6_ball hs σ bl wt = ((-2)) := by simp only [fX6_ball, if_neg c8_1, if_neg c14_2, if_neg c14_3, if_neg c14_4, if_neg c14_5, if_neg c14_6]
              rw [hq]
              exact r_iret X w hr rfl dX6_ball_100
  · refine lv_iconst (v := (-1)) hx hb dX6_ball_11 (by decide) ?_
    have hq : fX6_ball hs σ bl wt = ((-1)) := by simp only [fX6_ball, if_pos c8_1]
    rw [hq]
    exact r_iret X w hr rfl dX6_ball_12
def fX6_tryShot (hs : Int32) (σ : N2) (σr : N2) (z : N1) (sp : UInt32) (d : N1) (bl : Int32) (di : Int32) (sg : Int32) (sn : Int32) : N2 × N1 × UInt32 × N1 := ((fX3_play z sp d (fX4_copyFrom σr σ) bl di sg sn).2.2.2, (fX3_play z sp d (fX4_copyFrom σr σ) bl di sg sn).1, (fX3_play z sp d (fX4_copyFrom σr σ) bl di sg sn).2.1, (fX3_play z sp d (fX4_copyFrom σr σ) bl di sg sn).2.2.1)
theorem dX6_tryShot_0 : decode cX6_tryShot 0 = .ok (.aload_n 0, 1) := by decide +kernel
theorem dX6_tryShot_1 : decode cX6_tryShot 1 = .ok (.getfield 19, 3) := by decide +kernel
theorem dX6_tryShot_4 : decode cX6_tryShot 4 = .ok (.aload_n 0, 1) := by decide +kernel
theorem dX6_tryShot_5 : decode cX6_tryShot 5 = .ok (.getfield 10, 3) := by decide +kernel
theorem dX6_tryShot_8 : decode cX6_tryShot 8 = .ok (.invokevirtual 65, 3) := by decide +kernel
theorem dX6_tryShot_11 : decode cX6_tryShot 11 = .ok (.aload_n 0, 1) := by decide +kernel
theorem dX6_tryShot_12 : decode cX6_tryShot 12 = .ok (.getfield 39, 3) := by decide +kernel
theorem dX6_tryShot_15 : decode cX6_tryShot 15 = .ok (.aload_n 0, 1) := by decide +kernel
theorem dX6_tryShot_16 : decode cX6_tryShot 16 = .ok (.getfield 19, 3) := by decide +kernel
theorem dX6_tryShot_19 : decode cX6_tryShot 19 = .ok (.iload_n 1, 1) := by decide +kernel
theorem dX6_tryShot_20 : decode cX6_tryShot 20 = .ok (.iload_n 2, 1) := by decide +kernel
theorem dX6_tryShot_21 : decode cX6_tryShot 21 = .ok (.iload_n 3, 1) := by decide +kernel
theorem dX6_tryShot_22 : decode cX6_tryShot 22 = .ok (.iload 4, 2) := by decide +kernel
theorem dX6_tryShot_24 : decode cX6_tryShot 24 = .ok (.invokevirtual 116, 3) := by decide +kernel
theorem dX6_tryShot_27 : decode cX6_tryShot 27 = .ok (.return_, 1) := by decide +kernel
theorem ck_X6_65 : CkV RX6 65 RX4 yX4_copyFrom cX4_copyFrom 2 none 1 := ⟨wm_X6_65, wim_yX4_copyFrom, wse_yX4_copyFrom, wi_X4, wc_yX4_copyFrom, by decide +kernel⟩
theorem hc_58 {E : Ev} {a0 p0_0 p0_1 p0_2 p0_3 p0_4 p0_5 : Nat} {n0 : Int32} {a1 : Nat → Nat} {σ1 : N2} {a2 : Nat → Nat} {σ2 : N2} {a3 j3 : Nat} {σ3 : N1} {v3 : UInt32} {a4 : Nat} {σ4 : N1} : ([10, 11, 12, 13, 14, 15, 16, 17, 18, 1, 2, 3, 4, 5, 6, 7, 8, 9] : List Nat).map (fun i => (wHb a0 p0_0 p0_1 p0_2 p0_3 p0_4 p0_5 n0 ++ (wSt E a1 σ1 ++ (wSt E a2 σ2 ++ (wSh a3 j3 σ3 v3 ++ wWk a4 σ4))))[i]?) = (wSt E a2 σ2 ++ wSt E a1 σ1).map some := get_app (is1 := rg 10 9) (is2 := rg 1 9) (by rw [show wHb a0 p0_0 p0_1 p0_2 p0_3 p0_4 p0_5 n0 ++ (wSt E a1 σ1 ++ (wSt E a2 σ2 ++ (wSh a3 j3 σ3 v3 ++ (wWk a4 σ4)))) = (wHb a0 p0_0 p0_1 p0_2 p0_3 p0_4 p0_5 n0 ++ (wSt E a1 σ1)) ++ (wSt E a2 σ2 ++ (wSh a3 j3 σ3 v3 ++ (wWk a4 σ4))) by simp only [List.append_assoc, List.nil_append, List.append_nil]]; exact get1 (s := 10) (n := 9) rfl rfl) ((by rw [show wHb a0 p0_0 p0_1 p0_2 p0_3 p0_4 p0_5 n0 ++ (wSt E a1 σ1 ++ (wSt E a2 σ2 ++ (wSh a3 j3 σ3 v3 ++ (wWk a4 σ4)))) = (wHb a0 p0_0 p0_1 p0_2 p0_3 p0_4 p0_5 n0) ++ (wSt E a1 σ1 ++ (wSt E a2 σ2 ++ (wSh a3 j3 σ3 v3 ++ (wWk a4 σ4)))) by simp only [List.append_assoc, List.nil_append, List.append_nil]]; exact get1 (s := 1) (n := 9) rfl rfl))
theorem ha_58 {E : Ev} {a1 : Nat → Nat} {σ1 : N2} {a2 : Nat → Nat} {σ2 : N2} {τ0_0 : N2} {τ1_0 : N2} : (wSt E a2 τ0_0 ++ wSt E a1 τ1_0).map Prod.fst = (wSt E a2 σ2 ++ wSt E a1 σ1).map Prod.fst := fst_app fst_St (fst_St)
theorem hw_58 {E : Ev} {a0 p0_0 p0_1 p0_2 p0_3 p0_4 p0_5 : Nat} {n0 : Int32} {a1 : Nat → Nat} {σ1 : N2} {a2 : Nat → Nat} {σ2 : N2} {a3 j3 : Nat} {σ3 : N1} {v3 : UInt32} {a4 : Nat} {σ4 : N1} {τ0_0 : N2} {τ1_0 : N2} : wput (wHb a0 p0_0 p0_1 p0_2 p0_3 p0_4 p0_5 n0 ++ (wSt E a1 σ1 ++ (wSt E a2 σ2 ++ (wSh a3 j3 σ3 v3 ++ wWk a4 σ4)))) [10, 11, 12, 13, 14, 15, 16, 17, 18, 1, 2, 3, 4, 5, 6, 7, 8, 9] (wSt E a2 τ0_0 ++ wSt E a1 τ1_0) = wHb a0 p0_0 p0_1 p0_2 p0_3 p0_4 p0_5 n0 ++ (wSt E a1 τ1_0 ++ (wSt E a2 τ0_0 ++ (wSh a3 j3 σ3 v3 ++ wWk a4 σ4))) := by
  show wput (wHb a0 p0_0 p0_1 p0_2 p0_3 p0_4 p0_5 n0 ++ (wSt E a1 σ1 ++ (wSt E a2 σ2 ++ (wSh a3 j3 σ3 v3 ++ (wWk a4 σ4))))) (rg 10 9 ++ (rg 1 9)) (wSt E a2 τ0_0 ++ wSt E a1 τ1_0) = _
  rw [wput_app rfl]
  rw [show wHb a0 p0_0 p0_1 p0_2 p0_3 p0_4 p0_5 n0 ++ (wSt E a1 σ1 ++ (wSt E a2 σ2 ++ (wSh a3 j3 σ3 v3 ++ (wWk a4 σ4)))) = (wHb a0 p0_0 p0_1 p0_2 p0_3 p0_4 p0_5 n0 ++ (wSt E a1 σ1)) ++ (wSt E a2 σ2 ++ (wSh a3 j3 σ3 v3 ++ (wWk a4 σ4))) by simp only [List.append_assoc, List.nil_append, List.append_nil], put1 (s := 10) (n := 9) rfl rfl rfl]
  rw [show (wHb a0 p0_0 p0_1 p0_2 p0_3 p0_4 p0_5 n0 ++ (wSt E a1 σ1)) ++ (wSt E a2 τ0_0 ++ (wSh a3 j3 σ3 v3 ++ (wWk a4 σ4))) = (wHb a0 p0_0 p0_1 p0_2 p0_3 p0_4 p0_5 n0) ++ (wSt E a1 σ1 ++ (wSt E a2 τ0_0 ++ (wSh a3 j3 σ3 v3 ++ (wWk a4 σ4)))) by simp only [List.append_assoc, List.nil_append, List.append_nil], put1 (s := 1) (n := 9) rfl rfl rfl]
  try simp only [List.append_assoc, List.nil_append, List.append_nil]
theorem hc_59 {E : Ev} {a0 p0_0 p0_1 p0_2 p0_3 p0_4 p0_5 : Nat} {n0 : Int32} {a1 : Nat → Nat} {σ1 : N2} {a2 : Nat → Nat} {σ2 : N2} {a3 j3 : Nat} {σ3 : N1} {v3 : UInt32} {a4 : Nat} {σ4 : N1} : ([19, 20, 10, 11, 12, 13, 14, 15, 16, 17, 18] : List Nat).map (fun i => (wHb a0 p0_0 p0_1 p0_2 p0_3 p0_4 p0_5 n0 ++ (wSt E a1 σ1 ++ (wSt E a2 σ2 ++ (wSh a3 j3 σ3 v3 ++ wWk a4 σ4))))[i]?) = (wSh a3 j3 σ3 v3 ++ (wWk a4 σ4 ++ wSt E a2 σ2)).map some := get_app (is1 := rg 19 1) (is2 := rg 20 1 ++ (rg 10 9)) (by rw [show wHb a0 p0_0 p0_1 p0_2 p0_3 p0_4 p0_5 n0 ++ (wSt E a1 σ1 ++ (wSt E a2 σ2 ++ (wSh a3 j3 σ3 v3 ++ (wWk a4 σ4)))) = (wHb a0 p0_0 p0_1 p0_2 p0_3 p0_4 p0_5 n0 ++ (wSt E a1 σ1 ++ (wSt E a2 σ2))) ++ (wSh a3 j3 σ3 v3 ++ (wWk a4 σ4)) by simp only [List.append_assoc, List.nil_append, List.append_nil]]; exact get1 (s := 19) (n := 1) rfl rfl) (get_app (is1 := rg 20 1) (is2 := rg 10 9) (by rw [show wHb a0 p0_0 p0_1 p0_2 p0_3 p0_4 p0_5 n0 ++ (wSt E a1 σ1 ++ (wSt E a2 σ2 ++ (wSh a3 j3 σ3 v3 ++ (wWk a4 σ4)))) = (wHb a0 p0_0 p0_1 p0_2 p0_3 p0_4 p0_5 n0 ++ (wSt E a1 σ1 ++ (wSt E a2 σ2 ++ (wSh a3 j3 σ3 v3)))) ++ (wWk a4 σ4 ++ (([] : va_W))) by simp only [List.append_assoc, List.nil_append, List.append_nil]]; exact get1 (s := 20) (n := 1) rfl rfl) ((by rw [show wHb a0 p0_0 p0_1 p0_2 p0_3 p0_4 p0_5 n0 ++ (wSt E a1 σ1 ++ (wSt E a2 σ2 ++ (wSh a3 j3 σ3 v3 ++ (wWk a4 σ4)))) = (wHb a0 p0_0 p0_1 p0_2 p0_3 p0_4 p0_5 n0 ++ (wSt E a1 σ1)) ++ (wSt E a2 σ2 ++ (wSh a3 j3 σ3 v3 ++ (wWk a4 σ4))) by simp only [List.append_assoc, List.nil_append, List.append_nil]]; exact get1 (s := 10) (n := 9) rfl rfl)))
theorem ha_59 {E : Ev} {a2 : Nat → Nat} {σ2 : N2} {a3 j3 : Nat} {σ3 : N1} {v3 : UInt32} {a4 : Nat} {σ4 : N1} {τ0_0 : N1} {τ0_1 : UInt32} {τ1_0 : N1} {τ2_0 : N2} : (wSh a3 j3 τ0_0 τ0_1 ++ (wWk a4 τ1_0 ++ wSt E a2 τ2_0)).map Prod.fst = (wSh a3 j3 σ3 v3 ++ (wWk a4 σ4 ++ wSt E a2 σ2)).map Prod.fst := fst_app fst_Sh (fst_app fst_Wk (fst_St))
theorem hw_59 {E : Ev} {a0 p0_0 p0_1 p0_2 p0_3 p0_4 p0_5 : Nat} {n0 : Int32} {a1 : Nat → Nat} {σ1 : N2} {a2 : Nat → Nat} {σ2 : N2} {a3 j3 : Nat} {σ3 : N1} {v3 : UInt32} {a4 : Nat} {σ4 : N1} {τ0_0 : N1} {τ0_1 : UInt32} {τ1_0 : N1} {τ2_0 : N2} : wput (wHb a0 p0_0 p0_1 p0_2 p0_3 p0_4 p0_5 n0 ++ (wSt E a1 σ1 ++ (wSt E a2 σ2 ++ (wSh a3 j3 σ3 v3 ++ wWk a4 σ4)))) [19, 20, 10, 11, 12, 13, 14, 15, 16, 17, 18] (wSh a3 j3 τ0_0 τ0_1 ++ (wWk a4 τ1_0 ++ wSt E a2 τ2_0)) = wHb a0 p0_0 p0_1 p0_2 p0_3 p0_4 p0_5 n0 ++ (wSt E a1 σ1 ++ (wSt E a2 τ2_0 ++ (wSh a3 j3 τ0_0 τ0_1 ++ wWk a4 τ1_0))) := by
  show wput (wHb a0 p0_0 p0_1 p0_2 p0_3 p0_4 p0_5 n0 ++ (wSt E a1 σ1 ++ (wSt E a2 σ2 ++ (wSh a3 j3 σ3 v3 ++ (wWk a4 σ4))))) (rg 19 1 ++ (rg 20 1 ++ (rg 10 9))) (wSh a3 j3 τ0_0 τ0_1 ++ (wWk a4 τ1_0 ++ wSt E a2 τ2_0)) = _
  rw [wput_app rfl]
  rw [show wHb a0 p0_0 p0_1 p0_2 p0_3 p0_4 p0_5 n0 ++ (wSt E a1 σ1 ++ (wSt E a2 σ2 ++ (wSh a3 j3 σ3 v3 ++ (wWk a4 σ4)))) = (wHb a0 p0_0 p0_1 p0_2 p0_3 p0_4 p0_5 n0 ++ (wSt E a1 σ1 ++ (wSt E a2 σ2))) ++ (wSh a3 j3 σ3 v3 ++ (wWk a4 σ4)) by simp only [List.append_assoc, List.nil_append, List.append_nil], put1 (s := 19) (n := 1) rfl rfl rfl]
  rw [wput_app rfl]
  rw [show (wHb a0 p0_0 p0_1 p0_2 p0_3 p0_4 p0_5 n0 ++ (wSt E a1 σ1 ++ (wSt E a2 σ2))) ++ (wSh a3 j3 τ0_0 τ0_1 ++ (wWk a4 σ4)) = (wHb a0 p0_0 p0_1 p0_2 p0_3 p0_4 p0_5 n0 ++ (wSt E a1 σ1 ++ (wSt E a2 σ2 ++ (wSh a3 j3 τ0_0 τ0_1)))) ++ (wWk a4 σ4 ++ (([] : va_W))) by simp only [List.append_assoc, List.nil_append, List.append_nil], put1 (s := 20) (n := 1) rfl rfl rfl]
  rw [show (wHb a0 p0_0 p0_1 p0_2 p0_3 p0_4 p0_5 n0 ++ (wSt E a1 σ1 ++ (wSt E a2 σ2 ++ (wSh a3 j3 τ0_0 τ0_1)))) ++ (wWk a4 τ1_0 ++ (([] : va_W))) = (wHb a0 p0_0 p0_1 p0_2 p0_3 p0_4 p0_5 n0 ++ (wSt E a1 σ1)) ++ (wSt E a2 σ2 ++ (wSh a3 j3 τ0_0 τ0_1 ++ (wWk a4 τ1_0))) by simp only [List.append_assoc, List.nil_append, List.append_nil], put1 (s := 10) (n := 9) rfl rfl rfl]
  try simp only [List.append_assoc, List.nil_append, List.append_nil]
set_option maxHeartbeats 4000000 in
set_option maxRecDepth 100000 in
theorem kX6_tryShot (l : Launch) (E : Ev) (h : Nat) (p1 : Nat) (p3 : Nat) (p4 : Nat) (k : Nat) (hs : Int32) (sa : Nat → Nat) (σ : N2) (ra : Nat → Nat) (σr : N2) (j : Nat) (z : N1) (sp : UInt32) (d : N1) (bl : Int32) (di : Int32) (sg : Int32) (sn : Int32) (gs : gset σ) (hg : 10 ≤ sg.toInt ∧ sg.toInt ≤ 999) : KQ l yX6_tryShot cX6_tryShot 5 none 5 119 E [.ref h, .int bl, .int di, .int sg, .int sn] (wHb h (sa 0) p1 (ra 0) p3 p4 k hs ++ (wSt E sa σ ++ (wSt E ra σr ++ (wSh k j z sp ++ wWk j d)))) (QV E (wHb h (sa 0) p1 (ra 0) p3 p4 k hs ++ (wSt E sa σ ++ (wSt E ra σr ++ (wSh k j z sp ++ wWk j d)))) (wHb h (sa 0) p1 (ra 0) p3 p4 k hs ++ (wSt E sa σ ++ (wSt E ra ((fX6_tryShot hs σ σr z sp d bl di sg sn).1) ++ (wSh k j ((fX6_tryShot hs σ σr z sp d bl di sg sn).2.1) ((fX6_tryShot hs σ σr z sp d bl di sg sn).2.2.1) ++ wWk j ((fX6_tryShot hs σ σr z sp d bl di sg sn).2.2.2)))))) := by
  refine KQ.mk RX6 rfl (by decide +kernel) (Nat.le_of_ble_eq_true rfl) ?_
  intro p e s m below meth c ls X hr w hl
  have hx := X.1
  have hb := X.2.1
  have hl : lv_has ls 5 [(0, .ref h), (1, .int bl), (2, .int di), (3, .int sg), (4, .int sn)] := hl
  refine lv_aload_n hx hb dX6_tryShot_0 rfl (lv_at hl 0 rfl) ?_
  refine r_get X w CL6 2 (by decide) wf_X6_19 0 rfl rfl dX6_tryShot_1 ?_
  refine lv_aload_n hx hb dX6_tryShot_4 rfl (lv_at hl 0 rfl) ?_
  refine r_get X w CL6 0 (by decide) wf_X6_10 0 rfl rfl dX6_tryShot_5 ?_
  refine r_cv w (r_runV (As := [.ref (sa 0)]) (rest := []) X w (kX4_copyFrom l E ra σr sa σ ) ck_X6_65 ⟨Nat.le_of_ble_eq_true rfl, Nat.le_of_ble_eq_true rfl⟩ [10, 11, 12, 13, 14, 15, 16, 17, 18, 1, 2, 3, 4, 5, 6, 7, 8, 9] (hc_58 (E := E)) (by decide +kernel) (k0 := 0) CL4 rfl hl.1 (Nat.le_of_ble_eq_true rfl) rfl dX6_tryShot_8 ⟨Nat.le_of_ble_eq_true rfl, Nat.le_of_ble_eq_true rfl⟩) (wHb h (sa 0) p1 (ra 0) p3 p4 k hs ++ (wSt E sa σ ++ (wSt E ra (fX4_copyFrom σr σ) ++ (wSh k j z sp ++ wWk j d)))) [10, 11, 12, 13, 14, 15, 16, 17, 18, 1, 2, 3, 4, 5, 6, 7, 8, 9] (hc_58 (E := E)) (by decide +kernel) (ha_58 (E := E)) (hw_58 (E := E)) (fun H locs w => ?_)
  refine lv_aload_n hx hb dX6_tryShot_11 rfl (lv_at hl 0 rfl) ?_
  refine r_get X w CL6 5 (by decide) wf_X6_39 0 rfl rfl dX6_tryShot_12 ?_
  refine lv_aload_n hx hb dX6_tryShot_15 rfl (lv_at hl 0 rfl) ?_
  refine r_get X w CL6 2 (by decide) wf_X6_19 0 rfl rfl dX6_tryShot_16 ?_
  refine lv_iload_n hx hb dX6_tryShot_19 rfl (lv_at hl 1 rfl) ?_
  refine lv_iload_n hx hb dX6_tryShot_20 rfl (lv_at hl 2 rfl) ?_
  refine lv_iload_n hx hb dX6_tryShot_21 rfl (lv_at hl 3 rfl) ?_
  refine lv_iload hx hb dX6_tryShot_22 (lv_at hl 4 rfl) ?_
  refine r_cv w (r_runV (As := [.ref (ra 0), .int bl, .int di, .int sg, .int sn]) (rest := []) X w (kX3_play l E k j z sp d ra (fX4_copyFrom σr σ) bl di sg sn gs hg) ck_X6_116 ⟨Nat.le_of_ble_eq_true rfl, Nat.le_of_ble_eq_true rfl⟩ [19, 20, 10, 11, 12, 13, 14, 15, 16, 17, 18] (hc_59 (E := E)) (by decide +kernel) (k0 := 0) CL3 rfl hl.1 (Nat.le_of_ble_eq_true rfl) rfl dX6_tryShot_24 ⟨Nat.le_of_ble_eq_true rfl, Nat.le_of_ble_eq_true rfl⟩) (wHb h (sa 0) p1 (ra 0) p3 p4 k hs ++ (wSt E sa σ ++ (wSt E ra ((fX3_play z sp d (fX4_copyFrom σr σ) bl di sg sn).2.2.2) ++ (wSh k j ((fX3_play z sp d (fX4_copyFrom σr σ) bl di sg sn).1) ((fX3_play z sp d (fX4_copyFrom σr σ) bl di sg sn).2.1) ++ wWk j ((fX3_play z sp d (fX4_copyFrom σr σ) bl di sg sn).2.2.1))))) [19, 20, 10, 11, 12, 13, 14, 15, 16, 17, 18] (hc_59 (E := E)) (by decide +kernel) (ha_59 (E := E)) (hw_59 (E := E)) (fun H locs w => ?_)
  have hq : fX6_tryShot hs σ σr z sp d bl di sg sn = ((fX3_play z sp d (fX4_copyFrom σr σ) bl di sg sn).2.2.2, (fX3_play z sp d (fX4_copyFrom σr σ) bl di sg sn).1, (fX3_play z sp d (fX4_copyFrom σr σ) bl di sg sn).2.1, (fX3_play z sp d (fX4_copyFrom σr σ) bl di sg sn).2.2.1) := rfl
  obtain ⟨h0_, h1_, h2_, h3_⟩ := tup4 hq
  rw [h0_, h1_, h2_, h3_]
  exact r_vret X w hr dX6_tryShot_27
def fX6_would (hs : Int32) (σ : N2) (σr : N2) (z : N1) (sp : UInt32) (d : N1) (bl : Int32) (di : Int32) (sg : Int32) (sn : Int32) (wt : Int32) : Int32 × N2 × N1 × UInt32 × N1 := if (fX4_hasBall σ bl) = 0 then (((-1), σr, z, sp, d)) else (if (fX6_isShot di sg sn) = 0 then (((-2), σr, z, sp, d)) else (if wt < 0 then (((-2), σr, z, sp, d)) else (if wt ≤ 5 then (if wt = 0 then ((((fX6_tryShot hs σ σr z sp d bl di sg sn).2.1) 3, (fX6_tryShot hs σ σr z sp d bl di sg sn).1, (fX6_tryShot hs σ σr z sp d bl di sg sn).2.1, (fX6_tryShot hs σ σr z sp d bl di sg sn).2.2.1, (fX6_tryShot hs σ σr z sp d bl di sg sn).2.2.2)) else (if wt = 1 then ((((fX6_tryShot hs σ σr z sp d bl di sg sn).2.1) 4, (fX6_tryShot hs σ σr z sp d bl di sg sn).1, (fX6_tryShot hs σ σr z sp d bl di sg sn).2.1, (fX6_tryShot hs σ σr z sp d bl di sg sn).2.2.1, (fX6_tryShot hs σ σr z sp d bl di sg sn).2.2.2)) else (if wt = 2 then ((((fX6_tryShot hs σ σr z sp d bl di sg sn).2.1) 5, (fX6_tryShot hs σ σr z sp d bl di sg sn).1, (fX6_tryShot hs σ σr z sp d bl di sg sn).2.1, (fX6_tryShot hs σ σr z sp d bl di sg sn).2.2.1, (fX6_tryShot hs σ σr z sp d bl di sg sn).2.2.2)) else (if wt = 3 then ((((fX6_tryShot hs σ σr z sp d bl di sg sn).2.1) 6, (fX6_tryShot hs σ σr z sp d bl di sg sn).1, (fX6_tryShot hs σ σr z sp d bl di sg sn).2.1, (fX6_tryShot hs σ σr z sp d bl di sg sn).2.2.1, (fX6_tryShot hs σ σr z sp d bl di sg sn).2.2.2)) else (if wt = 4 then (((fX4_cellOfBall ((fX6_tryShot hs σ σr z sp d bl di sg sn).1) bl), (fX6_tryShot hs σ σr z sp d bl di sg sn).1, (fX6_tryShot hs σ σr z sp d bl di sg sn).2.1, (fX6_tryShot hs σ σr z sp d bl di sg sn).2.2.1, (fX6_tryShot hs σ σr z sp d bl di sg sn).2.2.2)) else ((((fX6_tryShot hs σ σr z sp d bl di sg sn).2.1) 0, (fX6_tryShot hs σ σr z sp d bl di sg sn).1, (fX6_tryShot hs σ σr z sp d bl di sg sn).2.1, (fX6_tryShot hs σ σr z sp d bl di sg sn).2.2.1, (fX6_tryShot hs σ σr z sp d bl di sg sn).2.2.2))))))) else (((-2), σr, z, sp, d)))))
theorem dX6_would_0 : decode cX6_would 0 = .ok (.aload_n 0, 1) := by decide +kernel
theorem dX6_would_1 : decode cX6_would 1 = .ok (.getfield 10, 3) := by decide +kernel
theorem dX6_would_4 : decode cX6_would 4 = .ok (.iload_n 1, 1) := by decide +kernel
theorem dX6_would_5 : decode cX6_would 5 = .ok (.invokevirtual 78, 3) := by decide +kernel
theorem dX6_would_8 : decode cX6_would 8 = .ok (.ifCond .ne 5, 3) := by decide +kernel
theorem dX6_would_11 : decode cX6_would 11 = .ok (.iconst (-1), 1) := by decide +kernel
theorem dX6_would_12 : decode cX6_would 12 = .ok (.ireturn, 1) := by decide +kernel
theorem dX6_would_13 : decode cX6_would 13 = .ok (.iload_n 2, 1) := by decide +kernel
theorem dX6_would_14 : decode cX6_would 14 = .ok (.iload_n 3, 1) := by decide +kernel
theorem dX6_would_15 : decode cX6_would 15 = .ok (.iload 4, 2) := by decide +kernel
theorem dX6_would_17 : decode cX6_would 17 = .ok (.invokestatic 109, 3) := by decide +kernel
theorem dX6_would_20 : decode cX6_would 20 = .ok (.ifCond .eq 14, 3) := by decide +kernel
theorem dX6_would_23 : decode cX6_would 23 = .ok (.iload 5, 2) := by decide +kernel
theorem dX6_would_25 : decode cX6_would 25 = .ok (.ifCond .lt 9, 3) := by decide +kernel
theorem dX6_would_28 : decode cX6_would 28 = .ok (.iload 5, 2) := by decide +kernel
theorem dX6_would_30 : decode cX6_would 30 = .ok (.iconst 5, 1) := by decide +kernel
theorem dX6_would_31 : decode cX6_would 31 = .ok (.if_icmp .le 6, 3) := by decide +kernel
theorem dX6_would_34 : decode cX6_would 34 = .ok (.bipush (-2), 2) := by decide +kernel
theorem dX6_would_36 : decode cX6_would 36 = .ok (.ireturn, 1) := by decide +kernel
theorem dX6_would_37 : decode cX6_would 37 = .ok (.aload_n 0, 1) := by decide +kernel
theorem dX6_would_38 : decode cX6_would 38 = .ok (.iload_n 1, 1) := by decide +kernel
theorem dX6_would_39 : decode cX6_would 39 = .ok (.iload_n 2, 1) := by decide +kernel
theorem dX6_would_40 : decode cX6_would 40 = .ok (.iload_n 3, 1) := by decide +kernel
theorem dX6_would_41 : decode cX6_would 41 = .ok (.iload 4, 2) := by decide +kernel
theorem dX6_would_43 : decode cX6_would 43 = .ok (.invokevirtual 184, 3) := by decide +kernel
theorem dX6_would_46 : decode cX6_would 46 = .ok (.iload 5, 2) := by decide +kernel
theorem dX6_would_48 : decode cX6_would 48 = .ok (.tableswitch 77 0 4 #[36, 44, 52, 60, 68], 36) := by decide +kernel
theorem dX6_would_84 : decode cX6_would 84 = .ok (.aload_n 0, 1) := by decide +kernel
theorem dX6_would_85 : decode cX6_would 85 = .ok (.getfield 39, 3) := by decide +kernel
theorem dX6_would_88 : decode cX6_would 88 = .ok (.getfield 188, 3) := by decide +kernel
theorem dX6_would_91 : decode cX6_would 91 = .ok (.ireturn, 1) := by decide +kernel
theorem dX6_would_92 : decode cX6_would 92 = .ok (.aload_n 0, 1) := by decide +kernel
theorem dX6_would_93 : decode cX6_would 93 = .ok (.getfield 39, 3) := by decide +kernel
theorem dX6_would_96 : decode cX6_would 96 = .ok (.getfield 191, 3) := by decide +kernel
theorem dX6_would_99 : decode cX6_would 99 = .ok (.ireturn, 1) := by decide +kernel
theorem dX6_would_100 : decode cX6_would 100 = .ok (.aload_n 0, 1) := by decide +kernel
theorem dX6_would_101 : decode cX6_would 101 = .ok (.getfield 39, 3) := by decide +kernel
theorem dX6_would_104 : decode cX6_would 104 = .ok (.getfield 194, 3) := by decide +kernel
theorem dX6_would_107 : decode cX6_would 107 = .ok (.ireturn, 1) := by decide +kernel
theorem dX6_would_108 : decode cX6_would 108 = .ok (.aload_n 0, 1) := by decide +kernel
theorem dX6_would_109 : decode cX6_would 109 = .ok (.getfield 39, 3) := by decide +kernel
theorem dX6_would_112 : decode cX6_would 112 = .ok (.getfield 120, 3) := by decide +kernel
theorem dX6_would_115 : decode cX6_would 115 = .ok (.ireturn, 1) := by decide +kernel
theorem dX6_would_116 : decode cX6_would 116 = .ok (.aload_n 0, 1) := by decide +kernel
theorem dX6_would_117 : decode cX6_would 117 = .ok (.getfield 19, 3) := by decide +kernel
theorem dX6_would_120 : decode cX6_would 120 = .ok (.iload_n 1, 1) := by decide +kernel
theorem dX6_would_121 : decode cX6_would 121 = .ok (.invokevirtual 81, 3) := by decide +kernel
theorem dX6_would_124 : decode cX6_would 124 = .ok (.ireturn, 1) := by decide +kernel
theorem dX6_would_125 : decode cX6_would 125 = .ok (.aload_n 0, 1) := by decide +kernel
theorem dX6_would_126 : decode cX6_would 126 = .ok (.getfield 39, 3) := by decide +kernel
theorem dX6_would_129 : decode cX6_would 129 = .ok (.getfield 197, 3) := by decide +kernel
theorem dX6_would_132 : decode cX6_would 132 = .ok (.ireturn, 1) := by decide +kernel
theorem ck_X6_184 : CkV RX6 184 RX6 yX6_tryShot cX6_tryShot 5 none 4 := ⟨wm_X6_184, wim_yX6_tryShot, wse_yX6_tryShot, wi_X6, wc_yX6_tryShot, by decide +kernel⟩
theorem hc_60 {E : Ev} {a0 p0_0 p0_1 p0_2 p0_3 p0_4 p0_5 : Nat} {n0 : Int32} {a1 : Nat → Nat} {σ1 : N2} {a2 : Nat → Nat} {σ2 : N2} {a3 j3 : Nat} {σ3 : N1} {v3 : UInt32} {a4 : Nat} {σ4 : N1} : ([1, 2, 3, 4, 5, 6, 7, 8, 9] : List Nat).map (fun i => (wHb a0 p0_0 p0_1 p0_2 p0_3 p0_4 p0_5 n0 ++ (wSt E a1 σ1 ++ (wSt E a2 σ2 ++ (wSh a3 j3 σ3 v3 ++ wWk a4 σ4))))[i]?) = (wSt E a1 σ1).map some := by rw [show wHb a0 p0_0 p0_1 p0_2 p0_3 p0_4 p0_5 n0 ++ (wSt E a1 σ1 ++ (wSt E a2 σ2 ++ (wSh a3 j3 σ3 v3 ++ (wWk a4 σ4)))) = (wHb a0 p0_0 p0_1 p0_2 p0_3 p0_4 p0_5 n0) ++ (wSt E a1 σ1 ++ (wSt E a2 σ2 ++ (wSh a3 j3 σ3 v3 ++ (wWk a4 σ4)))) by simp only [List.append_assoc, List.nil_append, List.append_nil]]; exact get1 (s := 1) (n := 9) rfl rfl
theorem ha_60 {E : Ev} {a1 : Nat → Nat} {σ1 : N2} {τ0_0 : N2} : (wSt E a1 τ0_0).map Prod.fst = (wSt E a1 σ1).map Prod.fst := fst_St
theorem hw_60 {E : Ev} {a0 p0_0 p0_1 p0_2 p0_3 p0_4 p0_5 : Nat} {n0 : Int32} {a1 : Nat → Nat} {σ1 : N2} {a2 : Nat → Nat} {σ2 : N2} {a3 j3 : Nat} {σ3 : N1} {v3 : UInt32} {a4 : Nat} {σ4 : N1} {τ0_0 : N2} : wput (wHb a0 p0_0 p0_1 p0_2 p0_3 p0_4 p0_5 n0 ++ (wSt E a1 σ1 ++ (wSt E a2 σ2 ++ (wSh a3 j3 σ3 v3 ++ wWk a4 σ4)))) [1, 2, 3, 4, 5, 6, 7, 8, 9] (wSt E a1 τ0_0) = wHb a0 p0_0 p0_1 p0_2 p0_3 p0_4 p0_5 n0 ++ (wSt E a1 τ0_0 ++ (wSt E a2 σ2 ++ (wSh a3 j3 σ3 v3 ++ wWk a4 σ4))) := by
  show wput (wHb a0 p0_0 p0_1 p0_2 p0_3 p0_4 p0_5 n0 ++ (wSt E a1 σ1 ++ (wSt E a2 σ2 ++ (wSh a3 j3 σ3 v3 ++ (wWk a4 σ4))))) (rg 1 9) (wSt E a1 τ0_0) = _
  rw [show wHb a0 p0_0 p0_1 p0_2 p0_3 p0_4 p0_5 n0 ++ (wSt E a1 σ1 ++ (wSt E a2 σ2 ++ (wSh a3 j3 σ3 v3 ++ (wWk a4 σ4)))) = (wHb a0 p0_0 p0_1 p0_2 p0_3 p0_4 p0_5 n0) ++ (wSt E a1 σ1 ++ (wSt E a2 σ2 ++ (wSh a3 j3 σ3 v3 ++ (wWk a4 σ4)))) by simp only [List.append_assoc, List.nil_append, List.append_nil], put1 (s := 1) (n := 9) rfl rfl rfl]
  try simp only [List.append_assoc, List.nil_append, List.append_nil]
theorem hc_61 {E : Ev} {a0 p0_0 p0_1 p0_2 p0_3 p0_4 p0_5 : Nat} {n0 : Int32} {a1 : Nat → Nat} {σ1 : N2} {a2 : Nat → Nat} {σ2 : N2} {a3 j3 : Nat} {σ3 : N1} {v3 : UInt32} {a4 : Nat} {σ4 : N1} : ([0, 1, 2, 3, 4, 5, 6, 7, 8, 9, 10, 11, 12, 13, 14, 15, 16, 17, 18, 19, 20] : List Nat).map (fun i => (wHb a0 p0_0 p0_1 p0_2 p0_3 p0_4 p0_5 n0 ++ (wSt E a1 σ1 ++ (wSt E a2 σ2 ++ (wSh a3 j3 σ3 v3 ++ wWk a4 σ4))))[i]?) = (wHb a0 p0_0 p0_1 p0_2 p0_3 p0_4 p0_5 n0 ++ (wSt E a1 σ1 ++ (wSt E a2 σ2 ++ (wSh a3 j3 σ3 v3 ++ wWk a4 σ4)))).map some := get_app (is1 := rg 0 1) (is2 := rg 1 9 ++ (rg 10 9 ++ (rg 19 1 ++ (rg 20 1)))) (by rw [show wHb a0 p0_0 p0_1 p0_2 p0_3 p0_4 p0_5 n0 ++ (wSt E a1 σ1 ++ (wSt E a2 σ2 ++ (wSh a3 j3 σ3 v3 ++ (wWk a4 σ4)))) = ([] : va_W) ++ (wHb a0 p0_0 p0_1 p0_2 p0_3 p0_4 p0_5 n0 ++ (wSt E a1 σ1 ++ (wSt E a2 σ2 ++ (wSh a3 j3 σ3 v3 ++ (wWk a4 σ4))))) by simp only [List.append_assoc, List.nil_append, List.append_nil]]; exact get1 (s := 0) (n := 1) rfl rfl) (get_app (is1 := rg 1 9) (is2 := rg 10 9 ++ (rg 19 1 ++ (rg 20 1))) (by rw [show wHb a0 p0_0 p0_1 p0_2 p0_3 p0_4 p0_5 n0 ++ (wSt E a1 σ1 ++ (wSt E a2 σ2 ++ (wSh a3 j3 σ3 v3 ++ (wWk a4 σ4)))) = (wHb a0 p0_0 p0_1 p0_2 p0_3 p0_4 p0_5 n0) ++ (wSt E a1 σ1 ++ (wSt E a2 σ2 ++ (wSh a3 j3 σ3 v3 ++ (wWk a4 σ4)))) by simp only [List.append_assoc, List.nil_append, List.append_nil]]; exact get1 (s := 1) (n := 9) rfl rfl) (get_app (is1 := rg 10 9) (is2 := rg 19 1 ++ (rg 20 1)) (by rw [show wHb a0 p0_0 p0_1 p0_2 p0_3 p0_4 p0_5 n0 ++ (wSt E a1 σ1 ++ (wSt E a2 σ2 ++ (wSh a3 j3 σ3 v3 ++ (wWk a4 σ4)))) = (wHb a0 p0_0 p0_1 p0_2 p0_3 p0_4 p0_5 n0 ++ (wSt E a1 σ1)) ++ (wSt E a2 σ2 ++ (wSh a3 j3 σ3 v3 ++ (wWk a4 σ4))) by simp only [List.append_assoc, List.nil_append, List.append_nil]]; exact get1 (s := 10) (n := 9) rfl rfl) (get_app (is1 := rg 19 1) (is2 := rg 20 1) (by rw [show wHb a0 p0_0 p0_1 p0_2 p0_3 p0_4 p0_5 n0 ++ (wSt E a1 σ1 ++ (wSt E a2 σ2 ++ (wSh a3 j3 σ3 v3 ++ (wWk a4 σ4)))) = (wHb a0 p0_0 p0_1 p0_2 p0_3 p0_4 p0_5 n0 ++ (wSt E a1 σ1 ++ (wSt E a2 σ2))) ++ (wSh a3 j3 σ3 v3 ++ (wWk a4 σ4)) by simp only [List.append_assoc, List.nil_append, List.append_nil]]; exact get1 (s := 19) (n := 1) rfl rfl) ((by rw [show wHb a0 p0_0 p0_1 p0_2 p0_3 p0_4 p0_5 n0 ++ (wSt E a1 σ1 ++ (wSt E a2 σ2 ++ (wSh a3 j3 σ3 v3 ++ (wWk a4 σ4)))) = (wHb a0 p0_0 p0_1 p0_2 p0_3 p0_4 p0_5 n0 ++ (wSt E a1 σ1 ++ (wSt E a2 σ2 ++ (wSh a3 j3 σ3 v3)))) ++ (wWk a4 σ4 ++ (([] : va_W))) by simp only [List.append_assoc, List.nil_append, List.append_nil]]; exact get1 (s := 20) (n := 1) rfl rfl)))))
theorem ha_61 {E : Ev} {a0 p0_0 p0_1 p0_2 p0_3 p0_4 p0_5 : Nat} {n0 : Int32} {a1 : Nat → Nat} {σ1 : N2} {a2 : Nat → Nat} {σ2 : N2} {a3 j3 : Nat} {σ3 : N1} {v3 : UInt32} {a4 : Nat} {σ4 : N1} {τ0_0 : Int32} {τ1_0 : N2} {τ2_0 : N2} {τ3_0 : N1} {τ3_1 : UInt32} {τ4_0 : N1} : (wHb a0 p0_0 p0_1 p0_2 p0_3 p0_4 p0_5 τ0_0 ++ (wSt E a1 τ1_0 ++ (wSt E a2 τ2_0 ++ (wSh a3 j3 τ3_0 τ3_1 ++ wWk a4 τ4_0)))).map Prod.fst = (wHb a0 p0_0 p0_1 p0_2 p0_3 p0_4 p0_5 n0 ++ (wSt E a1 σ1 ++ (wSt E a2 σ2 ++ (wSh a3 j3 σ3 v3 ++ wWk a4 σ4)))).map Prod.fst := fst_app fst_Hb (fst_app fst_St (fst_app fst_St (fst_app fst_Sh (fst_Wk))))
theorem hw_61 {E : Ev} {a0 p0_0 p0_1 p0_2 p0_3 p0_4 p0_5 : Nat} {n0 : Int32} {a1 : Nat → Nat} {σ1 : N2} {a2 : Nat → Nat} {σ2 : N2} {a3 j3 : Nat} {σ3 : N1} {v3 : UInt32} {a4 : Nat} {σ4 : N1} {τ0_0 : Int32} {τ1_0 : N2} {τ2_0 : N2} {τ3_0 : N1} {τ3_1 : UInt32} {τ4_0 : N1} : wput (wHb a0 p0_0 p0_1 p0_2 p0_3 p0_4 p0_5 n0 ++ (wSt E a1 σ1 ++ (wSt E a2 σ2 ++ (wSh a3 j3 σ3 v3 ++ wWk a4 σ4)))) [0, 1, 2, 3, 4, 5, 6, 7, 8, 9, 10, 11, 12, 13, 14, 15, 16, 17, 18, 19, 20] (wHb a0 p0_0 p0_1 p0_2 p0_3 p0_4 p0_5 τ0_0 ++ (wSt E a1 τ1_0 ++ (wSt E a2 τ2_0 ++ (wSh a3 j3 τ3_0 τ3_1 ++ wWk a4 τ4_0)))) = wHb a0 p0_0 p0_1 p0_2 p0_3 p0_4 p0_5 τ0_0 ++ (wSt E a1 τ1_0 ++ (wSt E a2 τ2_0 ++ (wSh a3 j3 τ3_0 τ3_1 ++ wWk a4 τ4_0))) := by
  show wput (wHb a0 p0_0 p0_1 p0_2 p0_3 p0_4 p0_5 n0 ++ (wSt E a1 σ1 ++ (wSt E a2 σ2 ++ (wSh a3 j3 σ3 v3 ++ (wWk a4 σ4))))) (rg 0 1 ++ (rg 1 9 ++ (rg 10 9 ++ (rg 19 1 ++ (rg 20 1))))) (wHb a0 p0_0 p0_1 p0_2 p0_3 p0_4 p0_5 τ0_0 ++ (wSt E a1 τ1_0 ++ (wSt E a2 τ2_0 ++ (wSh a3 j3 τ3_0 τ3_1 ++ wWk a4 τ4_0)))) = _
  rw [wput_app rfl]
  rw [show wHb a0 p0_0 p0_1 p0_2 p0_3 p0_4 p0_5 n0 ++ (wSt E a1 σ1 ++ (wSt E a2 σ2 ++ (wSh a3 j3 σ3 v3 ++ (wWk a4 σ4)))) = ([] : va_W) ++ (wHb a0 p0_0 p0_1 p0_2 p0_3 p0_4 p0_5 n0 ++ (wSt E a1 σ1 ++ (wSt E a2 σ2 ++ (wSh a3 j3 σ3 v3 ++ (wWk a4 σ4))))) by simp only [List.append_assoc, List.nil_append, List.append_nil], put1 (s := 0) (n := 1) rfl rfl rfl]
  rw [wput_app rfl]
  rw [show ([] : va_W) ++ (wHb a0 p0_0 p0_1 p0_2 p0_3 p0_4 p0_5 τ0_0 ++ (wSt E a1 σ1 ++ (wSt E a2 σ2 ++ (wSh a3 j3 σ3 v3 ++ (wWk a4 σ4))))) = (wHb a0 p0_0 p0_1 p0_2 p0_3 p0_4 p0_5 τ0_0) ++ (wSt E a1 σ1 ++ (wSt E a2 σ2 ++ (wSh a3 j3 σ3 v3 ++ (wWk a4 σ4)))) by simp only [List.append_assoc, List.nil_append, List.append_nil], put1 (s := 1) (n := 9) rfl rfl rfl]
  rw [wput_app rfl]
  rw [show (wHb a0 p0_0 p0_1 p0_2 p0_3 p0_4 p0_5 τ0_0) ++ (wSt E a1 τ1_0 ++ (wSt E a2 σ2 ++ (wSh a3 j3 σ3 v3 ++ (wWk a4 σ4)))) = (wHb a0 p0_0 p0_1 p0_2 p0_3 p0_4 p0_5 τ0_0 ++ (wSt E a1 τ1_0)) ++ (wSt E a2 σ2 ++ (wSh a3 j3 σ3 v3 ++ (wWk a4 σ4))) by simp only [List.append_assoc, List.nil_append, List.append_nil], put1 (s := 10) (n := 9) rfl rfl rfl]
  rw [wput_app rfl]
  rw [show (wHb a0 p0_0 p0_1 p0_2 p0_3 p0_4 p0_5 τ0_0 ++ (wSt E a1 τ1_0)) ++ (wSt E a2 τ2_0 ++ (wSh a3 j3 σ3 v3 ++ (wWk a4 σ4))) = (wHb a0 p0_0 p0_1 p0_2 p0_3 p0_4 p0_5 τ0_0 ++ (wSt E a1 τ1_0 ++ (wSt E a2 τ2_0))) ++ (wSh a3 j3 σ3 v3 ++ (wWk a4 σ4)) by simp only [List.append_assoc, List.nil_append, List.append_nil], put1 (s := 19) (n := 1) rfl rfl rfl]
  rw [show (wHb a0 p0_0 p0_1 p0_2 p0_3 p0_4 p0_5 τ0_0 ++ (wSt E a1 τ1_0 ++ (wSt E a2 τ2_0))) ++ (wSh a3 j3 τ3_0 τ3_1 ++ (wWk a4 σ4)) = (wHb a0 p0_0 p0_1 p0_2 p0_3 p0_4 p0_5 τ0_0 ++ (wSt E a1 τ1_0 ++ (wSt E a2 τ2_0 ++ (wSh a3 j3 τ3_0 τ3_1)))) ++ (wWk a4 σ4 ++ (([] : va_W))) by simp only [List.append_assoc, List.nil_append, List.append_nil], put1 (s := 20) (n := 1) rfl rfl rfl]
  try simp only [List.append_assoc, List.nil_append, List.append_nil]
theorem hc_62 {E : Ev} {a0 p0_0 p0_1 p0_2 p0_3 p0_4 p0_5 : Nat} {n0 : Int32} {a1 : Nat → Nat} {σ1 : N2} {a2 : Nat → Nat} {σ2 : N2} {a3 j3 : Nat} {σ3 : N1} {v3 : UInt32} {a4 : Nat} {σ4 : N1} : ([10, 11, 12, 13, 14, 15, 16, 17, 18] : List Nat).map (fun i => (wHb a0 p0_0 p0_1 p0_2 p0_3 p0_4 p0_5 n0 ++ (wSt E a1 σ1 ++ (wSt E a2 σ2 ++ (wSh a3 j3 σ3 v3 ++ wWk a4 σ4))))[i]?) = (wSt E a2 σ2).map some := by rw [show wHb a0 p0_0 p0_1 p0_2 p0_3 p0_4 p0_5 n0 ++ (wSt E a1 σ1 ++ (wSt E a2 σ2 ++ (wSh a3 j3 σ3 v3 ++ (wWk a4 σ4)))) = (wHb a0 p0_0 p0_1 p0_2 p0_3 p0_4 p0_5 n0 ++ (wSt E a1 σ1)) ++ (wSt E a2 σ2 ++ (wSh a3 j3 σ3 v3 ++ (wWk a4 σ4))) by simp only [List.append_assoc, List.nil_append, List.append_nil]]; exact get1 (s := 10) (n := 9) rfl rfl
theorem ha_62 {E : Ev} {a2 : Nat → Nat} {σ2 : N2} {τ0_0 : N2} : (wSt E a2 τ0_0).map Prod.fst = (wSt E a2 σ2).map Prod.fst := fst_St
theorem hw_62 {E : Ev} {a0 p0_0 p0_1 p0_2 p0_3 p0_4 p0_5 : Nat} {n0 : Int32} {a1 : Nat → Nat} {σ1 : N2} {a2 : Nat → Nat} {σ2 : N2} {a3 j3 : Nat} {σ3 : N1} {v3 : UInt32} {a4 : Nat} {σ4 : N1} {τ0_0 : N2} : wput (wHb a0 p0_0 p0_1 p0_2 p0_3 p0_4 p0_5 n0 ++ (wSt E a1 σ1 ++ (wSt E a2 σ2 ++ (wSh a3 j3 σ3 v3 ++ wWk a4 σ4)))) [10, 11, 12, 13, 14, 15, 16, 17, 18] (wSt E a2 τ0_0) = wHb a0 p0_0 p0_1 p0_2 p0_3 p0_4 p0_5 n0 ++ (wSt E a1 σ1 ++ (wSt E a2 τ0_0 ++ (wSh a3 j3 σ3 v3 ++ wWk a4 σ4))) := by
  show wput (wHb a0 p0_0 p0_1 p0_2 p0_3 p0_4 p0_5 n0 ++ (wSt E a1 σ1 ++ (wSt E a2 σ2 ++ (wSh a3 j3 σ3 v3 ++ (wWk a4 σ4))))) (rg 10 9) (wSt E a2 τ0_0) = _
  rw [show wHb a0 p0_0 p0_1 p0_2 p0_3 p0_4 p0_5 n0 ++ (wSt E a1 σ1 ++ (wSt E a2 σ2 ++ (wSh a3 j3 σ3 v3 ++ (wWk a4 σ4)))) = (wHb a0 p0_0 p0_1 p0_2 p0_3 p0_4 p0_5 n0 ++ (wSt E a1 σ1)) ++ (wSt E a2 σ2 ++ (wSh a3 j3 σ3 v3 ++ (wWk a4 σ4))) by simp only [List.append_assoc, List.nil_append, List.append_nil], put1 (s := 10) (n := 9) rfl rfl rfl]
  try simp only [List.append_assoc, List.nil_append, List.append_nil]
set_option maxHeartbeats 4000000 in
set_option maxRecDepth 100000 in
theorem kX6_would (l : Launch) (E : Ev) (h : Nat) (p1 : Nat) (p3 : Nat) (p4 : Nat) (k : Nat) (hs : Int32) (sa : Nat → Nat) (σ : N2) (ra : Nat → Nat) (σr : N2) (j : Nat) (z : N1) (sp : UInt32) (d : N1) (bl : Int32) (di : Int32) (sg : Int32) (sn : Int32) (wt : Int32) (gs : gset σ) : KQ l yX6_would cX6_would 6 (some .int) 6 143 E [.ref h, .int bl, .int di, .int sg, .int sn, .int wt] (wHb h (sa 0) p1 (ra 0) p3 p4 k hs ++ (wSt E sa σ ++ (wSt E ra σr ++ (wSh k j z sp ++ wWk j d)))) (QI E (wHb h (sa 0) p1 (ra 0) p3 p4 k hs ++ (wSt E sa σ ++ (wSt E ra σr ++ (wSh k j z sp ++ wWk j d)))) (fX6_would hs σ σr z sp d bl di sg sn wt).1 (wHb h (sa 0) p1 (ra 0) p3 p4 k hs ++ (wSt E sa σ ++ (wSt E ra ((fX6_would hs σ σr z sp d bl di sg sn wt).2.1) ++ (wSh k j ((fX6_would hs σ σr z sp d bl di sg sn wt).2.2.1) ((fX6_would hs σ σr z sp d bl di sg sn wt).2.2.2.1) ++ wWk j ((fX6_would hs σ σr z sp d bl di sg sn wt).2.2.2.2)))))) := by
  refine KQ.mk RX6 rfl (by decide +kernel) (Nat.le_of_ble_eq_true rfl) ?_
  intro p e s m below meth c ls X hr w hl
  have hx := X.1
  have hb := X.2.1
  have hl : lv_has ls 6 [(0, .ref h), (1, .int bl), (2, .int di), (3, .int sg), (4, .int sn), (5, .int wt)] := hl
  refine lv_aload_n hx hb dX6_would_0 rfl (lv_at hl 0 rfl) ?_
  refine r_get X w CL6 0 (by decide) wf_X6_10 0 rfl rfl dX6_would_1 ?_
  refine lv_iload_n hx hb dX6_would_4 rfl (lv_at hl 1 rfl) ?_
  refine r_ci w (r_runV (As := [.int bl]) (rest := []) X w (kX4_hasBall l E sa σ bl ) ck_X6_78 ⟨Nat.le_of_ble_eq_true rfl, Nat.le_of_ble_eq_true rfl⟩ [1, 2, 3, 4, 5, 6, 7, 8, 9] (hc_60 (E := E)) (by decide +kernel) (k0 := 0) CL4 rfl hl.1 (Nat.le_of_ble_eq_true rfl) rfl dX6_would_5 ⟨Nat.le_of_ble_eq_true rfl, Nat.le_of_ble_eq_true rfl⟩) (wHb h (sa 0) p1 (ra 0) p3 p4 k hs ++ (wSt E sa σ ++ (wSt E ra σr ++ (wSh k j z sp ++ wWk j d)))) [1, 2, 3, 4, 5, 6, 7, 8, 9] (hc_60 (E := E)) (by decide +kernel) (ha_60 (E := E)) (hw_60 (E := E)) (fun H locs w => ?_)
  refine lv_if_ne (tgt := 13) hx hb dX6_would_8 (by decide) (fun c8_1 => ?_) (fun c8_1 => ?_)
  · refine lv_iload_n hx hb dX6_would_13 rfl (lv_at hl 2 rfl) ?_
    refine lv_iload_n hx hb dX6_would_14 rfl (lv_at hl 3 rfl) ?_
    refine lv_iload hx hb dX6_would_15 (lv_at hl 4 rfl) ?_
    refine r_ci w (r_runS (As := [.int di, .int sg, .int sn]) (rest := []) X w (kX6_isShot l E di sg sn ) ck_X6_109 ⟨Nat.le_of_ble_eq_true rfl, Nat.le_of_ble_eq_true rfl⟩ [] rfl (by decide +kernel) hl.1 (Nat.le_of_ble_eq_true rfl) rfl dX6_would_17 ⟨Nat.le_of_ble_eq_true rfl, Nat.le_of_ble_eq_true rfl⟩) (wHb h (sa 0) p1 (ra 0) p3 p4 k hs ++ (wSt E sa σ ++ (wSt E ra σr ++ (wSh k j z sp ++ wWk j d)))) [] rfl (by decide +kernel) rfl rfl (fun H locs w => ?_)
    refine lv_if_eq (tgt := 34) hx hb dX6_would_20 (by decide) (fun c20_2 => ?_) (fun c20_2 => ?_)
    · refine lv_bipush (v := (-2)) hx hb dX6_would_34 (by decide) ?_
      have hq : fX6_would hs σ σr z sp d bl di sg sn wt = ((-2), σr, z, sp, d) := by simp only [fX6_would, if_neg c8_1, if_pos c20_2]
      obtain ⟨h0_, h1_, h2_, h3_, h4_⟩ := tup5 hq
      rw [h0_, h1_, h2_, h3_, h4_]
      exact r_iret X w hr rfl dX6_would_36
    · refine lv_iload hx hb dX6_would_23 (lv_at hl 5 rfl) ?_
      refine lv_if_lt (tgt := 34) hx hb dX6_would_25 (by decide) (fun c25_3 => ?_) (fun c25_3 => ?_)
      · refine lv_bipush (v := (-2)) hx hb dX6_would_34 (by decide) ?_
        have hq : fX6_would hs σ σr z sp d bl di sg sn wt = ((-2), σr, z, sp, d) := by simp only [fX6_would, if_neg c8_1, if_neg c20_2, if_pos c25_3]
        obtain ⟨h0_, h1_, h2_, h3_, h4_⟩ := tup5 hq
        rw [h0_, h1_, h2_, h3_, h4_]
        exact r_iret X w hr rfl dX6_would_36
      · refine lv_iload hx hb dX6_would_28 (lv_at hl 5 rfl) ?_
        refine lv_iconst (v := 5) hx hb dX6_would_30 (by decide) ?_
        refine lv_icmp_le (tgt := 37) hx hb dX6_would_31 (by decide) (fun c31_4 => ?_) (fun c31_4 => ?_)
        · refine lv_aload_n hx hb dX6_would_37 rfl (lv_at hl 0 rfl) ?_
          refine lv_iload_n hx hb dX6_would_38 rfl (lv_at hl 1 rfl) ?_
          refine lv_iload_n hx hb dX6_would_39 rfl (lv_at hl 2 rfl) ?_
          refine lv_iload_n hx hb dX6_would_40 rfl (lv_at hl 3 rfl) ?_
          refine lv_iload hx hb dX6_would_41 (lv_at hl 4 rfl) ?_
          refine r_cv w (r_runV (As := [.int bl, .int di, .int sg, .int sn]) (rest := []) X w (kX6_tryShot l E h p1 p3 p4 k hs sa σ ra σr j z sp d bl di sg sn gs (sh_ok c20_2)) ck_X6_184 ⟨Nat.le_of_ble_eq_true rfl, Nat.le_of_ble_eq_true rfl⟩ [0, 1, 2, 3, 4, 5, 6, 7, 8, 9, 10, 11, 12, 13, 14, 15, 16, 17, 18, 19, 20] (hc_61 (E := E)) (by decide +kernel) (k0 := 0) CL6 rfl hl.1 (Nat.le_of_ble_eq_true rfl) rfl dX6_would_43 ⟨Nat.le_of_ble_eq_true rfl, Nat.le_of_ble_eq_true rfl⟩) (wHb h (sa 0) p1 (ra 0) p3 p4 k hs ++ (wSt E sa σ ++ (wSt E ra ((fX6_tryShot hs σ σr z sp d bl di sg sn).1) ++ (wSh k j ((fX6_tryShot hs σ σr z sp d bl di sg sn).2.1) ((fX6_tryShot hs σ σr z sp d bl di sg sn).2.2.1) ++ wWk j ((fX6_tryShot hs σ σr z sp d bl di sg sn).2.2.2))))) [0, 1, 2, 3, 4, 5, 6, 7, 8, 9, 10, 11, 12, 13, 14, 15, 16, 17, 18, 19, 20] (hc_61 (E := E)) (by decide +kernel) (ha_61 (E := E)) (hw_61 (E := E)) (fun H locs w => ?_)
          refine lv_iload hx hb dX6_would_46 (lv_at hl 5 rfl) ?_
          by_cases c48_5 : wt = 0
          · refine lv_tableIn (off := 36) (tgt := 84) hx hb dX6_would_48 (by rw [c48_5]; decide) (by rw [c48_5]; decide) (by rw [c48_5]; rfl) (by decide) ?_
            refine lv_aload_n hx hb dX6_would_84 rfl (lv_at hl 0 rfl) ?_
            refine r_get X w CL6 5 (by decide) wf_X6_39 0 rfl rfl dX6_would_85 ?_
            refine r_getN X w CL3 5 (by decide) nl_10 19 rfl rfl dX6_would_88 ?_
            have hq : fX6_would hs σ σr z sp d bl di sg sn wt = (((fX6_tryShot hs σ σr z sp d bl di sg sn).2.1) 3, (fX6_tryShot hs σ σr z sp d bl di sg sn).1, (fX6_tryShot hs σ σr z sp d bl di sg sn).2.1, (fX6_tryShot hs σ σr z sp d bl di sg sn).2.2.1, (fX6_tryShot hs σ σr z sp d bl di sg sn).2.2.2) := by simp only [fX6_would, if_neg c8_1, if_neg c20_2, if_neg c25_3, if_pos c31_4, if_pos c48_5]
            obtain ⟨h0_, h1_, h2_, h3_, h4_⟩ := tup5 hq
            rw [h0_, h1_, h2_, h3_, h4_]
            exact r_iret X w hr rfl dX6_would_91
          · by_cases c48_6 : wt = 1
            · refine lv_tableIn (off := 44) (tgt := 92) hx hb dX6_would_48 (by rw [c48_6]; decide) (by rw [c48_6]; decide) (by rw [c48_6]; rfl) (by decide) ?_
              refine lv_aload_n hx hb dX6_would_92 rfl (lv_at hl 0 rfl) ?_
              refine r_get X w CL6 5 (by decide) wf_X6_39 0 rfl rfl dX6_would_93 ?_
              refine r_getN X w CL3 6 (by decide) nl_11 19 rfl rfl dX6_would_96 ?_
              have hq : fX6_would hs σ σr z sp d bl di sg sn wt = (((fX6_tryShot hs σ σr z sp d bl di sg sn).2.1) 4, (fX6_tryShot hs σ σr z sp d bl di sg sn).1, (fX6_tryShot hs σ σr z sp d bl di sg sn).2.1, (fX6_tryShot hs σ σr z sp d bl di sg sn).2.2.1, (fX6_tryShot hs σ σr z sp d bl di sg sn).2.2.2) := by simp only [fX6_would, if_neg c8_1, if_neg c20_2, if_neg c25_3, if_pos c31_4, if_neg c48_5, if_pos c48_6]
              obtain ⟨h0_, h1_, h2_, h3_, h4_⟩ := tup5 hq
              rw [h0_, h1_, h2_, h3_, h4_]
              exact r_iret X w hr rfl dX6_would_99
            · by_cases c48_7 : wt = 2
              · refine lv_tableIn (off := 52) (tgt := 100) hx hb dX6_would_48 (by rw [c48_7]; decide) (by rw [c48_7]; decide) (by rw [c48_7]; rfl) (by decide) ?_
                refine lv_aload_n hx hb dX6_would_100 rfl (lv_at hl 0 rfl) ?_
                refine r_get X w CL6 5 (by decide) wf_X6_39 0 rfl rfl dX6_would_101 ?_
                refine r_getN X w CL3 7 (by decide) nl_12 19 rfl rfl dX6_would_104 ?_
                have hq : fX6_would hs σ σr z sp d bl di sg sn wt = (((fX6_tryShot hs σ σr z sp d bl di sg sn).2.1) 5, (fX6_tryShot hs σ σr z sp d bl di sg sn).1, (fX6_tryShot hs σ σr z sp d bl di sg sn).2.1, (fX6_tryShot hs σ σr z sp d bl di sg sn).2.2.1, (fX6_tryShot hs σ σr z sp d bl di sg sn).2.2.2) := by simp only [fX6_would, if_neg c8_1, if_neg c20_2, if_neg c25_3, if_pos c31_4, if_neg c48_5, if_neg c48_6, if_pos c48_7]
                obtain ⟨h0_, h1_, h2_, h3_, h4_⟩ := tup5 hq
                rw [h0_, h1_, h2_, h3_, h4_]
                exact r_iret X w hr rfl dX6_would_107
              · by_cases c48_8 : wt = 3
                · refine lv_tableIn (off := 60) (tgt := 108) hx hb dX6_would_48 (by rw [c48_8]; decide) (by rw [c48_8]; decide) (by rw [c48_8]; rfl) (by decide) ?_
                  refine lv_aload_n hx hb dX6_would_108 rfl (lv_at hl 0 rfl) ?_
                  refine r_get X w CL6 5 (by decide) wf_X6_39 0 rfl rfl dX6_would_109 ?_
                  refine r_getN X w CL3 8 (by decide) nl_1 19 rfl rfl dX6_would_112 ?_
                  have hq : fX6_would hs σ σr z sp d bl di sg sn wt = (((fX6_tryShot hs σ σr z sp d bl di sg sn).2.1) 6, (fX6_tryShot hs σ σr z sp d bl di sg sn).1, (fX6_tryShot hs σ σr z sp d bl di sg sn).2.1, (fX6_tryShot hs σ σr z sp d bl di sg sn).2.2.1, (fX6_tryShot hs σ σr z sp d bl di sg sn).2.2.2) := by simp only [fX6_would, if_neg c8_1, if_neg c20_2, if_neg c25_3, if_pos c31_4, if_neg c48_5, if_neg c48_6, if_neg c48_7, if_pos c48_8]
                  obtain ⟨h0_, h1_, h2_, h3_, h4_⟩ := tup5 hq
                  rw [h0_, h1_, h2_, h3_, h4_]
                  exact r_iret X w hr rfl dX6_would_115
                · by_cases c48_9 : wt = 4
                  · refine lv_tableIn (off := 68) (tgt := 116) hx hb dX6_would_48 (by rw [c48_9]; decide) (by rw [c48_9]; decide) (by rw [c48_9]; rfl) (by decide) ?_
                    refine lv_aload_n hx hb dX6_would_116 rfl (lv_at hl 0 rfl) ?_
                    refine r_get X w CL6 2 (by decide) wf_X6_19 0 rfl rfl dX6_would_117 ?_
                    refine lv_iload_n hx hb dX6_would_120 rfl (lv_at hl 1 rfl) ?_
                    refine r_ci w (r_runV (As := [.int bl]) (rest := []) X w (kX4_cellOfBall l E ra ((fX6_tryShot hs σ σr z sp d bl di sg sn).1) bl ) ck_X6_81 ⟨Nat.le_of_ble_eq_true rfl, Nat.le_of_ble_eq_true rfl⟩ [10, 11, 12, 13, 14, 15, 16, 17, 18] (hc_62 (E := E)) (by decide +kernel) (k0 := 0) CL4 rfl hl.1 (Nat.le_of_ble_eq_true rfl) rfl dX6_would_121 ⟨Nat.le_of_ble_eq_true rfl, Nat.le_of_ble_eq_true rfl⟩) (wHb h (sa 0) p1 (ra 0) p3 p4 k hs ++ (wSt E sa σ ++ (wSt E ra ((fX6_tryShot hs σ σr z sp d bl di sg sn).1) ++ (wSh k j ((fX6_tryShot hs σ σr z sp d bl di sg sn).2.1) ((fX6_tryShot hs σ σr z sp d bl di sg sn).2.2.1) ++ wWk j ((fX6_tryShot hs σ σr z sp d bl di sg sn).2.2.2))))) [10, 11, 12, 13, 14, 15, 16, 17, 18] (hc_62 (E := E)) (by decide +kernel) (ha_62 (E := E)) (hw_62 (E := E)) (fun H locs w => ?_)
                    have hq : fX6_would hs σ σr z sp d bl di sg sn wt = ((fX4_cellOfBall ((fX6_tryShot hs σ σr z sp d bl di sg sn).1) bl), (fX6_tryShot hs σ σr z sp d bl di sg sn).1, (fX6_tryShot hs σ σr z sp d bl di sg sn).2.1, (fX6_tryShot hs σ σr z sp d bl di sg sn).2.2.1, (fX6_tryShot hs σ σr z sp d bl di sg sn).2.2.2) := by simp only [fX6_would, if_neg c8_1, if_neg c20_2, if_neg c25_3, if_pos c31_4, if_neg c48_5, if_neg c48_6, if_neg c48_7, if_neg c48_8, if_pos c48_9]
                    obtain ⟨h0_, h1_, h2_, h3_, h4_⟩ := tup5 hq
                    rw [h0_, h1_, h2_, h3_, h4_]
                    exact r_iret X w hr rfl dX6_would_124
                  · refine lv_tableOut (tgt := 125) hx hb dX6_would_48 (tab_out_4 c48_5 c48_6 c48_7 c48_8 c48_9) (by decide) ?_
                    refine lv_aload_n hx hb dX6_would_125 rfl (lv_at hl 0 rfl) ?_
                    refine r_get X w CL6 5 (by decide) wf_X6_39 0 rfl rfl dX6_would_126 ?_
                    refine r_getN X w CL3 1 (by decide) nl_13 19 rfl rfl dX6_would_129 ?_
                    have hq : fX6_would hs σ σr z sp d bl di sg sn wt = (((fX6_tryShot hs σ σr z sp d bl di sg sn).2.1) 0, (fX6_tryShot hs σ σr z sp d bl di sg sn).1, (fX6_tryShot hs σ σr z sp d bl di sg sn).2.1, (fX6_tryShot hs σ σr z sp d bl di sg sn).2.2.1, (fX6_tryShot hs σ σr z sp d bl di sg sn).2.2.2) := by simp only [fX6_would, if_neg c8_1, if_neg c20_2, if_neg c25_3, if_pos c31_4, if_neg c48_5, if_neg c48_6, if_neg c48_7, if_neg c48_8, if_neg c48_9]
                    obtain ⟨h0_, h1_, h2_, h3_, h4_⟩ := tup5 hq
                    rw [h0_, h1_, h2_, h3_, h4_]
                    exact r_iret X w hr rfl dX6_would_132
        · refine lv_bipush (v := (-2)) hx hb dX6_would_34 (by decide) ?_
          have hq : fX6_would hs σ σr z sp d bl di sg sn wt = ((-2), σr, z, sp, d) := by simp only [fX6_would, if_neg c8_1, if_neg c20_2, if_neg c25_3, if_neg c31_4]
          obtain ⟨h0_, h1_, h2_, h3_, h4_⟩ := tup5 hq
          rw [h0_, h1_, h2_, h3_, h4_]
          exact r_iret X w hr rfl dX6_would_36
  · refine lv_iconst (v := (-1)) hx hb dX6_would_11 (by decide) ?_
    have hq : fX6_would hs σ σr z sp d bl di sg sn wt = ((-1), σr, z, sp, d) := by simp only [fX6_would, if_pos c8_1]
    obtain ⟨h0_, h1_, h2_, h3_, h4_⟩ := tup5 hq
    rw [h0_, h1_, h2_, h3_, h4_]
    exact r_iret X w hr rfl dX6_would_12
def fX6_speedLeft (hs : Int32) (σ : N2) (σr : N2) (z : N1) (sp : UInt32) (d : N1) (bl : Int32) (di : Int32) (sg : Int32) (sn : Int32) : UInt32 × N2 × N1 × UInt32 × N1 := if (fX4_hasBall σ bl) = 0 then ((3212836864, σr, z, sp, d)) else (if (fX6_isShot di sg sn) = 0 then ((3212836864, σr, z, sp, d)) else (((fX6_tryShot hs σ σr z sp d bl di sg sn).2.2.1, (fX6_tryShot hs σ σr z sp d bl di sg sn).1, (fX6_tryShot hs σ σr z sp d bl di sg sn).2.1, (fX6_tryShot hs σ σr z sp d bl di sg sn).2.2.1, (fX6_tryShot hs σ σr z sp d bl di sg sn).2.2.2)))
theorem dX6_speedLeft_0 : decode cX6_speedLeft 0 = .ok (.aload_n 0, 1) := by decide +kernel
theorem dX6_speedLeft_1 : decode cX6_speedLeft 1 = .ok (.getfield 10, 3) := by decide +kernel
theorem dX6_speedLeft_4 : decode cX6_speedLeft 4 = .ok (.iload_n 1, 1) := by decide +kernel
theorem dX6_speedLeft_5 : decode cX6_speedLeft 5 = .ok (.invokevirtual 78, 3) := by decide +kernel
theorem dX6_speedLeft_8 : decode cX6_speedLeft 8 = .ok (.ifCond .eq 13, 3) := by decide +kernel
theorem dX6_speedLeft_11 : decode cX6_speedLeft 11 = .ok (.iload_n 2, 1) := by decide +kernel
theorem dX6_speedLeft_12 : decode cX6_speedLeft 12 = .ok (.iload_n 3, 1) := by decide +kernel
theorem dX6_speedLeft_13 : decode cX6_speedLeft 13 = .ok (.iload 4, 2) := by decide +kernel
theorem dX6_speedLeft_15 : decode cX6_speedLeft 15 = .ok (.invokestatic 109, 3) := by decide +kernel
theorem dX6_speedLeft_18 : decode cX6_speedLeft 18 = .ok (.ifCond .ne 6, 3) := by decide +kernel
theorem dX6_speedLeft_21 : decode cX6_speedLeft 21 = .ok (.ldc 200, 2) := by decide +kernel
theorem dX6_speedLeft_23 : decode cX6_speedLeft 23 = .ok (.freturn, 1) := by decide +kernel
theorem dX6_speedLeft_24 : decode cX6_speedLeft 24 = .ok (.aload_n 0, 1) := by decide +kernel
theorem dX6_speedLeft_25 : decode cX6_speedLeft 25 = .ok (.iload_n 1, 1) := by decide +kernel
theorem dX6_speedLeft_26 : decode cX6_speedLeft 26 = .ok (.iload_n 2, 1) := by decide +kernel
theorem dX6_speedLeft_27 : decode cX6_speedLeft 27 = .ok (.iload_n 3, 1) := by decide +kernel
theorem dX6_speedLeft_28 : decode cX6_speedLeft 28 = .ok (.iload 4, 2) := by decide +kernel
theorem dX6_speedLeft_30 : decode cX6_speedLeft 30 = .ok (.invokevirtual 184, 3) := by decide +kernel
theorem dX6_speedLeft_33 : decode cX6_speedLeft 33 = .ok (.aload_n 0, 1) := by decide +kernel
theorem dX6_speedLeft_34 : decode cX6_speedLeft 34 = .ok (.getfield 39, 3) := by decide +kernel
theorem dX6_speedLeft_37 : decode cX6_speedLeft 37 = .ok (.getfield 201, 3) := by decide +kernel
theorem dX6_speedLeft_40 : decode cX6_speedLeft 40 = .ok (.freturn, 1) := by decide +kernel
set_option maxHeartbeats 4000000 in
set_option maxRecDepth 100000 in
theorem kX6_speedLeft (l : Launch) (E : Ev) (h : Nat) (p1 : Nat) (p3 : Nat) (p4 : Nat) (k : Nat) (hs : Int32) (sa : Nat → Nat) (σ : N2) (ra : Nat → Nat) (σr : N2) (j : Nat) (z : N1) (sp : UInt32) (d : N1) (bl : Int32) (di : Int32) (sg : Int32) (sn : Int32) (gs : gset σ) : KQ l yX6_speedLeft cX6_speedLeft 5 (some .float) 6 143 E [.ref h, .int bl, .int di, .int sg, .int sn] (wHb h (sa 0) p1 (ra 0) p3 p4 k hs ++ (wSt E sa σ ++ (wSt E ra σr ++ (wSh k j z sp ++ wWk j d)))) (QF E (wHb h (sa 0) p1 (ra 0) p3 p4 k hs ++ (wSt E sa σ ++ (wSt E ra σr ++ (wSh k j z sp ++ wWk j d)))) (fX6_speedLeft hs σ σr z sp d bl di sg sn).1 (wHb h (sa 0) p1 (ra 0) p3 p4 k hs ++ (wSt E sa σ ++ (wSt E ra ((fX6_speedLeft hs σ σr z sp d bl di sg sn).2.1) ++ (wSh k j ((fX6_speedLeft hs σ σr z sp d bl di sg sn).2.2.1) ((fX6_speedLeft hs σ σr z sp d bl di sg sn).2.2.2.1) ++ wWk j ((fX6_speedLeft hs σ σr z sp d bl di sg sn).2.2.2.2)))))) := by
  refine KQ.mk RX6 rfl (by decide +kernel) (Nat.le_of_ble_eq_true rfl) ?_
  intro p e s m below meth c ls X hr w hl
  have hx := X.1
  have hb := X.2.1
  have hl : lv_has ls 5 [(0, .ref h), (1, .int bl), (2, .int di), (3, .int sg), (4, .int sn)] := hl
  refine lv_aload_n hx hb dX6_speedLeft_0 rfl (lv_at hl 0 rfl) ?_
  refine r_get X w CL6 0 (by decide) wf_X6_10 0 rfl rfl dX6_speedLeft_1 ?_
  refine lv_iload_n hx hb dX6_speedLeft_4 rfl (lv_at hl 1 rfl) ?_
  refine r_ci w (r_runV (As := [.int bl]) (rest := []) X w (kX4_hasBall l E sa σ bl ) ck_X6_78 ⟨Nat.le_of_ble_eq_true rfl, Nat.le_of_ble_eq_true rfl⟩ [1, 2, 3, 4, 5, 6, 7, 8, 9] (hc_60 (E := E)) (by decide +kernel) (k0 := 0) CL4 rfl hl.1 (Nat.le_of_ble_eq_true rfl) rfl dX6_speedLeft_5 ⟨Nat.le_of_ble_eq_true rfl, Nat.le_of_ble_eq_true rfl⟩) (wHb h (sa 0) p1 (ra 0) p3 p4 k hs ++ (wSt E sa σ ++ (wSt E ra σr ++ (wSh k j z sp ++ wWk j d)))) [1, 2, 3, 4, 5, 6, 7, 8, 9] (hc_60 (E := E)) (by decide +kernel) (ha_60 (E := E)) (hw_60 (E := E)) (fun H locs w => ?_)
  refine lv_if_eq (tgt := 21) hx hb dX6_speedLeft_8 (by decide) (fun c8_1 => ?_) (fun c8_1 => ?_)
  · refine r_ldcf X wk_X6_200 dX6_speedLeft_21 ?_
    have hq : fX6_speedLeft hs σ σr z sp d bl di sg sn = (3212836864, σr, z, sp, d) := by simp only [fX6_speedLeft, if_pos c8_1]
    obtain ⟨h0_, h1_, h2_, h3_, h4_⟩ := tup5 hq
    rw [h0_, h1_, h2_, h3_, h4_]
    exact r_fret X w hr rfl dX6_speedLeft_23
  · refine lv_iload_n hx hb dX6_speedLeft_11 rfl (lv_at hl 2 rfl) ?_
    refine lv_iload_n hx hb dX6_speedLeft_12 rfl (lv_at hl 3 rfl) ?_
    refine lv_iload hx hb dX6_speedLeft_13 (lv_at hl 4 rfl) ?_
    refine r_ci w (r_runS (As := [.int di, .int sg, .int sn]) (rest := []) X w (kX6_isShot l E di sg sn ) ck_X6_109 ⟨Nat.le_of_ble_eq_true rfl, Nat.le_of_ble_eq_true rfl⟩ [] rfl (by decide +kernel) hl.1 (Nat.le_of_ble_eq_true rfl) rfl dX6_speedLeft_15 ⟨Nat.le_of_ble_eq_true rfl, Nat.le_of_ble_eq_true rfl⟩) (wHb h (sa 0) p1 (ra 0) p3 p4 k hs ++ (wSt E sa σ ++ (wSt E ra σr ++ (wSh k j z sp ++ wWk j d)))) [] rfl (by decide +kernel) rfl rfl (fun H locs w => ?_)
    refine lv_if_ne (tgt := 24) hx hb dX6_speedLeft_18 (by decide) (fun c18_2 => ?_) (fun c18_2 => ?_)
    · refine lv_aload_n hx hb dX6_speedLeft_24 rfl (lv_at hl 0 rfl) ?_
      refine lv_iload_n hx hb dX6_speedLeft_25 rfl (lv_at hl 1 rfl) ?_
      refine lv_iload_n hx hb dX6_speedLeft_26 rfl (lv_at hl 2 rfl) ?_
      refine lv_iload_n hx hb dX6_speedLeft_27 rfl (lv_at hl 3 rfl) ?_
      refine lv_iload hx hb dX6_speedLeft_28 (lv_at hl 4 rfl) ?_
      refine r_cv w (r_runV (As := [.int bl, .int di, .int sg, .int sn]) (rest := []) X w (kX6_tryShot l E h p1 p3 p4 k hs sa σ ra σr j z sp d bl di sg sn gs (sh_ok c18_2)) ck_X6_184 ⟨Nat.le_of_ble_eq_true rfl, Nat.le_of_ble_eq_true rfl⟩ [0, 1, 2, 3, 4, 5, 6, 7, 8, 9, 10, 11, 12, 13, 14, 15, 16, 17, 18, 19, 20] (hc_61 (E := E)) (by decide +kernel) (k0 := 0) CL6 rfl hl.1 (Nat.le_of_ble_eq_true rfl) rfl dX6_speedLeft_30 ⟨Nat.le_of_ble_eq_true rfl, Nat.le_of_ble_eq_true rfl⟩) (wHb h (sa 0) p1 (ra 0) p3 p4 k hs ++ (wSt E sa σ ++ (wSt E ra ((fX6_tryShot hs σ σr z sp d bl di sg sn).1) ++ (wSh k j ((fX6_tryShot hs σ σr z sp d bl di sg sn).2.1) ((fX6_tryShot hs σ σr z sp d bl di sg sn).2.2.1) ++ wWk j ((fX6_tryShot hs σ σr z sp d bl di sg sn).2.2.2))))) [0, 1, 2, 3, 4, 5, 6, 7, 8, 9, 10, 11, 12, 13, 14, 15, 16, 17, 18, 19, 20] (hc_61 (E := E)) (by decide +kernel) (ha_61 (E := E)) (hw_61 (E := E)) (fun H locs w => ?_)
      refine lv_aload_n hx hb dX6_speedLeft_33 rfl (lv_at hl 0 rfl) ?_
      refine r_get X w CL6 5 (by decide) wf_X6_39 0 rfl rfl dX6_speedLeft_34 ?_
      refine r_getN X w CL3 2 (by decide) nl_14 19 rfl rfl dX6_speedLeft_37 ?_
      have hq : fX6_speedLeft hs σ σr z sp d bl di sg sn = ((fX6_tryShot hs σ σr z sp d bl di sg sn).2.2.1, (fX6_tryShot hs σ σr z sp d bl di sg sn).1, (fX6_tryShot hs σ σr z sp d bl di sg sn).2.1, (fX6_tryShot hs σ σr z sp d bl di sg sn).2.2.1, (fX6_tryShot hs σ σr z sp d bl di sg sn).2.2.2) := by simp only [fX6_speedLeft, if_neg c8_1, if_neg c18_2]
      obtain ⟨h0_, h1_, h2_, h3_, h4_⟩ := tup5 hq
      rw [h0_, h1_, h2_, h3_, h4_]
      exact r_fret X w hr rfl dX6_speedLeft_40
    · refine r_ldcf X wk_X6_200 dX6_speedLeft_21 ?_
      have hq : fX6_speedLeft hs σ σr z sp d bl di sg sn = (3212836864, σr, z, sp, d) := by simp only [fX6_speedLeft, if_neg c8_1, if_pos c18_2]
      obtain ⟨h0_, h1_, h2_, h3_, h4_⟩ := tup5 hq
      rw [h0_, h1_, h2_, h3_, h4_]
      exact r_fret X w hr rfl dX6_speedLeft_23
def fX6_along (hs : Int32) (z : N1) (sp : UInt32) (d : N1) (ce : Int32) (di : Int32) (se : Int32) (bk : Int32) : Int32 × N1 := if (fX1_isCell ce) = 0 then (((-1), d)) else (if (fX1_isDirection di) = 0 then (((-2), d)) else (if se < 0 then (((-2), d)) else (if se ≤ 99 then (if bk = 0 then (((fX1_cellAt ((wkN (fX5_startAt d ce di) se.toNatClampNeg) 0) ((wkN (fX5_startAt d ce di) se.toNatClampNeg) 1)), wkN (fX5_startAt d ce di) se.toNatClampNeg)) else (((fX1_cellAt ((wkN (upd (wkN (fX5_startAt d ce di) se.toNatClampNeg) 2 (fX1_turned ((wkN (fX5_startAt d ce di) se.toNatClampNeg) 2) 3)) se.toNatClampNeg) 0) ((wkN (upd (wkN (fX5_startAt d ce di) se.toNatClampNeg) 2 (fX1_turned ((wkN (fX5_startAt d ce di) se.toNatClampNeg) 2) 3)) se.toNatClampNeg) 1)), wkN (upd (wkN (fX5_startAt d ce di) se.toNatClampNeg) 2 (fX1_turned ((wkN (fX5_startAt d ce di) se.toNatClampNeg) 2) 3)) se.toNatClampNeg))) else (((-2), d)))))
theorem dX6_along_0 : decode cX6_along 0 = .ok (.iload_n 1, 1) := by decide +kernel
theorem dX6_along_1 : decode cX6_along 1 = .ok (.invokestatic 43, 3) := by decide +kernel
theorem dX6_along_4 : decode cX6_along 4 = .ok (.ifCond .ne 5, 3) := by decide +kernel
theorem dX6_along_7 : decode cX6_along 7 = .ok (.iconst (-1), 1) := by decide +kernel
theorem dX6_along_8 : decode cX6_along 8 = .ok (.ireturn, 1) := by decide +kernel
theorem dX6_along_9 : decode cX6_along 9 = .ok (.iload_n 2, 1) := by decide +kernel
theorem dX6_along_10 : decode cX6_along 10 = .ok (.invokestatic 205, 3) := by decide +kernel
theorem dX6_along_13 : decode cX6_along 13 = .ok (.ifCond .eq 13, 3) := by decide +kernel
theorem dX6_along_16 : decode cX6_along 16 = .ok (.iload_n 3, 1) := by decide +kernel
theorem dX6_along_17 : decode cX6_along 17 = .ok (.ifCond .lt 9, 3) := by decide +kernel
theorem dX6_along_20 : decode cX6_along 20 = .ok (.iload_n 3, 1) := by decide +kernel
theorem dX6_along_21 : decode cX6_along 21 = .ok (.bipush 99, 2) := by decide +kernel
theorem dX6_along_23 : decode cX6_along 23 = .ok (.if_icmp .le 6, 3) := by decide +kernel
theorem dX6_along_26 : decode cX6_along 26 = .ok (.bipush (-2), 2) := by decide +kernel
theorem dX6_along_28 : decode cX6_along 28 = .ok (.ireturn, 1) := by decide +kernel
theorem dX6_along_29 : decode cX6_along 29 = .ok (.aload_n 0, 1) := by decide +kernel
theorem dX6_along_30 : decode cX6_along 30 = .ok (.getfield 39, 3) := by decide +kernel
theorem dX6_along_33 : decode cX6_along 33 = .ok (.getfield 208, 3) := by decide +kernel
theorem dX6_along_36 : decode cX6_along 36 = .ok (.astore 5, 2) := by decide +kernel
theorem dX6_along_38 : decode cX6_along 38 = .ok (.aload 5, 2) := by decide +kernel
theorem dX6_along_40 : decode cX6_along 40 = .ok (.iload_n 1, 1) := by decide +kernel
theorem dX6_along_41 : decode cX6_along 41 = .ok (.iload_n 2, 1) := by decide +kernel
theorem dX6_along_42 : decode cX6_along 42 = .ok (.invokevirtual 212, 3) := by decide +kernel
theorem dX6_along_45 : decode cX6_along 45 = .ok (.aload 5, 2) := by decide +kernel
theorem dX6_along_47 : decode cX6_along 47 = .ok (.iload_n 3, 1) := by decide +kernel
theorem dX6_along_48 : decode cX6_along 48 = .ok (.invokevirtual 217, 3) := by decide +kernel
theorem dX6_along_51 : decode cX6_along 51 = .ok (.iload 4, 2) := by decide +kernel
theorem dX6_along_53 : decode cX6_along 53 = .ok (.ifCond .eq 23, 3) := by decide +kernel
theorem dX6_along_56 : decode cX6_along 56 = .ok (.aload 5, 2) := by decide +kernel
theorem dX6_along_58 : decode cX6_along 58 = .ok (.aload 5, 2) := by decide +kernel
theorem dX6_along_60 : decode cX6_along 60 = .ok (.getfield 220, 3) := by decide +kernel
theorem dX6_along_63 : decode cX6_along 63 = .ok (.iconst 3, 1) := by decide +kernel
theorem dX6_along_64 : decode cX6_along 64 = .ok (.invokestatic 223, 3) := by decide +kernel
theorem dX6_along_67 : decode cX6_along 67 = .ok (.putfield 220, 3) := by decide +kernel
theorem dX6_along_70 : decode cX6_along 70 = .ok (.aload 5, 2) := by decide +kernel
theorem dX6_along_72 : decode cX6_along 72 = .ok (.iload_n 3, 1) := by decide +kernel
theorem dX6_along_73 : decode cX6_along 73 = .ok (.invokevirtual 217, 3) := by decide +kernel
theorem dX6_along_76 : decode cX6_along 76 = .ok (.aload 5, 2) := by decide +kernel
theorem dX6_along_78 : decode cX6_along 78 = .ok (.getfield 226, 3) := by decide +kernel
theorem dX6_along_81 : decode cX6_along 81 = .ok (.aload 5, 2) := by decide +kernel
theorem dX6_along_83 : decode cX6_along 83 = .ok (.getfield 229, 3) := by decide +kernel
theorem dX6_along_86 : decode cX6_along 86 = .ok (.invokestatic 154, 3) := by decide +kernel
theorem dX6_along_89 : decode cX6_along 89 = .ok (.ireturn, 1) := by decide +kernel
theorem ck_X6_212 : CkV RX6 212 RX5 yX5_startAt cX5_startAt 3 none 2 := ⟨wm_X6_212, wim_yX5_startAt, wse_yX5_startAt, wi_X5, wc_yX5_startAt, by decide +kernel⟩
theorem ck_X6_217 : CkV RX6 217 RX5 yX5_walk cX5_walk 3 none 1 := ⟨wm_X6_217, wim_yX5_walk, wse_yX5_walk, wi_X5, wc_yX5_walk, by decide +kernel⟩
theorem ck_X6_223 : CkS RX6 223 yX1_turned cX1_turned 2 (some .int) 2 := ⟨wm_X6_223, wst_yX1_turned, wi_X1, wc_yX1_turned, by decide +kernel⟩
theorem hc_63 {E : Ev} {a0 p0_0 p0_1 p0_2 p0_3 p0_4 p0_5 : Nat} {n0 : Int32} {a1 j1 : Nat} {σ1 : N1} {v1 : UInt32} {a2 : Nat} {σ2 : N1} : ([2] : List Nat).map (fun i => (wHb a0 p0_0 p0_1 p0_2 p0_3 p0_4 p0_5 n0 ++ (wSh a1 j1 σ1 v1 ++ wWk a2 σ2))[i]?) = (wWk a2 σ2).map some := rfl
theorem ha_63 {E : Ev} {a2 : Nat} {σ2 : N1} {τ0_0 : N1} : (wWk a2 τ0_0).map Prod.fst = (wWk a2 σ2).map Prod.fst := rfl
theorem hw_63 {E : Ev} {a0 p0_0 p0_1 p0_2 p0_3 p0_4 p0_5 : Nat} {n0 : Int32} {a1 j1 : Nat} {σ1 : N1} {v1 : UInt32} {a2 : Nat} {σ2 : N1} {τ0_0 : N1} : wput (wHb a0 p0_0 p0_1 p0_2 p0_3 p0_4 p0_5 n0 ++ (wSh a1 j1 σ1 v1 ++ wWk a2 σ2)) [2] (wWk a2 τ0_0) = wHb a0 p0_0 p0_1 p0_2 p0_3 p0_4 p0_5 n0 ++ (wSh a1 j1 σ1 v1 ++ wWk a2 τ0_0) := rfl
theorem ax_64 {E : Ev} {a0 p0_0 p0_1 p0_2 p0_3 p0_4 p0_5 : Nat} {n0 : Int32} {a1 j1 : Nat} {σ1 : N1} {v1 : UInt32} {a2 : Nat} {σ2 : N1} {x : Int32} : (wHb a0 p0_0 p0_1 p0_2 p0_3 p0_4 p0_5 n0 ++ (wSh a1 j1 σ1 v1 ++ wWk a2 σ2)).set 2 (a2, .inr (4, ([.int (σ2 0), .int (σ2 1), .int (σ2 2)] : List Value).set 2 (.int x))) = wHb a0 p0_0 p0_1 p0_2 p0_3 p0_4 p0_5 n0 ++ (wSh a1 j1 σ1 v1 ++ wWk a2 (upd σ2 2 x)) := rfl
set_option maxHeartbeats 4000000 in
set_option maxRecDepth 100000 in
theorem kX6_along (l : Launch) (E : Ev) (h : Nat) (p0 : Nat) (p1 : Nat) (p2 : Nat) (p3 : Nat) (p4 : Nat) (k : Nat) (hs : Int32) (j : Nat) (z : N1) (sp : UInt32) (d : N1) (ce : Int32) (di : Int32) (se : Int32) (bk : Int32) : KQ l yX6_along cX6_along 6 (some .int) 4 92 E [.ref h, .int ce, .int di, .int se, .int bk] (wHb h p0 p1 p2 p3 p4 k hs ++ (wSh k j z sp ++ wWk j d)) (QI E (wHb h p0 p1 p2 p3 p4 k hs ++ (wSh k j z sp ++ wWk j d)) (fX6_along hs z sp d ce di se bk).1 (wHb h p0 p1 p2 p3 p4 k hs ++ (wSh k j z sp ++ wWk j ((fX6_along hs z sp d ce di se bk).2)))) := by
  refine KQ.mk RX6 rfl (by decide +kernel) (Nat.le_of_ble_eq_true rfl) ?_
  intro p e s m below meth c ls X hr w hl
  have hx := X.1
  have hb := X.2.1
  have hl : lv_has ls 6 [(0, .ref h), (1, .int ce), (2, .int di), (3, .int se), (4, .int bk)] := hl
  refine lv_iload_n hx hb dX6_along_0 rfl (lv_at hl 1 rfl) ?_
  refine r_ci w (r_runS (As := [.int ce]) (rest := []) X w (kX1_isCell l E ce ) ck_X6_43 ⟨Nat.le_of_ble_eq_true rfl, Nat.le_of_ble_eq_true rfl⟩ [] rfl (by decide +kernel) hl.1 (Nat.le_of_ble_eq_true rfl) rfl dX6_along_1 ⟨Nat.le_of_ble_eq_true rfl, Nat.le_of_ble_eq_true rfl⟩) (wHb h p0 p1 p2 p3 p4 k hs ++ (wSh k j z sp ++ wWk j d)) [] rfl (by decide +kernel) rfl rfl (fun H locs w => ?_)
  refine lv_if_ne (tgt := 9) hx hb dX6_along_4 (by decide) (fun c4_1 => ?_) (fun c4_1 => ?_)
  · refine lv_iload_n hx hb dX6_along_9 rfl (lv_at hl 2 rfl) ?_
    refine r_ci w (r_runS (As := [.int di]) (rest := []) X w (kX1_isDirection l E di ) ck_X6_205 ⟨Nat.le_of_ble_eq_true rfl, Nat.le_of_ble_eq_true rfl⟩ [] rfl (by decide +kernel) hl.1 (Nat.le_of_ble_eq_true rfl) rfl dX6_along_10 ⟨Nat.le_of_ble_eq_true rfl, Nat.le_of_ble_eq_true rfl⟩) (wHb h p0 p1 p2 p3 p4 k hs ++ (wSh k j z sp ++ wWk j d)) [] rfl (by decide +kernel) rfl rfl (fun H locs w => ?_)
    refine lv_if_eq (tgt := 26) hx hb dX6_along_13 (by decide) (fun c13_2 => ?_) (fun c13_2 => ?_)
    · refine lv_bipush (v := (-2)) hx hb dX6_along_26 (by decide) ?_
      have hq : fX6_along hs z sp d ce di se bk = ((-2), d) := by simp only [fX6_along, if_neg c4_1, if_pos c13_2]
      obtain ⟨h0_, h1_⟩ := tup2 hq
      rw [h0_, h1_]
      exact r_iret X w hr rfl dX6_along_28
    · refine lv_iload_n hx hb dX6_along_16 rfl (lv_at hl 3 rfl) ?_
      refine lv_if_lt (tgt := 26) hx hb dX6_along_17 (by decide) (fun c17_3 => ?_) (fun c17_3 => ?_)
      · refine lv_bipush (v := (-2)) hx hb dX6_along_26 (by decide) ?_
        have hq : fX6_along hs z sp d ce di se bk = ((-2), d) := by simp only [fX6_along, if_neg c4_1, if_neg c13_2, if_pos c17_3]
        obtain ⟨h0_, h1_⟩ := tup2 hq
        rw [h0_, h1_]
        exact r_iret X w hr rfl dX6_along_28
      · refine lv_iload_n hx hb dX6_along_20 rfl (lv_at hl 3 rfl) ?_
        refine lv_bipush (v := 99) hx hb dX6_along_21 (by decide) ?_
        refine lv_icmp_le (tgt := 29) hx hb dX6_along_23 (by decide) (fun c23_4 => ?_) (fun c23_4 => ?_)
        · refine lv_aload_n hx hb dX6_along_29 rfl (lv_at hl 0 rfl) ?_
          refine r_get X w CL6 5 (by decide) wf_X6_39 0 rfl rfl dX6_along_30 ?_
          refine r_getN X w CL3 0 (by decide) nl_15 1 rfl rfl dX6_along_33 ?_
          refine lv_astore (lv' := [(5, .ref j), (0, .ref h), (1, .int ce), (2, .int di), (3, .int se), (4, .int bk)]) hx hb dX6_along_36 hl (by decide) rfl (fun ls hl => ?_)
          refine lv_aload hx hb dX6_along_38 (lv_at hl 0 rfl) ?_
          refine lv_iload_n hx hb dX6_along_40 rfl (lv_at hl 2 rfl) ?_
          refine lv_iload_n hx hb dX6_along_41 rfl (lv_at hl 3 rfl) ?_
          refine r_cv w (r_runV (As := [.int ce, .int di]) (rest := []) X w (kX5_startAt l E j d ce di ) ck_X6_212 ⟨Nat.le_of_ble_eq_true rfl, Nat.le_of_ble_eq_true rfl⟩ [2] (hc_63 (E := E)) (by decide +kernel) (k0 := 0) CL5 rfl hl.1 (Nat.le_of_ble_eq_true rfl) rfl dX6_along_42 ⟨Nat.le_of_ble_eq_true rfl, Nat.le_of_ble_eq_true rfl⟩) (wHb h p0 p1 p2 p3 p4 k hs ++ (wSh k j z sp ++ wWk j (fX5_startAt d ce di))) [2] (hc_63 (E := E)) (by decide +kernel) (ha_63 (E := E)) (hw_63 (E := E)) (fun H locs w => ?_)
          refine lv_aload hx hb dX6_along_45 (lv_at hl 0 rfl) ?_
          refine lv_iload_n hx hb dX6_along_47 rfl (lv_at hl 4 rfl) ?_
          refine r_cv w (r_runV (As := [.int se]) (rest := []) X w (kX5_walkI l E j (fX5_startAt d ce di) se c17_3) ck_X6_217 ⟨Nat.le_of_ble_eq_true rfl, Nat.le_of_ble_eq_true rfl⟩ [2] (hc_63 (E := E)) (by decide +kernel) (k0 := 0) CL5 rfl hl.1 (Nat.le_of_ble_eq_true rfl) rfl dX6_along_48 ⟨Nat.le_of_ble_eq_true rfl, Nat.le_of_ble_eq_true rfl⟩) (wHb h p0 p1 p2 p3 p4 k hs ++ (wSh k j z sp ++ wWk j (wkN (fX5_startAt d ce di) se.toNatClampNeg))) [2] (hc_63 (E := E)) (by decide +kernel) (ha_63 (E := E)) (hw_63 (E := E)) (fun H locs w => ?_)
          refine lv_iload hx hb dX6_along_51 (lv_at hl 5 rfl) ?_
          refine lv_if_eq (tgt := 76) hx hb dX6_along_53 (by decide) (fun c53_5 => ?_) (fun c53_5 => ?_)
          · refine lv_aload hx hb dX6_along_76 (lv_at hl 0 rfl) ?_
            refine r_getN X w CL5 0 (by decide) nl_17 2 rfl rfl dX6_along_78 ?_
            refine lv_aload hx hb dX6_along_81 (lv_at hl 0 rfl) ?_
            refine r_getN X w CL5 1 (by decide) nl_18 2 rfl rfl dX6_along_83 ?_
            refine r_ci w (r_runS (As := [.int ((wkN (fX5_startAt d ce di) se.toNatClampNeg) 0), .int ((wkN (fX5_startAt d ce di) se.toNatClampNeg) 1)]) (rest := []) X w (kX1_cellAt l E ((wkN (fX5_startAt d ce di) se.toNatClampNeg) 0) ((wkN (fX5_startAt d ce di) se.toNatClampNeg) 1) ) ck_X6_154 ⟨Nat.le_of_ble_eq_true rfl, Nat.le_of_ble_eq_true rfl⟩ [] rfl (by decide +kernel) hl.1 (Nat.le_of_ble_eq_true rfl) rfl dX6_along_86 ⟨Nat.le_of_ble_eq_true rfl, Nat.le_of_ble_eq_true rfl⟩) (wHb h p0 p1 p2 p3 p4 k hs ++ (wSh k j z sp ++ wWk j (wkN (fX5_startAt d ce di) se.toNatClampNeg))) [] rfl (by decide +kernel) rfl rfl (fun H locs w => ?_)
            have hq : fX6_along hs z sp d ce di se bk = ((fX1_cellAt ((wkN (fX5_startAt d ce di) se.toNatClampNeg) 0) ((wkN (fX5_startAt d ce di) se.toNatClampNeg) 1)), wkN (fX5_startAt d ce di) se.toNatClampNeg) := by simp only [fX6_along, if_neg c4_1, if_neg c13_2, if_neg c17_3, if_pos c23_4, if_pos c53_5]
            obtain ⟨h0_, h1_⟩ := tup2 hq
            rw [h0_, h1_]
            exact r_iret X w hr rfl dX6_along_89
          · refine lv_aload hx hb dX6_along_56 (lv_at hl 0 rfl) ?_
            refine lv_aload hx hb dX6_along_58 (lv_at hl 0 rfl) ?_
            refine r_getN X w CL5 2 (by decide) nl_16 2 rfl rfl dX6_along_60 ?_
            refine lv_iconst (v := 3) hx hb dX6_along_63 (by decide) ?_
            refine r_ci w (r_runS (As := [.int ((wkN (fX5_startAt d ce di) se.toNatClampNeg) 2), .int 3]) (rest := [.ref j]) X w (kX1_turned l E ((wkN (fX5_startAt d ce di) se.toNatClampNeg) 2) 3 ) ck_X6_223 ⟨Nat.le_of_ble_eq_true rfl, Nat.le_of_ble_eq_true rfl⟩ [] rfl (by decide +kernel) hl.1 (Nat.le_of_ble_eq_true rfl) rfl dX6_along_64 ⟨Nat.le_of_ble_eq_true rfl, Nat.le_of_ble_eq_true rfl⟩) (wHb h p0 p1 p2 p3 p4 k hs ++ (wSh k j z sp ++ wWk j (wkN (fX5_startAt d ce di) se.toNatClampNeg))) [] rfl (by decide +kernel) rfl rfl (fun H locs w => ?_)
            refine r_putN X w (wHb h p0 p1 p2 p3 p4 k hs ++ (wSh k j z sp ++ wWk j (upd (wkN (fX5_startAt d ce di) se.toNatClampNeg) 2 (fX1_turned ((wkN (fX5_startAt d ce di) se.toNatClampNeg) 2) 3)))) CL5 2 (by decide) nl_16 2 rfl rfl rfl rfl (Nat.le_of_ble_eq_true rfl) (ax_64 (E := E)) dX6_along_67 (fun H locs w => ?_)
            refine lv_aload hx hb dX6_along_70 (lv_at hl 0 rfl) ?_
            refine lv_iload_n hx hb dX6_along_72 rfl (lv_at hl 4 rfl) ?_
            refine r_cv w (r_runV (As := [.int se]) (rest := []) X w (kX5_walkI l E j (upd (wkN (fX5_startAt d ce di) se.toNatClampNeg) 2 (fX1_turned ((wkN (fX5_startAt d ce di) se.toNatClampNeg) 2) 3)) se c17_3) ck_X6_217 ⟨Nat.le_of_ble_eq_true rfl, Nat.le_of_ble_eq_true rfl⟩ [2] (hc_63 (E := E)) (by decide +kernel) (k0 := 0) CL5 rfl hl.1 (Nat.le_of_ble_eq_true rfl) rfl dX6_along_73 ⟨Nat.le_of_ble_eq_true rfl, Nat.le_of_ble_eq_true rfl⟩) (wHb h p0 p1 p2 p3 p4 k hs ++ (wSh k j z sp ++ wWk j (wkN (upd (wkN (fX5_startAt d ce di) se.toNatClampNeg) 2 (fX1_turned ((wkN (fX5_startAt d ce di) se.toNatClampNeg) 2) 3)) se.toNatClampNeg))) [2] (hc_63 (E := E)) (by decide +kernel) (ha_63 (E := E)) (hw_63 (E := E)) (fun H locs w => ?_)
            refine lv_aload hx hb dX6_along_76 (lv_at hl 0 rfl) ?_
            refine r_getN X w CL5 0 (by decide) nl_17 2 rfl rfl dX6_along_78 ?_
            refine lv_aload hx hb dX6_along_81 (lv_at hl 0 rfl) ?_
            refine r_getN X w CL5 1 (by decide) nl_18 2 rfl rfl dX6_along_83 ?_
            refine r_ci w (r_runS (As := [.int ((wkN (upd (wkN (fX5_startAt d ce di) se.toNatClampNeg) 2 (fX1_turned ((wkN (fX5_startAt d ce di) se.toNatClampNeg) 2) 3)) se.toNatClampNeg) 0), .int ((wkN (upd (wkN (fX5_startAt d ce di) se.toNatClampNeg) 2 (fX1_turned ((wkN (fX5_startAt d ce di) se.toNatClampNeg) 2) 3)) se.toNatClampNeg) 1)]) (rest := []) X w (kX1_cellAt l E ((wkN (upd (wkN (fX5_startAt d ce di) se.toNatClampNeg) 2 (fX1_turned ((wkN (fX5_startAt d ce di) se.toNatClampNeg) 2) 3)) se.toNatClampNeg) 0) ((wkN (upd (wkN (fX5_startAt d ce di) se.toNatClampNeg) 2 (fX1_turned ((wkN (fX5_startAt d ce di) se.toNatClampNeg) 2) 3)) se.toNatClampNeg) 1) ) ck_X6_154 ⟨Nat.le_of_ble_eq_true rfl, Nat.le_of_ble_eq_true rfl⟩ [] rfl (by decide +kernel) hl.1 (Nat.le_of_ble_eq_true rfl) rfl dX6_along_86 ⟨Nat.le_of_ble_eq_true rfl, Nat.le_of_ble_eq_true rfl⟩) (wHb h p0 p1 p2 p3 p4 k hs ++ (wSh k j z sp ++ wWk j (wkN (upd (wkN (fX5_startAt d ce di) se.toNatClampNeg) 2 (fX1_turned ((wkN (fX5_startAt d ce di) se.toNatClampNeg) 2) 3)) se.toNatClampNeg))) [] rfl (by decide +kernel) rfl rfl (fun H locs w => ?_)
            have hq : fX6_along hs z sp d ce di se bk = ((fX1_cellAt ((wkN (upd (wkN (fX5_startAt d ce di) se.toNatClampNeg) 2 (fX1_turned ((wkN (fX5_startAt d ce di) se.toNatClampNeg) 2) 3)) se.toNatClampNeg) 0) ((wkN (upd (wkN (fX5_startAt d ce di) se.toNatClampNeg) 2 (fX1_turned ((wkN (fX5_startAt d ce di) se.toNatClampNeg) 2) 3)) se.toNatClampNeg) 1)), wkN (upd (wkN (fX5_startAt d ce di) se.toNatClampNeg) 2 (fX1_turned ((wkN (fX5_startAt d ce di) se.toNatClampNeg) 2) 3)) se.toNatClampNeg) := by simp only [fX6_along, if_neg c4_1, if_neg c13_2, if_neg c17_3, if_pos c23_4, if_neg c53_5]
            obtain ⟨h0_, h1_⟩ := tup2 hq
            rw [h0_, h1_]
            exact r_iret X w hr rfl dX6_along_89
        · refine lv_bipush (v := (-2)) hx hb dX6_along_26 (by decide) ?_
          have hq : fX6_along hs z sp d ce di se bk = ((-2), d) := by simp only [fX6_along, if_neg c4_1, if_neg c13_2, if_neg c17_3, if_neg c23_4]
          obtain ⟨h0_, h1_⟩ := tup2 hq
          rw [h0_, h1_]
          exact r_iret X w hr rfl dX6_along_28
  · refine lv_iconst (v := (-1)) hx hb dX6_along_7 (by decide) ?_
    have hq : fX6_along hs z sp d ce di se bk = ((-1), d) := by simp only [fX6_along, if_pos c4_1]
    obtain ⟨h0_, h1_⟩ := tup2 hq
    rw [h0_, h1_]
    exact r_iret X w hr rfl dX6_along_8
def fX6_count (hs : Int32) (σ : N2) (n : Int32) (o : Nat) (η : Nat → N2) (t : N2) (wt : Int32) : Int32 := if wt = 0 then (((fX4_ballsOnFelt σ))) else (if wt = 1 then ((σ 8 0)) else (if wt = 2 then ((σ 8 2)) else (if wt = 3 then ((σ 7 0)) else (if wt = 4 then ((σ 7 1)) else (if wt = 5 then ((σ 8 3)) else (if wt = 6 then ((σ 8 4)) else (if wt = 7 then ((σ 8 5)) else (if wt = 8 then (((fX4_total (σ 3)))) else (if wt = 9 then (((fX4_total (σ 4)))) else (if wt = 10 then ((σ 8 1)) else (if wt = 11 then ((σ 6 0)) else (if wt = 12 then ((σ 6 1)) else (if wt = 13 then ((σ 6 2)) else (if wt = 14 then ((n)) else (if wt = 15 then ((t 3 0)) else (((-2))))))))))))))))))
theorem dX6_count_0 : decode cX6_count 0 = .ok (.iload_n 1, 1) := by decide +kernel
theorem dX6_count_1 : decode cX6_count 1 = .ok (.tableswitch 223 0 15 #[79, 87, 95, 103, 113, 123, 131, 139, 147, 158, 169, 177, 187, 197, 207, 215], 79) := by decide +kernel
theorem dX6_count_80 : decode cX6_count 80 = .ok (.aload_n 0, 1) := by decide +kernel
theorem dX6_count_81 : decode cX6_count 81 = .ok (.getfield 10, 3) := by decide +kernel
theorem dX6_count_84 : decode cX6_count 84 = .ok (.invokevirtual 151, 3) := by decide +kernel
theorem dX6_count_87 : decode cX6_count 87 = .ok (.ireturn, 1) := by decide +kernel
theorem dX6_count_88 : decode cX6_count 88 = .ok (.aload_n 0, 1) := by decide +kernel
theorem dX6_count_89 : decode cX6_count 89 = .ok (.getfield 10, 3) := by decide +kernel
theorem dX6_count_92 : decode cX6_count 92 = .ok (.getfield 236, 3) := by decide +kernel
theorem dX6_count_95 : decode cX6_count 95 = .ok (.ireturn, 1) := by decide +kernel
theorem dX6_count_96 : decode cX6_count 96 = .ok (.aload_n 0, 1) := by decide +kernel
theorem dX6_count_97 : decode cX6_count 97 = .ok (.getfield 10, 3) := by decide +kernel
theorem dX6_count_100 : decode cX6_count 100 = .ok (.getfield 113, 3) := by decide +kernel
theorem dX6_count_103 : decode cX6_count 103 = .ok (.ireturn, 1) := by decide +kernel
theorem dX6_count_104 : decode cX6_count 104 = .ok (.aload_n 0, 1) := by decide +kernel
theorem dX6_count_105 : decode cX6_count 105 = .ok (.getfield 10, 3) := by decide +kernel
theorem dX6_count_108 : decode cX6_count 108 = .ok (.getfield 239, 3) := by decide +kernel
theorem dX6_count_111 : decode cX6_count 111 = .ok (.iconst 0, 1) := by decide +kernel
theorem dX6_count_112 : decode cX6_count 112 = .ok (.iaload, 1) := by decide +kernel
theorem dX6_count_113 : decode cX6_count 113 = .ok (.ireturn, 1) := by decide +kernel
theorem dX6_count_114 : decode cX6_count 114 = .ok (.aload_n 0, 1) := by decide +kernel
theorem dX6_count_115 : decode cX6_count 115 = .ok (.getfield 10, 3) := by decide +kernel
theorem dX6_count_118 : decode cX6_count 118 = .ok (.getfield 239, 3) := by decide +kernel
theorem dX6_count_121 : decode cX6_count 121 = .ok (.iconst 1, 1) := by decide +kernel
theorem dX6_count_122 : decode cX6_count 122 = .ok (.iaload, 1) := by decide +kernel
theorem dX6_count_123 : decode cX6_count 123 = .ok (.ireturn, 1) := by decide +kernel
theorem dX6_count_124 : decode cX6_count 124 = .ok (.aload_n 0, 1) := by decide +kernel
theorem dX6_count_125 : decode cX6_count 125 = .ok (.getfield 10, 3) := by decide +kernel
theorem dX6_count_128 : decode cX6_count 128 = .ok (.getfield 127, 3) := by decide +kernel
theorem dX6_count_131 : decode cX6_count 131 = .ok (.ireturn, 1) := by decide +kernel
theorem dX6_count_132 : decode cX6_count 132 = .ok (.aload_n 0, 1) := by decide +kernel
theorem dX6_count_133 : decode cX6_count 133 = .ok (.getfield 10, 3) := by decide +kernel
theorem dX6_count_136 : decode cX6_count 136 = .ok (.getfield 242, 3) := by decide +kernel
theorem dX6_count_139 : decode cX6_count 139 = .ok (.ireturn, 1) := by decide +kernel
theorem dX6_count_140 : decode cX6_count 140 = .ok (.aload_n 0, 1) := by decide +kernel
theorem dX6_count_141 : decode cX6_count 141 = .ok (.getfield 10, 3) := by decide +kernel
theorem dX6_count_144 : decode cX6_count 144 = .ok (.getfield 245, 3) := by decide +kernel
theorem dX6_count_147 : decode cX6_count 147 = .ok (.ireturn, 1) := by decide +kernel
theorem dX6_count_148 : decode cX6_count 148 = .ok (.aload_n 0, 1) := by decide +kernel
theorem dX6_count_149 : decode cX6_count 149 = .ok (.getfield 10, 3) := by decide +kernel
theorem dX6_count_152 : decode cX6_count 152 = .ok (.getfield 178, 3) := by decide +kernel
theorem dX6_count_155 : decode cX6_count 155 = .ok (.invokestatic 248, 3) := by decide +kernel
theorem dX6_count_158 : decode cX6_count 158 = .ok (.ireturn, 1) := by decide +kernel
theorem dX6_count_159 : decode cX6_count 159 = .ok (.aload_n 0, 1) := by decide +kernel
theorem dX6_count_160 : decode cX6_count 160 = .ok (.getfield 10, 3) := by decide +kernel
theorem dX6_count_163 : decode cX6_count 163 = .ok (.getfield 181, 3) := by decide +kernel
theorem dX6_count_166 : decode cX6_count 166 = .ok (.invokestatic 248, 3) := by decide +kernel
theorem dX6_count_169 : decode cX6_count 169 = .ok (.ireturn, 1) := by decide +kernel
theorem dX6_count_170 : decode cX6_count 170 = .ok (.aload_n 0, 1) := by decide +kernel
theorem dX6_count_171 : decode cX6_count 171 = .ok (.getfield 10, 3) := by decide +kernel
theorem dX6_count_174 : decode cX6_count 174 = .ok (.getfield 93, 3) := by decide +kernel
theorem dX6_count_177 : decode cX6_count 177 = .ok (.ireturn, 1) := by decide +kernel
theorem dX6_count_178 : decode cX6_count 178 = .ok (.aload_n 0, 1) := by decide +kernel
theorem dX6_count_179 : decode cX6_count 179 = .ok (.getfield 10, 3) := by decide +kernel
theorem dX6_count_182 : decode cX6_count 182 = .ok (.getfield 103, 3) := by decide +kernel
theorem dX6_count_185 : decode cX6_count 185 = .ok (.iconst 0, 1) := by decide +kernel
theorem dX6_count_186 : decode cX6_count 186 = .ok (.iaload, 1) := by decide +kernel
theorem dX6_count_187 : decode cX6_count 187 = .ok (.ireturn, 1) := by decide +kernel
theorem dX6_count_188 : decode cX6_count 188 = .ok (.aload_n 0, 1) := by decide +kernel
theorem dX6_count_189 : decode cX6_count 189 = .ok (.getfield 10, 3) := by decide +kernel
theorem dX6_count_192 : decode cX6_count 192 = .ok (.getfield 103, 3) := by decide +kernel
theorem dX6_count_195 : decode cX6_count 195 = .ok (.iconst 1, 1) := by decide +kernel
theorem dX6_count_196 : decode cX6_count 196 = .ok (.iaload, 1) := by decide +kernel
theorem dX6_count_197 : decode cX6_count 197 = .ok (.ireturn, 1) := by decide +kernel
theorem dX6_count_198 : decode cX6_count 198 = .ok (.aload_n 0, 1) := by decide +kernel
theorem dX6_count_199 : decode cX6_count 199 = .ok (.getfield 10, 3) := by decide +kernel
theorem dX6_count_202 : decode cX6_count 202 = .ok (.getfield 103, 3) := by decide +kernel
theorem dX6_count_205 : decode cX6_count 205 = .ok (.iconst 2, 1) := by decide +kernel
theorem dX6_count_206 : decode cX6_count 206 = .ok (.iaload, 1) := by decide +kernel
theorem dX6_count_207 : decode cX6_count 207 = .ok (.ireturn, 1) := by decide +kernel
theorem dX6_count_208 : decode cX6_count 208 = .ok (.aload_n 0, 1) := by decide +kernel
theorem dX6_count_209 : decode cX6_count 209 = .ok (.getfield 25, 3) := by decide +kernel
theorem dX6_count_212 : decode cX6_count 212 = .ok (.getfield 144, 3) := by decide +kernel
theorem dX6_count_215 : decode cX6_count 215 = .ok (.ireturn, 1) := by decide +kernel
theorem dX6_count_216 : decode cX6_count 216 = .ok (.aload_n 0, 1) := by decide +kernel
theorem dX6_count_217 : decode cX6_count 217 = .ok (.getfield 32, 3) := by decide +kernel
theorem dX6_count_220 : decode cX6_count 220 = .ok (.getfield 137, 3) := by decide +kernel
theorem dX6_count_223 : decode cX6_count 223 = .ok (.ireturn, 1) := by decide +kernel
theorem dX6_count_224 : decode cX6_count 224 = .ok (.bipush (-2), 2) := by decide +kernel
theorem dX6_count_226 : decode cX6_count 226 = .ok (.ireturn, 1) := by decide +kernel
theorem ck_X6_151 : CkV RX6 151 RX4 yX4_ballsOnFelt cX4_ballsOnFelt 3 (some .int) 0 := ⟨wm_X6_151, wim_yX4_ballsOnFelt, wse_yX4_ballsOnFelt, wi_X4, wc_yX4_ballsOnFelt, by decide +kernel⟩
theorem ck_X6_248 : CkS RX6 248 yX4_total cX4_total 3 (some .int) 1 := ⟨wm_X6_248, wst_yX4_total, wi_X4, wc_yX4_total, by decide +kernel⟩
theorem hc_65 {E : Ev} {a0 p0_0 p0_1 p0_2 p0_3 p0_4 p0_5 : Nat} {n0 : Int32} {a1 : Nat → Nat} {σ1 : N2} {a2 : Nat → Nat} {h2 : Nat → Nat → Nat} {n2 : Int32} {η2 : Nat → N2} {o2 : Nat} {a3 : Nat → Nat} {σ3 : N2} : ([1, 2, 3, 4, 5, 6, 7, 8, 9] : List Nat).map (fun i => (wHb a0 p0_0 p0_1 p0_2 p0_3 p0_4 p0_5 n0 ++ (wSt E a1 σ1 ++ (wHs E a2 h2 n2 o2 η2 ++ wTx E a3 σ3)))[i]?) = (wSt E a1 σ1).map some := by rw [show wHb a0 p0_0 p0_1 p0_2 p0_3 p0_4 p0_5 n0 ++ (wSt E a1 σ1 ++ (wHs E a2 h2 n2 o2 η2 ++ (wTx E a3 σ3))) = (wHb a0 p0_0 p0_1 p0_2 p0_3 p0_4 p0_5 n0) ++ (wSt E a1 σ1 ++ (wHs E a2 h2 n2 o2 η2 ++ (wTx E a3 σ3))) by simp only [List.append_assoc, List.nil_append, List.append_nil]]; exact get1 (s := 1) (n := 9) rfl rfl
theorem ha_65 {E : Ev} {a1 : Nat → Nat} {σ1 : N2} {τ0_0 : N2} : (wSt E a1 τ0_0).map Prod.fst = (wSt E a1 σ1).map Prod.fst := fst_St
theorem hw_65 {E : Ev} {a0 p0_0 p0_1 p0_2 p0_3 p0_4 p0_5 : Nat} {n0 : Int32} {a1 : Nat → Nat} {σ1 : N2} {a2 : Nat → Nat} {h2 : Nat → Nat → Nat} {n2 : Int32} {η2 : Nat → N2} {o2 : Nat} {a3 : Nat → Nat} {σ3 : N2} {τ0_0 : N2} : wput (wHb a0 p0_0 p0_1 p0_2 p0_3 p0_4 p0_5 n0 ++ (wSt E a1 σ1 ++ (wHs E a2 h2 n2 o2 η2 ++ wTx E a3 σ3))) [1, 2, 3, 4, 5, 6, 7, 8, 9] (wSt E a1 τ0_0) = wHb a0 p0_0 p0_1 p0_2 p0_3 p0_4 p0_5 n0 ++ (wSt E a1 τ0_0 ++ (wHs E a2 h2 n2 o2 η2 ++ wTx E a3 σ3)) := by
  show wput (wHb a0 p0_0 p0_1 p0_2 p0_3 p0_4 p0_5 n0 ++ (wSt E a1 σ1 ++ (wHs E a2 h2 n2 o2 η2 ++ (wTx E a3 σ3)))) (rg 1 9) (wSt E a1 τ0_0) = _
  rw [show wHb a0 p0_0 p0_1 p0_2 p0_3 p0_4 p0_5 n0 ++ (wSt E a1 σ1 ++ (wHs E a2 h2 n2 o2 η2 ++ (wTx E a3 σ3))) = (wHb a0 p0_0 p0_1 p0_2 p0_3 p0_4 p0_5 n0) ++ (wSt E a1 σ1 ++ (wHs E a2 h2 n2 o2 η2 ++ (wTx E a3 σ3))) by simp only [List.append_assoc, List.nil_append, List.append_nil], put1 (s := 1) (n := 9) rfl rfl rfl]
  try simp only [List.append_assoc, List.nil_append, List.append_nil]
theorem hc_66 {E : Ev} {a0 p0_0 p0_1 p0_2 p0_3 p0_4 p0_5 : Nat} {n0 : Int32} {a1 : Nat → Nat} {σ1 : N2} {a2 : Nat → Nat} {h2 : Nat → Nat → Nat} {n2 : Int32} {η2 : Nat → N2} {o2 : Nat} {a3 : Nat → Nat} {σ3 : N2} : ([5] : List Nat).map (fun i => (wHb a0 p0_0 p0_1 p0_2 p0_3 p0_4 p0_5 n0 ++ (wSt E a1 σ1 ++ (wHs E a2 h2 n2 o2 η2 ++ wTx E a3 σ3)))[i]?) = (wAr E (a1 4) 12 (σ1 3)).map some := rfl
theorem ha_66 {E : Ev} {a1 : Nat → Nat} {σ1 : N2}  : (wAr E (a1 4) 12 (σ1 3)).map Prod.fst = (wAr E (a1 4) 12 (σ1 3)).map Prod.fst := rfl
theorem hw_66 {E : Ev} {a0 p0_0 p0_1 p0_2 p0_3 p0_4 p0_5 : Nat} {n0 : Int32} {a1 : Nat → Nat} {σ1 : N2} {a2 : Nat → Nat} {h2 : Nat → Nat → Nat} {n2 : Int32} {η2 : Nat → N2} {o2 : Nat} {a3 : Nat → Nat} {σ3 : N2}  : wput (wHb a0 p0_0 p0_1 p0_2 p0_3 p0_4 p0_5 n0 ++ (wSt E a1 σ1 ++ (wHs E a2 h2 n2 o2 η2 ++ wTx E a3 σ3))) [5] (wAr E (a1 4) 12 (σ1 3)) = wHb a0 p0_0 p0_1 p0_2 p0_3 p0_4 p0_5 n0 ++ (wSt E a1 σ1 ++ (wHs E a2 h2 n2 o2 η2 ++ wTx E a3 σ3)) := rfl
theorem hc_67 {E : Ev} {a0 p0_0 p0_1 p0_2 p0_3 p0_4 p0_5 : Nat} {n0 : Int32} {a1 : Nat → Nat} {σ1 : N2} {a2 : Nat → Nat} {h2 : Nat → Nat → Nat} {n2 : Int32} {η2 : Nat → N2} {o2 : Nat} {a3 : Nat → Nat} {σ3 : N2} : ([6] : List Nat).map (fun i => (wHb a0 p0_0 p0_1 p0_2 p0_3 p0_4 p0_5 n0 ++ (wSt E a1 σ1 ++ (wHs E a2 h2 n2 o2 η2 ++ wTx E a3 σ3)))[i]?) = (wAr E (a1 5) 12 (σ1 4)).map some := rfl
theorem ha_67 {E : Ev} {a1 : Nat → Nat} {σ1 : N2}  : (wAr E (a1 5) 12 (σ1 4)).map Prod.fst = (wAr E (a1 5) 12 (σ1 4)).map Prod.fst := rfl
theorem hw_67 {E : Ev} {a0 p0_0 p0_1 p0_2 p0_3 p0_4 p0_5 : Nat} {n0 : Int32} {a1 : Nat → Nat} {σ1 : N2} {a2 : Nat → Nat} {h2 : Nat → Nat → Nat} {n2 : Int32} {η2 : Nat → N2} {o2 : Nat} {a3 : Nat → Nat} {σ3 : N2}  : wput (wHb a0 p0_0 p0_1 p0_2 p0_3 p0_4 p0_5 n0 ++ (wSt E a1 σ1 ++ (wHs E a2 h2 n2 o2 η2 ++ wTx E a3 σ3))) [6] (wAr E (a1 5) 12 (σ1 4)) = wHb a0 p0_0 p0_1 p0_2 p0_3 p0_4 p0_5 n0 ++ (wSt E a1 σ1 ++ (wHs E a2 h2 n2 o2 η2 ++ wTx E a3 σ3)) := rfl
set_option maxHeartbeats 4000000 in
set_option maxRecDepth 100000 in
theorem kX6_count (l : Launch) (E : Ev) (h : Nat) (p1 : Nat) (p2 : Nat) (p5 : Nat) (hs : Int32) (sa : Nat → Nat) (σ : N2) (ya : Nat → Nat) (hh : Nat → Nat → Nat) (n : Int32) (o : Nat) (η : Nat → N2) (xa : Nat → Nat) (t : N2) (wt : Int32) : KQ l yX6_count cX6_count 2 (some .int) 1 22 E [.ref h, .int wt] (wHb h (sa 0) p1 p2 (ya 0) (xa 0) p5 hs ++ (wSt E sa σ ++ (wHs E ya hh n o η ++ wTx E xa t))) (QI E (wHb h (sa 0) p1 p2 (ya 0) (xa 0) p5 hs ++ (wSt E sa σ ++ (wHs E ya hh n o η ++ wTx E xa t))) (fX6_count hs σ n o η t wt) (wHb h (sa 0) p1 p2 (ya 0) (xa 0) p5 hs ++ (wSt E sa σ ++ (wHs E ya hh n o η ++ wTx E xa t)))) := by
  refine KQ.mk RX6 rfl (by decide +kernel) (Nat.le_of_ble_eq_true rfl) ?_
  intro p e s m below meth c ls X hr w hl
  have hx := X.1
  have hb := X.2.1
  have hl : lv_has ls 2 [(0, .ref h), (1, .int wt)] := hl
  refine lv_iload_n hx hb dX6_count_0 rfl (lv_at hl 1 rfl) ?_
  by_cases c1_1 : wt = 0
  · refine lv_tableIn (off := 79) (tgt := 80) hx hb dX6_count_1 (by rw [c1_1]; decide) (by rw [c1_1]; decide) (by rw [c1_1]; rfl) (by decide) ?_
    refine lv_aload_n hx hb dX6_count_80 rfl (lv_at hl 0 rfl) ?_
    refine r_get X w CL6 0 (by decide) wf_X6_10 0 rfl rfl dX6_count_81 ?_
    refine r_ci w (r_runV (As := []) (rest := []) X w (kX4_ballsOnFelt l E sa σ ) ck_X6_151 ⟨Nat.le_of_ble_eq_true rfl, Nat.le_of_ble_eq_true rfl⟩ [1, 2, 3, 4, 5, 6, 7, 8, 9] (hc_65 (E := E)) (by decide +kernel) (k0 := 0) CL4 rfl hl.1 (Nat.le_of_ble_eq_true rfl) rfl dX6_count_84 ⟨Nat.le_of_ble_eq_true rfl, Nat.le_of_ble_eq_true rfl⟩) (wHb h (sa 0) p1 p2 (ya 0) (xa 0) p5 hs ++ (wSt E sa σ ++ (wHs E ya hh n o η ++ wTx E xa t))) [1, 2, 3, 4, 5, 6, 7, 8, 9] (hc_65 (E := E)) (by decide +kernel) (ha_65 (E := E)) (hw_65 (E := E)) (fun H locs w => ?_)
    have hq : fX6_count hs σ n o η t wt = ((fX4_ballsOnFelt σ)) := by simp only [fX6_count, if_pos c1_1]
    rw [hq]
    exact r_iret X w hr rfl dX6_count_87
  · by_cases c1_2 : wt = 1
    · refine lv_tableIn (off := 87) (tgt := 88) hx hb dX6_count_1 (by rw [c1_2]; decide) (by rw [c1_2]; decide) (by rw [c1_2]; rfl) (by decide) ?_
      refine lv_aload_n hx hb dX6_count_88 rfl (lv_at hl 0 rfl) ?_
      refine r_get X w CL6 0 (by decide) wf_X6_10 0 rfl rfl dX6_count_89 ?_
      refine r_getN X w CL4 8 (by decide) nl_19 1 rfl rfl dX6_count_92 ?_
      have hq : fX6_count hs σ n o η t wt = (σ 8 0) := by simp only [fX6_count, if_neg c1_1, if_pos c1_2]
      rw [hq]
      exact r_iret X w hr rfl dX6_count_95
    · by_cases c1_3 : wt = 2
      · refine lv_tableIn (off := 95) (tgt := 96) hx hb dX6_count_1 (by rw [c1_3]; decide) (by rw [c1_3]; decide) (by rw [c1_3]; rfl) (by decide) ?_
        refine lv_aload_n hx hb dX6_count_96 rfl (lv_at hl 0 rfl) ?_
        refine r_get X w CL6 0 (by decide) wf_X6_10 0 rfl rfl dX6_count_97 ?_
        refine r_getN X w CL4 10 (by decide) nl_0 1 rfl rfl dX6_count_100 ?_
        have hq : fX6_count hs σ n o η t wt = (σ 8 2) := by simp only [fX6_count, if_neg c1_1, if_neg c1_2, if_pos c1_3]
        rw [hq]
        exact r_iret X w hr rfl dX6_count_103
      · by_cases c1_4 : wt = 3
        · refine lv_tableIn (off := 103) (tgt := 104) hx hb dX6_count_1 (by rw [c1_4]; decide) (by rw [c1_4]; decide) (by rw [c1_4]; rfl) (by decide) ?_
          refine lv_aload_n hx hb dX6_count_104 rfl (lv_at hl 0 rfl) ?_
          refine r_get X w CL6 0 (by decide) wf_X6_10 0 rfl rfl dX6_count_105 ?_
          refine r_getN X w CL4 7 (by decide) nl_20 1 rfl rfl dX6_count_108 ?_
          refine lv_iconst (v := 0) hx hb dX6_count_111 (by decide) ?_
          refine r_ialdL X w 9 rfl (j := 0) rfl (vin_c rfl) dX6_count_112 ?_
          have hq : fX6_count hs σ n o η t wt = (σ 7 0) := by simp only [fX6_count, if_neg c1_1, if_neg c1_2, if_neg c1_3, if_pos c1_4]
          rw [hq]
          exact r_iret X w hr rfl dX6_count_113
        · by_cases c1_5 : wt = 4
          · refine lv_tableIn (off := 113) (tgt := 114) hx hb dX6_count_1 (by rw [c1_5]; decide) (by rw [c1_5]; decide) (by rw [c1_5]; rfl) (by decide) ?_
            refine lv_aload_n hx hb dX6_count_114 rfl (lv_at hl 0 rfl) ?_
            refine r_get X w CL6 0 (by decide) wf_X6_10 0 rfl rfl dX6_count_115 ?_
            refine r_getN X w CL4 7 (by decide) nl_20 1 rfl rfl dX6_count_118 ?_
            refine lv_iconst (v := 1) hx hb dX6_count_121 (by decide) ?_
            refine r_ialdL X w 9 rfl (j := 1) rfl (vin_c rfl) dX6_count_122 ?_
            have hq : fX6_count hs σ n o η t wt = (σ 7 1) := by simp only [fX6_count, if_neg c1_1, if_neg c1_2, if_neg c1_3, if_neg c1_4, if_pos c1_5]
            rw [hq]
            exact r_iret X w hr rfl dX6_count_123
          · by_cases c1_6 : wt = 5
            · refine lv_tableIn (off := 123) (tgt := 124) hx hb dX6_count_1 (by rw [c1_6]; decide) (by rw [c1_6]; decide) (by rw [c1_6]; rfl) (by decide) ?_
              refine lv_aload_n hx hb dX6_count_124 rfl (lv_at hl 0 rfl) ?_
              refine r_get X w CL6 0 (by decide) wf_X6_10 0 rfl rfl dX6_count_125 ?_
              refine r_getN X w CL4 11 (by decide) nl_2 1 rfl rfl dX6_count_128 ?_
              have hq : fX6_count hs σ n o η t wt = (σ 8 3) := by simp only [fX6_count, if_neg c1_1, if_neg c1_2, if_neg c1_3, if_neg c1_4, if_neg c1_5, if_pos c1_6]
              rw [hq]
              exact r_iret X w hr rfl dX6_count_131
            · by_cases c1_7 : wt = 6
              · refine lv_tableIn (off := 131) (tgt := 132) hx hb dX6_count_1 (by rw [c1_7]; decide) (by rw [c1_7]; decide) (by rw [c1_7]; rfl) (by decide) ?_
                refine lv_aload_n hx hb dX6_count_132 rfl (lv_at hl 0 rfl) ?_
                refine r_get X w CL6 0 (by decide) wf_X6_10 0 rfl rfl dX6_count_133 ?_
                refine r_getN X w CL4 12 (by decide) nl_21 1 rfl rfl dX6_count_136 ?_
                have hq : fX6_count hs σ n o η t wt = (σ 8 4) := by simp only [fX6_count, if_neg c1_1, if_neg c1_2, if_neg c1_3, if_neg c1_4, if_neg c1_5, if_neg c1_6, if_pos c1_7]
                rw [hq]
                exact r_iret X w hr rfl dX6_count_139
              · by_cases c1_8 : wt = 7
                · refine lv_tableIn (off := 139) (tgt := 140) hx hb dX6_count_1 (by rw [c1_8]; decide) (by rw [c1_8]; decide) (by rw [c1_8]; rfl) (by decide) ?_
                  refine lv_aload_n hx hb dX6_count_140 rfl (lv_at hl 0 rfl) ?_
                  refine r_get X w CL6 0 (by decide) wf_X6_10 0 rfl rfl dX6_count_141 ?_
                  refine r_getN X w CL4 13 (by decide) nl_22 1 rfl rfl dX6_count_144 ?_
                  have hq : fX6_count hs σ n o η t wt = (σ 8 5) := by simp only [fX6_count, if_neg c1_1, if_neg c1_2, if_neg c1_3, if_neg c1_4, if_neg c1_5, if_neg c1_6, if_neg c1_7, if_pos c1_8]
                  rw [hq]
                  exact r_iret X w hr rfl dX6_count_147
                · by_cases c1_9 : wt = 8
                  · refine lv_tableIn (off := 147) (tgt := 148) hx hb dX6_count_1 (by rw [c1_9]; decide) (by rw [c1_9]; decide) (by rw [c1_9]; rfl) (by decide) ?_
                    refine lv_aload_n hx hb dX6_count_148 rfl (lv_at hl 0 rfl) ?_
                    refine r_get X w CL6 0 (by decide) wf_X6_10 0 rfl rfl dX6_count_149 ?_
                    refine r_getN X w CL4 3 (by decide) nl_8 1 rfl rfl dX6_count_152 ?_
                    refine r_ci w (r_runS (As := [.ref (sa 4)]) (rest := []) X w (kX4_total l E (sa 4) (σ 3) ) ck_X6_248 ⟨Nat.le_of_ble_eq_true rfl, Nat.le_of_ble_eq_true rfl⟩ [5] (hc_66 (E := E)) (by decide +kernel) hl.1 (Nat.le_of_ble_eq_true rfl) rfl dX6_count_155 ⟨Nat.le_of_ble_eq_true rfl, Nat.le_of_ble_eq_true rfl⟩) (wHb h (sa 0) p1 p2 (ya 0) (xa 0) p5 hs ++ (wSt E sa σ ++ (wHs E ya hh n o η ++ wTx E xa t))) [5] (hc_66 (E := E)) (by decide +kernel) (ha_66 (E := E)) (hw_66 (E := E)) (fun H locs w => ?_)
                    have hq : fX6_count hs σ n o η t wt = ((fX4_total (σ 3))) := by simp only [fX6_count, if_neg c1_1, if_neg c1_2, if_neg c1_3, if_neg c1_4, if_neg c1_5, if_neg c1_6, if_neg c1_7, if_neg c1_8, if_pos c1_9]
                    rw [hq]
                    exact r_iret X w hr rfl dX6_count_158
                  · by_cases c1_10 : wt = 9
                    · refine lv_tableIn (off := 158) (tgt := 159) hx hb dX6_count_1 (by rw [c1_10]; decide) (by rw [c1_10]; decide) (by rw [c1_10]; rfl) (by decide) ?_
                      refine lv_aload_n hx hb dX6_count_159 rfl (lv_at hl 0 rfl) ?_
                      refine r_get X w CL6 0 (by decide) wf_X6_10 0 rfl rfl dX6_count_160 ?_
                      refine r_getN X w CL4 4 (by decide) nl_9 1 rfl rfl dX6_count_163 ?_
                      refine r_ci w (r_runS (As := [.ref (sa 5)]) (rest := []) X w (kX4_total l E (sa 5) (σ 4) ) ck_X6_248 ⟨Nat.le_of_ble_eq_true rfl, Nat.le_of_ble_eq_true rfl⟩ [6] (hc_67 (E := E)) (by decide +kernel) hl.1 (Nat.le_of_ble_eq_true rfl) rfl dX6_count_166 ⟨Nat.le_of_ble_eq_true rfl, Nat.le_of_ble_eq_true rfl⟩) (wHb h (sa 0) p1 p2 (ya 0) (xa 0) p5 hs ++ (wSt E sa σ ++ (wHs E ya hh n o η ++ wTx E xa t))) [6] (hc_67 (E := E)) (by decide +kernel) (ha_67 (E := E)) (hw_67 (E := E)) (fun H locs w => ?_)
                      have hq : fX6_count hs σ n o η t wt = ((fX4_total (σ 4))) := by simp only [fX6_count, if_neg c1_1, if_neg c1_2, if_neg c1_3, if_neg c1_4, if_neg c1_5, if_neg c1_6, if_neg c1_7, if_neg c1_8, if_neg c1_9, if_pos c1_10]
                      rw [hq]
                      exact r_iret X w hr rfl dX6_count_169
                    · by_cases c1_11 : wt = 10
                      · refine lv_tableIn (off := 169) (tgt := 170) hx hb dX6_count_1 (by rw [c1_11]; decide) (by rw [c1_11]; decide) (by rw [c1_11]; rfl) (by decide) ?_
                        refine lv_aload_n hx hb dX6_count_170 rfl (lv_at hl 0 rfl) ?_
                        refine r_get X w CL6 0 (by decide) wf_X6_10 0 rfl rfl dX6_count_171 ?_
                        refine r_getN X w CL4 9 (by decide) nl_24 1 rfl rfl dX6_count_174 ?_
                        have hq : fX6_count hs σ n o η t wt = (σ 8 1) := by simp only [fX6_count, if_neg c1_1, if_neg c1_2, if_neg c1_3, if_neg c1_4, if_neg c1_5, if_neg c1_6, if_neg c1_7, if_neg c1_8, if_neg c1_9, if_neg c1_10, if_pos c1_11]
                        rw [hq]
                        exact r_iret X w hr rfl dX6_count_177
                      · by_cases c1_12 : wt = 11
                        · refine lv_tableIn (off := 177) (tgt := 178) hx hb dX6_count_1 (by rw [c1_12]; decide) (by rw [c1_12]; decide) (by rw [c1_12]; rfl) (by decide) ?_
                          refine lv_aload_n hx hb dX6_count_178 rfl (lv_at hl 0 rfl) ?_
                          refine r_get X w CL6 0 (by decide) wf_X6_10 0 rfl rfl dX6_count_179 ?_
                          refine r_getN X w CL4 6 (by decide) nl_26 1 rfl rfl dX6_count_182 ?_
                          refine lv_iconst (v := 0) hx hb dX6_count_185 (by decide) ?_
                          refine r_ialdL X w 8 rfl (j := 0) rfl (vin_c rfl) dX6_count_186 ?_
                          have hq : fX6_count hs σ n o η t wt = (σ 6 0) := by simp only [fX6_count, if_neg c1_1, if_neg c1_2, if_neg c1_3, if_neg c1_4, if_neg c1_5, if_neg c1_6, if_neg c1_7, if_neg c1_8, if_neg c1_9, if_neg c1_10, if_neg c1_11, if_pos c1_12]
                          rw [hq]
                          exact r_iret X w hr rfl dX6_count_187
                        · by_cases c1_13 : wt = 12
                          · refine lv_tableIn (off := 187) (tgt := 188) hx hb dX6_count_1 (by rw [c1_13]; decide) (by rw [c1_13]; decide) (by rw [c1_13]; rfl) (by decide) ?_
                            refine lv_aload_n hx hb dX6_count_188 rfl (lv_at hl 0 rfl) ?_
                            refine r_get X w CL6 0 (by decide) wf_X6_10 0 rfl rfl dX6_count_189 ?_
                            refine r_getN X w CL4 6 (by decide) nl_26 1 rfl rfl dX6_count_192 ?_
                            refine lv_iconst (v := 1) hx hb dX6_count_195 (by decide) ?_
                            refine r_ialdL X w 8 rfl (j := 1) rfl (vin_c rfl) dX6_count_196 ?_
                            have hq : fX6_count hs σ n o η t wt = (σ 6 1) := by simp only [fX6_count, if_neg c1_1, if_neg c1_2, if_neg c1_3, if_neg c1_4, if_neg c1_5, if_neg c1_6, if_neg c1_7, if_neg c1_8, if_neg c1_9, if_neg c1_10, if_neg c1_11, if_neg c1_12, if_pos c1_13]
                            rw [hq]
                            exact r_iret X w hr rfl dX6_count_197
                          · by_cases c1_14 : wt = 13
                            · refine lv_tableIn (off := 197) (tgt := 198) hx hb dX6_count_1 (by rw [c1_14]; decide) (by rw [c1_14]; decide) (by rw [c1_14]; rfl) (by decide) ?_
                              refine lv_aload_n hx hb dX6_count_198 rfl (lv_at hl 0 rfl) ?_
                              refine r_get X w CL6 0 (by decide) wf_X6_10 0 rfl rfl dX6_count_199 ?_
                              refine r_getN X w CL4 6 (by decide) nl_26 1 rfl rfl dX6_count_202 ?_
                              refine lv_iconst (v := 2) hx hb dX6_count_205 (by decide) ?_
                              refine r_ialdL X w 8 rfl (j := 2) rfl (vin_c rfl) dX6_count_206 ?_
                              have hq : fX6_count hs σ n o η t wt = (σ 6 2) := by simp only [fX6_count, if_neg c1_1, if_neg c1_2, if_neg c1_3, if_neg c1_4, if_neg c1_5, if_neg c1_6, if_neg c1_7, if_neg c1_8, if_neg c1_9, if_neg c1_10, if_neg c1_11, if_neg c1_12, if_neg c1_13, if_pos c1_14]
                              rw [hq]
                              exact r_iret X w hr rfl dX6_count_207
                            · by_cases c1_15 : wt = 14
                              · refine lv_tableIn (off := 207) (tgt := 208) hx hb dX6_count_1 (by rw [c1_15]; decide) (by rw [c1_15]; decide) (by rw [c1_15]; rfl) (by decide) ?_
                                refine lv_aload_n hx hb dX6_count_208 rfl (lv_at hl 0 rfl) ?_
                                refine r_get X w CL6 3 (by decide) wf_X6_25 0 rfl rfl dX6_count_209 ?_
                                refine r_getN X w CL2 1 (by decide) nl_4 10 rfl rfl dX6_count_212 ?_
                                have hq : fX6_count hs σ n o η t wt = (n) := by simp only [fX6_count, if_neg c1_1, if_neg c1_2, if_neg c1_3, if_neg c1_4, if_neg c1_5, if_neg c1_6, if_neg c1_7, if_neg c1_8, if_neg c1_9, if_neg c1_10, if_neg c1_11, if_neg c1_12, if_neg c1_13, if_neg c1_14, if_pos c1_15]
                                rw [hq]
                                exact r_iret X w hr rfl dX6_count_215
                              · by_cases c1_16 : wt = 15
                                · refine lv_tableIn (off := 215) (tgt := 216) hx hb dX6_count_1 (by rw [c1_16]; decide) (by rw [c1_16]; decide) (by rw [c1_16]; rfl) (by decide) ?_
                                  refine lv_aload_n hx hb dX6_count_216 rfl (lv_at hl 0 rfl) ?_
                                  refine r_get X w CL6 4 (by decide) wf_X6_32 0 rfl rfl dX6_count_217 ?_
                                  refine r_getN X w CL0 1 (by decide) nl_3 48 rfl rfl dX6_count_220 ?_
                                  have hq : fX6_count hs σ n o η t wt = (t 3 0) := by simp only [fX6_count, if_neg c1_1, if_neg c1_2, if_neg c1_3, if_neg c1_4, if_neg c1_5, if_neg c1_6, if_neg c1_7, if_neg c1_8, if_neg c1_9, if_neg c1_10, if_neg c1_11, if_neg c1_12, if_neg c1_13, if_neg c1_14, if_neg c1_15, if_pos c1_16]
                                  rw [hq]
                                  exact r_iret X w hr rfl dX6_count_223
                                · refine lv_tableOut (tgt := 224) hx hb dX6_count_1 (tab_out_15 c1_1 c1_2 c1_3 c1_4 c1_5 c1_6 c1_7 c1_8 c1_9 c1_10 c1_11 c1_12 c1_13 c1_14 c1_15 c1_16) (by decide) ?_
                                  refine lv_bipush (v := (-2)) hx hb dX6_count_224 (by decide) ?_
                                  have hq : fX6_count hs σ n o η t wt = ((-2)) := by simp only [fX6_count, if_neg c1_1, if_neg c1_2, if_neg c1_3, if_neg c1_4, if_neg c1_5, if_neg c1_6, if_neg c1_7, if_neg c1_8, if_neg c1_9, if_neg c1_10, if_neg c1_11, if_neg c1_12, if_neg c1_13, if_neg c1_14, if_neg c1_15, if_neg c1_16]
                                  rw [hq]
                                  exact r_iret X w hr rfl dX6_count_226
