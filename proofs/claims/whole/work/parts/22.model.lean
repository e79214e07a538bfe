/-! the reference: putAll (printed by wip/whole/gen/p22.py) -/
theorem spO.ev {μ μ2 : N2} (h : spO μ μ2) (hev : gE μ) : gE μ2 := by
  unfold gE
  rw [h.1 0 (by decide)]
  exact hev
theorem spO.hh {μ μ2 : N2} (h : spO μ μ2) (hH : gH μ) : gH μ2 := by
  unfold gH
  rw [h.2.1 0 (by decide)]
  exact hH
theorem puts_ev {μ : N2} {sp : UInt32} {ce vl : Int32} (hev : gE μ) : gE (fX7_puts μ sp ce vl).2 := by
  unfold fX7_puts
  split
  · split
    · exact hev
    · rename_i h2
      have h3 : ¬ (μ 0 12).toInt = 12 := ne_i h2
      have e1 : (1 : Int32).toInt = 1 := rfl
      have h4 := hev.1
      have h5 := hev.2
      have hv : vp_in (μ 0 12) 12 := by rw [vp_in_iff]; omega
      obtain ⟨k, hk, hk2⟩ := vin_cases hv
      have r := row_ix ⟨k, hk⟩
      show gE (u2 (u2 (u2 μ 0 12 ((μ 0 12) + 1)) 0 (13 + (μ 0 12)).toNatClampNeg ce) 0 (25 + (μ 0 12)).toNatClampNeg vl)
      unfold gE
      rw [hk2, r.1, r.2.1, u2_at, if_neg (by omega), u2_at, if_neg (by omega), u2_at, if_pos rfl, ← hk2, ti_add (by omega) (by omega), e1]
      omega
  · exact hev
theorem gT_of {μ μ2 : N2} (hT : gT μ) (h : μ2 9 = μ 9) : gT μ2 := by
  unfold gT
  rw [h]
  exact hT
theorem gS_of {μ μ2 : N2} (hS : gS μ) (h : μ2 9 = μ 9) : gS μ2 := by
  unfold gS
  rw [h]
  exact hS
theorem ftN_ok : ∀ (n : Nat) {mo : Int32} {μ : N2} {sp : UInt32}, gT μ → gS μ → spO μ (ftN sp n mo μ).2 := by
  intro n
  induction n with
  | zero => intro mo μ sp hT hS; exact spO.refl hS
  | succ n ih =>
    intro mo μ sp hT hS
    unfold ftN
    have hB := ball_ok (sp := sp) hT hS
    split
    · exact spO.refl hS
    · split
      · exact hB.1
      · have hK := takes_ok (sp := sp) (ch := 59) (hB.1.tx hT) (hB.1.sp hS)
        exact hB.1.trans (hK.1.trans (ih (hK.1.tx (hB.1.tx hT)) (hK.1.sp (hB.1.sp hS))))
/-- the text's balls: n is fuel -/
def paM (sp : UInt32) : Nat → Int32 → Int32 → N2 → Int32 × N2
  | 0, _, _, μ => (0, μ)
  | n + 1, cn, mo, μ => if mo = 0 then fX7_acted μ sp cn else if 0 ≤ (fX7_puts (fX7_readsBall μ sp).2 sp ((fX7_readsBall μ sp).2 9 13) ((fX7_readsBall μ sp).2 9 14)).1 then paM sp n (cn + 1) (fX7_takes (fX7_puts (fX7_readsBall μ sp).2 sp ((fX7_readsBall μ sp).2 9 13) ((fX7_readsBall μ sp).2 9 14)).2 sp 59).1 (fX7_takes (fX7_puts (fX7_readsBall μ sp).2 sp ((fX7_readsBall μ sp).2 9 13) ((fX7_readsBall μ sp).2 9 14)).2 sp 59).2 else ((fX7_puts (fX7_readsBall μ sp).2 sp ((fX7_readsBall μ sp).2 9 13) ((fX7_readsBall μ sp).2 9 14)).1, va_up (fX7_puts (fX7_readsBall μ sp).2 sp ((fX7_readsBall μ sp).2 9 13) ((fX7_readsBall μ sp).2 9 14)).2 0 (fX7_copy ((fX7_puts (fX7_readsBall μ sp).2 sp ((fX7_readsBall μ sp).2 9 13) ((fX7_readsBall μ sp).2 9 14)).2 1) ((fX7_puts (fX7_readsBall μ sp).2 sp ((fX7_readsBall μ sp).2 9 13) ((fX7_readsBall μ sp).2 9 14)).2 0)))
def paF (μ : N2) (sp : UInt32) : Int32 × N2 := paM sp 64 0 1 (u2 (fX7_remember (fX7_fault μ sp).2 sp) 9 11 0)
def fX7_putAll (μ : N2) (sp : UInt32) : Int32 × N2 := if (fX7_fault μ sp).1 = (-5) then paF μ sp else ((-100) - (fX7_fault μ sp).1, (fX7_fault μ sp).2)
/-- what holds in the loop -/
def paJ (μ : N2) : Prop := gT μ ∧ gS μ ∧ gE μ ∧ gH μ
theorem paB_ok {μ : N2} {sp : UInt32} (h : paJ μ) : paJ (fX7_puts (fX7_readsBall μ sp).2 sp ((fX7_readsBall μ sp).2 9 13) ((fX7_readsBall μ sp).2 9 14)).2 ∧ (fX7_puts (fX7_readsBall μ sp).2 sp ((fX7_readsBall μ sp).2 9 13) ((fX7_readsBall μ sp).2 9 14)).2 9 10 = μ 9 10 ∧ (μ 9 11).toInt ≤ ((fX7_puts (fX7_readsBall μ sp).2 sp ((fX7_readsBall μ sp).2 9 13) ((fX7_readsBall μ sp).2 9 14)).2 9 11).toInt := by
  have hB := ball_ok (sp := sp) h.1 h.2.1
  have h9 : (fX7_puts (fX7_readsBall μ sp).2 sp ((fX7_readsBall μ sp).2 9 13) ((fX7_readsBall μ sp).2 9 14)).2 9 = (fX7_readsBall μ sp).2 9 := puts_9 _ _ _ _
  refine ⟨⟨gT_of (hB.1.tx h.1) h9, gS_of (hB.1.sp h.2.1) h9, puts_ev (hB.1.ev h.2.2.1), gH_of (hB.1.hh h.2.2.2) (by rw [h9])⟩, ?_, ?_⟩
  · rw [h9]
    exact hB.1.2.1 10 (by decide)
  · rw [h9]
    exact hB.1.2.2.1
theorem paT_ok {μ : N2} {sp : UInt32} {n : Nat} (h : paJ μ) (hM : 1 ≤ n + 1 ∧ (μ 9 10).toInt - (μ 9 11).toInt + 2 ≤ ((n + 1 : Nat) : Int)) : paJ (fX7_takes (fX7_puts (fX7_readsBall μ sp).2 sp ((fX7_readsBall μ sp).2 9 13) ((fX7_readsBall μ sp).2 9 14)).2 sp 59).2 ∧ 1 ≤ n ∧ (¬ (fX7_takes (fX7_puts (fX7_readsBall μ sp).2 sp ((fX7_readsBall μ sp).2 9 13) ((fX7_readsBall μ sp).2 9 14)).2 sp 59).1 = 0 → ((fX7_takes (fX7_puts (fX7_readsBall μ sp).2 sp ((fX7_readsBall μ sp).2 9 13) ((fX7_readsBall μ sp).2 9 14)).2 sp 59).2 9 10).toInt - ((fX7_takes (fX7_puts (fX7_readsBall μ sp).2 sp ((fX7_readsBall μ sp).2 9 13) ((fX7_readsBall μ sp).2 9 14)).2 sp 59).2 9 11).toInt + 2 ≤ (n : Int)) := by
  have hP := paB_ok (sp := sp) h
  have hK := takes_ok (sp := sp) (ch := 59) hP.1.1 hP.1.2.1
  refine ⟨⟨hK.1.tx hP.1.1, hK.1.sp hP.1.2.1, hK.1.ev hP.1.2.2.1, hK.1.hh hP.1.2.2.2⟩, ?_, fun h2 => ?_⟩
  · have := h.2.1.2
    have := hM.2
    omega
  · have a1 := hK.2 h2
    have a2 := hP.2.2
    have a3 := hM.2
    rw [hK.1.2.1 10 (by decide), hP.2.1]
    omega
theorem ftF_ok {μ : N2} {sp : UInt32} (hT : gT μ) : (∀ i : Nat, ¬ i = 9 → (fX7_fault μ sp).2 i = μ i) ∧ (∀ j : Nat, j < 11 → (fX7_fault μ sp).2 9 j = μ 9 j) := by
  have h := ftN_ok 64 (mo := 1) (sp := sp) (ft0 hT).1 (ft0 hT).2.1
  refine ⟨fun i hi => ?_, fun j hj => ?_⟩
  · exact (h.1 i hi).trans (u2_row hi)
  · refine (h.2.1 j hj).trans ?_
    rw [u2_at, if_neg (by omega)]
theorem pa0 {μ : N2} {sp : UInt32} (hev : gE μ) (hH : gH μ) (hT : gT μ) : paJ (u2 (fX7_remember (fX7_fault μ sp).2 sp) 9 11 0) ∧ 1 ≤ 64 ∧ (¬ (1 : Int32) = 0 → ((u2 (fX7_remember (fX7_fault μ sp).2 sp) 9 11 0) 9 10).toInt - ((u2 (fX7_remember (fX7_fault μ sp).2 sp) 9 11 0) 9 11).toInt + 2 ≤ ((64 : Nat) : Int)) := by
  have h := ftF_ok (sp := sp) hT
  have hf : (fX7_remember (fX7_fault μ sp).2 sp) 9 = (fX7_fault μ sp).2 9 := rfl
  have h0 : (fX7_remember (fX7_fault μ sp).2 sp) 0 = (fX7_fault μ sp).2 0 := rfl
  generalize fX7_remember (fX7_fault μ sp).2 sp = M at hf h0 ⊢
  have g1 : gT M := by
    unfold gT
    rw [hf, h.2 10 (by decide)]
    exact hT
  have g2 : gE M := by
    unfold gE
    rw [h0, h.1 0 (by decide)]
    exact hev
  have g3 : gH M := by
    unfold gH
    rw [hf, h.2 0 (by decide)]
    exact hH
  have t := ft0 g1
  refine ⟨⟨t.1, t.2.1, ?_, ?_⟩, by decide, fun _ => t.2.2⟩
  · unfold gE
    rw [u2_row (by decide)]
    exact g2
  · unfold gH
    rw [u2_at, if_neg (by decide)]
    exact g3
theorem dX7_putAll_0 : decode cX7_putAll 0 = .ok (.aload_n 0, 1) := by decide +kernel
theorem dX7_putAll_1 : decode cX7_putAll 1 = .ok (.invokevirtual 198, 3) := by decide +kernel
theorem dX7_putAll_4 : decode cX7_putAll 4 = .ok (.istore_n 1, 1) := by decide +kernel
theorem dX7_putAll_5 : decode cX7_putAll 5 = .ok (.iload_n 1, 1) := by decide +kernel
theorem dX7_putAll_6 : decode cX7_putAll 6 = .ok (.bipush (-5), 2) := by decide +kernel
theorem dX7_putAll_8 : decode cX7_putAll 8 = .ok (.if_icmp .eq 8, 3) := by decide +kernel
theorem dX7_putAll_11 : decode cX7_putAll 11 = .ok (.bipush (-100), 2) := by decide +kernel
theorem dX7_putAll_13 : decode cX7_putAll 13 = .ok (.iload_n 1, 1) := by decide +kernel
theorem dX7_putAll_14 : decode cX7_putAll 14 = .ok (.isub, 1) := by decide +kernel
theorem dX7_putAll_15 : decode cX7_putAll 15 = .ok (.ireturn, 1) := by decide +kernel
theorem dX7_putAll_16 : decode cX7_putAll 16 = .ok (.aload_n 0, 1) := by decide +kernel
theorem dX7_putAll_17 : decode cX7_putAll 17 = .ok (.invokevirtual 136, 3) := by decide +kernel
theorem dX7_putAll_20 : decode cX7_putAll 20 = .ok (.aload_n 0, 1) := by decide +kernel
theorem dX7_putAll_21 : decode cX7_putAll 21 = .ok (.iconst 0, 1) := by decide +kernel
theorem dX7_putAll_22 : decode cX7_putAll 22 = .ok (.putfield 173, 3) := by decide +kernel
theorem dX7_putAll_25 : decode cX7_putAll 25 = .ok (.iconst 0, 1) := by decide +kernel
theorem dX7_putAll_26 : decode cX7_putAll 26 = .ok (.istore_n 2, 1) := by decide +kernel
theorem dX7_putAll_27 : decode cX7_putAll 27 = .ok (.iconst 1, 1) := by decide +kernel
theorem dX7_putAll_28 : decode cX7_putAll 28 = .ok (.istore_n 3, 1) := by decide +kernel
theorem dX7_putAll_29 : decode cX7_putAll 29 = .ok (.iload_n 3, 1) := by decide +kernel
theorem dX7_putAll_30 : decode cX7_putAll 30 = .ok (.ifCond .eq 55, 3) := by decide +kernel
theorem dX7_putAll_33 : decode cX7_putAll 33 = .ok (.aload_n 0, 1) := by decide +kernel
theorem dX7_putAll_34 : decode cX7_putAll 34 = .ok (.invokevirtual 194, 3) := by decide +kernel
theorem dX7_putAll_37 : decode cX7_putAll 37 = .ok (.istore 4, 2) := by decide +kernel
theorem dX7_putAll_39 : decode cX7_putAll 39 = .ok (.aload_n 0, 1) := by decide +kernel
theorem dX7_putAll_40 : decode cX7_putAll 40 = .ok (.aload_n 0, 1) := by decide +kernel
theorem dX7_putAll_41 : decode cX7_putAll 41 = .ok (.getfield 185, 3) := by decide +kernel
theorem dX7_putAll_44 : decode cX7_putAll 44 = .ok (.aload_n 0, 1) := by decide +kernel
theorem dX7_putAll_45 : decode cX7_putAll 45 = .ok (.getfield 191, 3) := by decide +kernel
theorem dX7_putAll_48 : decode cX7_putAll 48 = .ok (.invokevirtual 139, 3) := by decide +kernel
theorem dX7_putAll_51 : decode cX7_putAll 51 = .ok (.istore 5, 2) := by decide +kernel
theorem dX7_putAll_53 : decode cX7_putAll 53 = .ok (.iload 5, 2) := by decide +kernel
theorem dX7_putAll_55 : decode cX7_putAll 55 = .ok (.ifCond .ge 17, 3) := by decide +kernel
theorem dX7_putAll_58 : decode cX7_putAll 58 = .ok (.aload_n 0, 1) := by decide +kernel
theorem dX7_putAll_59 : decode cX7_putAll 59 = .ok (.getfield 13, 3) := by decide +kernel
theorem dX7_putAll_62 : decode cX7_putAll 62 = .ok (.aload_n 0, 1) := by decide +kernel
theorem dX7_putAll_63 : decode cX7_putAll 63 = .ok (.getfield 7, 3) := by decide +kernel
theorem dX7_putAll_66 : decode cX7_putAll 66 = .ok (.invokestatic 45, 3) := by decide +kernel
theorem dX7_putAll_69 : decode cX7_putAll 69 = .ok (.iload 5, 2) := by decide +kernel
theorem dX7_putAll_71 : decode cX7_putAll 71 = .ok (.ireturn, 1) := by decide +kernel
theorem dX7_putAll_72 : decode cX7_putAll 72 = .ok (.iinc 2 1, 3) := by decide +kernel
theorem dX7_putAll_75 : decode cX7_putAll 75 = .ok (.aload_n 0, 1) := by decide +kernel
theorem dX7_putAll_76 : decode cX7_putAll 76 = .ok (.bipush 59, 2) := by decide +kernel
theorem dX7_putAll_78 : decode cX7_putAll 78 = .ok (.invokevirtual 188, 3) := by decide +kernel
theorem dX7_putAll_81 : decode cX7_putAll 81 = .ok (.istore_n 3, 1) := by decide +kernel
theorem dX7_putAll_82 : decode cX7_putAll 82 = .ok (.goto (-53), 3) := by decide +kernel
theorem dX7_putAll_85 : decode cX7_putAll 85 = .ok (.aload_n 0, 1) := by decide +kernel
theorem dX7_putAll_86 : decode cX7_putAll 86 = .ok (.iload_n 2, 1) := by decide +kernel
theorem dX7_putAll_87 : decode cX7_putAll 87 = .ok (.invokevirtual 142, 3) := by decide +kernel
theorem dX7_putAll_90 : decode cX7_putAll 90 = .ok (.ireturn, 1) := by decide +kernel
theorem ck_X7_198 : CkV RX7 198 RX7 yX7_fault cX7_fault 2 (some .int) 0 := ⟨wm_X7_198, wim_yX7_fault, wse_yX7_fault, wi_X7, wc_yX7_fault, by decide +kernel⟩
theorem hc_105 {E : Ev} {a0 : Nat → Nat} {σ0 : N2} {v0 : UInt32} : ([2, 1] : List Nat).map (fun i => (wMd E a0 σ0 v0)[i]?) = (wAr E (a0 2) 73 (σ0 1) ++ wAr E (a0 1) 73 (σ0 0)).map some := rfl
theorem ha_105 {E : Ev} {a0 : Nat → Nat} {σ0 : N2}  {τ1 : N1} : (wAr E (a0 2) 73 (σ0 1) ++ wAr E (a0 1) 73 τ1).map Prod.fst = (wAr E (a0 2) 73 (σ0 1) ++ wAr E (a0 1) 73 (σ0 0)).map Prod.fst := rfl
theorem hw_105 {E : Ev} {a0 : Nat → Nat} {σ0 : N2} {v0 : UInt32}  {τ1 : N1} : wput (wMd E a0 σ0 v0) [2, 1] (wAr E (a0 2) 73 (σ0 1) ++ wAr E (a0 1) 73 τ1) = wMd E a0 (va_up σ0 0 τ1) v0 := rfl
set_option maxHeartbeats 4000000 in
set_option maxRecDepth 100000 in
theorem kX7_putAll (l : Launch) (E : Ev) (a : Nat → Nat) (μ : N2) (sp : UInt32) (hev : gE μ) (hH : gH μ) (hT : gT μ) : KQ l yX7_putAll cX7_putAll 6 (some .int) 5 111 E [.ref (a 0)] (wMd E a μ sp) (QI E (wMd E a μ sp) (fX7_putAll μ sp).1 (wMd E a ((fX7_putAll μ sp).2) sp)) := by
  refine KQ.mk RX7 rfl (by decide +kernel) (Nat.le_of_ble_eq_true rfl) ?_
  intro p e s m below meth c ls X hr w hl
  have hx := X.1
  have hb := X.2.1
  have hl : lv_has ls 6 [(0, .ref (a 0))] := hl
  refine lv_aload_n hx hb dX7_putAll_0 rfl (lv_at hl 0 rfl) ?_
  refine r_ci w (r_runV (As := []) (rest := []) X w (kX7_fault l E a μ sp hT) ck_X7_198 ⟨Nat.le_of_ble_eq_true rfl, Nat.le_of_ble_eq_true rfl⟩ [0, 1, 2, 3, 4, 5, 6, 7, 8, 9] (hc_81 (E := E)) (by decide +kernel) (k0 := 0) CL7 rfl hl.1 (Nat.le_of_ble_eq_true rfl) rfl dX7_putAll_1 ⟨Nat.le_of_ble_eq_true rfl, Nat.le_of_ble_eq_true rfl⟩) (wMd E a ((fX7_fault μ sp).2) sp) [0, 1, 2, 3, 4, 5, 6, 7, 8, 9] (hc_81 (E := E)) (by decide +kernel) (ha_81 (E := E)) (hw_81 (E := E)) (fun H locs w => ?_)
  refine lv_istore_n (lv' := [(1, .int ((fX7_fault μ sp).1)), (0, .ref (a 0))]) hx hb dX7_putAll_4 rfl hl (by decide) rfl (fun ls hl => ?_)
  refine lv_iload_n hx hb dX7_putAll_5 rfl (lv_at hl 0 rfl) ?_
  refine lv_bipush (v := (-5)) hx hb dX7_putAll_6 (by decide) ?_
  refine lv_icmp_eq (tgt := 16) hx hb dX7_putAll_8 (by decide) (fun c8_1 => ?_) (fun c8_1 => ?_)
  · refine lv_aload_n hx hb dX7_putAll_16 rfl (lv_at hl 1 rfl) ?_
    refine r_cv w (r_runV (As := []) (rest := []) X w (kX7_remember l E a ((fX7_fault μ sp).2) sp ) ck_X7_136 ⟨Nat.le_of_ble_eq_true rfl, Nat.le_of_ble_eq_true rfl⟩ [0, 1, 2, 3, 4, 5, 6, 7, 8, 9] (hc_81 (E := E)) (by decide +kernel) (k0 := 0) CL7 rfl hl.1 (Nat.le_of_ble_eq_true rfl) rfl dX7_putAll_17 ⟨Nat.le_of_ble_eq_true rfl, Nat.le_of_ble_eq_true rfl⟩) (wMd E a (fX7_remember ((fX7_fault μ sp).2) sp) sp) [0, 1, 2, 3, 4, 5, 6, 7, 8, 9] (hc_81 (E := E)) (by decide +kernel) (ha_81 (E := E)) (hw_81 (E := E)) (fun H locs w => ?_)
    refine lv_aload_n hx hb dX7_putAll_20 rfl (lv_at hl 1 rfl) ?_
    refine lv_iconst (v := 0) hx hb dX7_putAll_21 (by decide) ?_
    refine r_put X w (wMd E a (u2 (fX7_remember ((fX7_fault μ sp).2) sp) 9 11 0) sp) CL7 21 (by decide) wf_X7_173 0 rfl rfl rfl rfl (Nat.le_of_ble_eq_true rfl) (ax_96 (E := E)) dX7_putAll_22 (fun H locs w => ?_)
    refine lv_iconst (v := 0) hx hb dX7_putAll_25 (by decide) ?_
    refine lv_istore_n (lv' := [(2, .int 0), (1, .int ((fX7_fault μ sp).1)), (0, .ref (a 0))]) hx hb dX7_putAll_26 rfl hl (by decide) rfl (fun ls hl => ?_)
    refine lv_iconst (v := 1) hx hb dX7_putAll_27 (by decide) ?_
    refine lv_istore_n (lv' := [(3, .int 1), (2, .int 0), (1, .int ((fX7_fault μ sp).1)), (0, .ref (a 0))]) hx hb dX7_putAll_28 rfl hl (by decide) rfl (fun ls hl => ?_)
    have loop : ∀ (n : Nat) (μ1 : N2) (cn mo : Int32), paJ μ1 → (1 ≤ n ∧ (¬ mo = 0 → (μ1 9 10).toInt - (μ1 9 11).toInt + 2 ≤ (n : Int))) → paM sp n cn mo μ1 = paF μ sp → ∀ (H : Heap) (locs : List Loc), Wd E (hB (wMd E a μ sp)) s (wMd E a μ1 sp) H locs → ∀ (ls : Array Slot), lv_has ls 6 [(3, .int mo), (2, .int cn), (1, .int ((fX7_fault μ sp).1)), (0, .ref (a 0))] → W p l e { frames := 5, cells := 0, slots := 0, locals := 111 } s m (([.ref (a 0)] : List Value)).toArray below meth c H locs 0 0 (MQ below (QI E (wMd E a μ sp) (fX7_putAll μ sp).1 (wMd E a ((fX7_putAll μ sp).2) sp)) (([.ref (a 0)] : List Value)).toArray s 0 0 (hB (wMd E a μ sp))) (F0 m 29 ls []) := by
      intro n
      induction n with
      | zero =>
        intro μ1 cn mo hJ hM hR H locs w ls hl
        refine lv_iload_n hx hb dX7_putAll_29 rfl (lv_at hl 0 rfl) ?_
        exact absurd hM.1 (Nat.not_succ_le_zero _)
      | succ n ih =>
        intro μ1 cn mo hJ hM hR H locs w ls hl
        refine lv_iload_n hx hb dX7_putAll_29 rfl (lv_at hl 0 rfl) ?_
        refine lv_if_eq (tgt := 85) hx hb dX7_putAll_30 (by decide) (fun c30_2 => ?_) (fun c30_2 => ?_)
        · refine lv_aload_n hx hb dX7_putAll_85 rfl (lv_at hl 3 rfl) ?_
          refine lv_iload_n hx hb dX7_putAll_86 rfl (lv_at hl 1 rfl) ?_
          refine r_ci w (r_runV (As := [.int cn]) (rest := []) X w (kX7_acted l E a μ1 sp cn hJ.2.2.2) ck_X7_142 ⟨Nat.le_of_ble_eq_true rfl, Nat.le_of_ble_eq_true rfl⟩ [0, 1, 2, 3, 4, 5, 6, 7, 8, 9] (hc_81 (E := E)) (by decide +kernel) (k0 := 0) CL7 rfl hl.1 (Nat.le_of_ble_eq_true rfl) rfl dX7_putAll_87 ⟨Nat.le_of_ble_eq_true rfl, Nat.le_of_ble_eq_true rfl⟩) (wMd E a ((fX7_acted μ1 sp cn).2) sp) [0, 1, 2, 3, 4, 5, 6, 7, 8, 9] (hc_81 (E := E)) (by decide +kernel) (ha_81 (E := E)) (hw_81 (E := E)) (fun H locs w => ?_)
          have hq : fX7_putAll μ sp = ((fX7_acted μ1 sp cn).1, (fX7_acted μ1 sp cn).2) := by have hq2 := hR; simp only [paM, if_pos c30_2] at hq2; simp only [fX7_putAll, if_pos c8_1, ← hq2]; try rfl
          obtain ⟨h0_, h1_⟩ := tup2 hq
          rw [h0_, h1_]
          exact r_iret X w hr rfl dX7_putAll_90
        · refine lv_aload_n hx hb dX7_putAll_33 rfl (lv_at hl 3 rfl) ?_
          refine r_ci w (r_runV (As := []) (rest := []) X w (kX7_readsBall l E a μ1 sp hJ.1 hJ.2.1) ck_X7_194 ⟨Nat.le_of_ble_eq_true rfl, Nat.le_of_ble_eq_true rfl⟩ [0, 1, 2, 3, 4, 5, 6, 7, 8, 9] (hc_81 (E := E)) (by decide +kernel) (k0 := 0) CL7 rfl hl.1 (Nat.le_of_ble_eq_true rfl) rfl dX7_putAll_34 ⟨Nat.le_of_ble_eq_true rfl, Nat.le_of_ble_eq_true rfl⟩) (wMd E a ((fX7_readsBall μ1 sp).2) sp) [0, 1, 2, 3, 4, 5, 6, 7, 8, 9] (hc_81 (E := E)) (by decide +kernel) (ha_81 (E := E)) (hw_81 (E := E)) (fun H locs w => ?_)
          refine lv_istore (lv' := [(4, .int ((fX7_readsBall μ1 sp).1)), (3, .int mo), (2, .int cn), (1, .int ((fX7_fault μ sp).1)), (0, .ref (a 0))]) hx hb dX7_putAll_37 hl (by decide) rfl (fun ls hl => ?_)
          refine lv_aload_n hx hb dX7_putAll_39 rfl (lv_at hl 4 rfl) ?_
          refine lv_aload_n hx hb dX7_putAll_40 rfl (lv_at hl 4 rfl) ?_
          refine r_get X w CL7 23 (by decide) wf_X7_185 0 rfl rfl dX7_putAll_41 ?_
          refine lv_aload_n hx hb dX7_putAll_44 rfl (lv_at hl 4 rfl) ?_
          refine r_get X w CL7 24 (by decide) wf_X7_191 0 rfl rfl dX7_putAll_45 ?_
          refine r_ci w (r_runV (As := [.int (((fX7_readsBall μ1 sp).2) 9 13), .int (((fX7_readsBall μ1 sp).2) 9 14)]) (rest := []) X w (kX7_puts l E a ((fX7_readsBall μ1 sp).2) sp (((fX7_readsBall μ1 sp).2) 9 13) (((fX7_readsBall μ1 sp).2) 9 14) ((ball_ok (sp := sp) hJ.1 hJ.2.1).1.ev hJ.2.2.1)) ck_X7_139 ⟨Nat.le_of_ble_eq_true rfl, Nat.le_of_ble_eq_true rfl⟩ [0, 1, 2, 3, 4, 5, 6, 7, 8, 9] (hc_81 (E := E)) (by decide +kernel) (k0 := 0) CL7 rfl hl.1 (Nat.le_of_ble_eq_true rfl) rfl dX7_putAll_48 ⟨Nat.le_of_ble_eq_true rfl, Nat.le_of_ble_eq_true rfl⟩) (wMd E a ((fX7_puts ((fX7_readsBall μ1 sp).2) sp (((fX7_readsBall μ1 sp).2) 9 13) (((fX7_readsBall μ1 sp).2) 9 14)).2) sp) [0, 1, 2, 3, 4, 5, 6, 7, 8, 9] (hc_81 (E := E)) (by decide +kernel) (ha_81 (E := E)) (hw_81 (E := E)) (fun H locs w => ?_)
          refine lv_istore (lv' := [(5, .int ((fX7_puts ((fX7_readsBall μ1 sp).2) sp (((fX7_readsBall μ1 sp).2) 9 13) (((fX7_readsBall μ1 sp).2) 9 14)).1)), (4, .int ((fX7_readsBall μ1 sp).1)), (3, .int mo), (2, .int cn), (1, .int ((fX7_fault μ sp).1)), (0, .ref (a 0))]) hx hb dX7_putAll_51 hl (by decide) rfl (fun ls hl => ?_)
          refine lv_iload hx hb dX7_putAll_53 (lv_at hl 0 rfl) ?_
          refine lv_if_ge (tgt := 72) hx hb dX7_putAll_55 (by decide) (fun c55_3 => ?_) (fun c55_3 => ?_)
          · refine lv_iinc (v := cn + 1) (lv' := [(2, .int (cn + 1)), (5, .int ((fX7_puts ((fX7_readsBall μ1 sp).2) sp (((fX7_readsBall μ1 sp).2) 9 13) (((fX7_readsBall μ1 sp).2) 9 14)).1)), (4, .int ((fX7_readsBall μ1 sp).1)), (3, .int mo), (1, .int ((fX7_fault μ sp).1)), (0, .ref (a 0))]) hx hb dX7_putAll_72 hl (k := 3) rfl (by first | rfl | decide) (by decide) rfl (fun ls hl => ?_)
            refine lv_aload_n hx hb dX7_putAll_75 rfl (lv_at hl 5 rfl) ?_
            refine lv_bipush (v := 59) hx hb dX7_putAll_76 (by decide) ?_
            refine r_ci w (r_runV (As := [.int 59]) (rest := []) X w (kX7_takes l E a ((fX7_puts ((fX7_readsBall μ1 sp).2) sp (((fX7_readsBall μ1 sp).2) 9 13) (((fX7_readsBall μ1 sp).2) 9 14)).2) sp 59 (paB_ok (sp := sp) hJ).1.1 (paB_ok (sp := sp) hJ).1.2.1.1) ck_X7_188 ⟨Nat.le_of_ble_eq_true rfl, Nat.le_of_ble_eq_true rfl⟩ [0, 1, 2, 3, 4, 5, 6, 7, 8, 9] (hc_81 (E := E)) (by decide +kernel) (k0 := 0) CL7 rfl hl.1 (Nat.le_of_ble_eq_true rfl) rfl dX7_putAll_78 ⟨Nat.le_of_ble_eq_true rfl, Nat.le_of_ble_eq_true rfl⟩) (wMd E a ((fX7_takes ((fX7_puts ((fX7_readsBall μ1 sp).2) sp (((fX7_readsBall μ1 sp).2) 9 13) (((fX7_readsBall μ1 sp).2) 9 14)).2) sp 59).2) sp) [0, 1, 2, 3, 4, 5, 6, 7, 8, 9] (hc_81 (E := E)) (by decide +kernel) (ha_81 (E := E)) (hw_81 (E := E)) (fun H locs w => ?_)
            refine lv_istore_n (lv' := [(3, .int ((fX7_takes ((fX7_puts ((fX7_readsBall μ1 sp).2) sp (((fX7_readsBall μ1 sp).2) 9 13) (((fX7_readsBall μ1 sp).2) 9 14)).2) sp 59).1)), (2, .int (cn + 1)), (5, .int ((fX7_puts ((fX7_readsBall μ1 sp).2) sp (((fX7_readsBall μ1 sp).2) 9 13) (((fX7_readsBall μ1 sp).2) 9 14)).1)), (4, .int ((fX7_readsBall μ1 sp).1)), (1, .int ((fX7_fault μ sp).1)), (0, .ref (a 0))]) hx hb dX7_putAll_81 rfl hl (by decide) rfl (fun ls hl => ?_)
            refine lv_goto (tgt := 29) hx hb dX7_putAll_82 (by decide) ?_
            exact ih _ _ _ (paT_ok hJ ⟨hM.1, hM.2 c30_2⟩).1 (paT_ok (sp := sp) hJ ⟨hM.1, hM.2 c30_2⟩).2 (by rw [← hR]; simp only [paM, if_neg c30_2, if_pos c55_3]; try rfl) _ _ w ls (lv_sub hl [0, 1, 4, 5] rfl)
          · refine lv_aload_n hx hb dX7_putAll_58 rfl (lv_at hl 5 rfl) ?_
            refine r_get X w CL7 1 (by decide) wf_X7_13 0 rfl rfl dX7_putAll_59 ?_
            refine lv_aload_n hx hb dX7_putAll_62 rfl (lv_at hl 5 rfl) ?_
            refine r_get X w CL7 0 (by decide) wf_X7_7 0 rfl rfl dX7_putAll_63 ?_
            refine r_cv w (r_runS (As := [.ref (a 2), .ref (a 1)]) (rest := []) X w (kX7_copy l E (a 2) (((fX7_puts ((fX7_readsBall μ1 sp).2) sp (((fX7_readsBall μ1 sp).2) 9 13) (((fX7_readsBall μ1 sp).2) 9 14)).2) 1) (a 1) (((fX7_puts ((fX7_readsBall μ1 sp).2) sp (((fX7_readsBall μ1 sp).2) 9 13) (((fX7_readsBall μ1 sp).2) 9 14)).2) 0) ) ck_X7_45 ⟨Nat.le_of_ble_eq_true rfl, Nat.le_of_ble_eq_true rfl⟩ [2, 1] (hc_105 (E := E)) (by decide +kernel) hl.1 (Nat.le_of_ble_eq_true rfl) rfl dX7_putAll_66 ⟨Nat.le_of_ble_eq_true rfl, Nat.le_of_ble_eq_true rfl⟩) (wMd E a (va_up ((fX7_puts ((fX7_readsBall μ1 sp).2) sp (((fX7_readsBall μ1 sp).2) 9 13) (((fX7_readsBall μ1 sp).2) 9 14)).2) 0 (fX7_copy (((fX7_puts ((fX7_readsBall μ1 sp).2) sp (((fX7_readsBall μ1 sp).2) 9 13) (((fX7_readsBall μ1 sp).2) 9 14)).2) 1) (((fX7_puts ((fX7_readsBall μ1 sp).2) sp (((fX7_readsBall μ1 sp).2) 9 13) (((fX7_readsBall μ1 sp).2) 9 14)).2) 0))) sp) [2, 1] (hc_105 (E := E)) (by decide +kernel) (ha_105 (E := E)) (hw_105 (E := E)) (fun H locs w => ?_)
            refine lv_iload hx hb dX7_putAll_69 (lv_at hl 0 rfl) ?_
            have hq : fX7_putAll μ sp = ((fX7_puts ((fX7_readsBall μ1 sp).2) sp (((fX7_readsBall μ1 sp).2) 9 13) (((fX7_readsBall μ1 sp).2) 9 14)).1, va_up ((fX7_puts ((fX7_readsBall μ1 sp).2) sp (((fX7_readsBall μ1 sp).2) 9 13) (((fX7_readsBall μ1 sp).2) 9 14)).2) 0 (fX7_copy (((fX7_puts ((fX7_readsBall μ1 sp).2) sp (((fX7_readsBall μ1 sp).2) 9 13) (((fX7_readsBall μ1 sp).2) 9 14)).2) 1) (((fX7_puts ((fX7_readsBall μ1 sp).2) sp (((fX7_readsBall μ1 sp).2) 9 13) (((fX7_readsBall μ1 sp).2) 9 14)).2) 0))) := by have hq2 := hR; simp only [paM, if_neg c30_2, if_neg c55_3] at hq2; simp only [fX7_putAll, if_pos c8_1, ← hq2]; try rfl
            obtain ⟨h0_, h1_⟩ := tup2 hq
            rw [h0_, h1_]
            exact r_iret X w hr rfl dX7_putAll_71
    exact loop 64 _ _ _ (pa0 hev hH hT).1 (pa0 hev hH hT).2 rfl _ _ w ls (lv_sub hl [0, 1, 2, 3] rfl)
  · refine lv_bipush (v := (-100)) hx hb dX7_putAll_11 (by decide) ?_
    refine lv_iload_n hx hb dX7_putAll_13 rfl (lv_at hl 0 rfl) ?_
    refine lv_isub hx hb dX7_putAll_14 ?_
    have hq : fX7_putAll μ sp = ((-100) - ((fX7_fault μ sp).1), (fX7_fault μ sp).2) := by simp only [fX7_putAll, if_neg c8_1]
    obtain ⟨h0_, h1_⟩ := tup2 hq
    rw [h0_, h1_]
    exact r_iret X w hr rfl dX7_putAll_15
