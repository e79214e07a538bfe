/-! the reference: fault (printed by wip/whole/gen/p20.py) -/
/-- the texts' faults: n is fuel; the state behind, the more of the loop -/
def ftN (sp : UInt32) : Nat → Int32 → N2 → Int32 × N2
  | 0, _, μ => (0, μ)
  | n + 1, mo, μ => if mo = 0 then (if μ 9 11 = μ 9 10 then (-5) else μ 9 11, μ) else if (fX7_readsBall μ sp).1 = 0 then ((fX7_readsBall μ sp).2 9 11, (fX7_readsBall μ sp).2) else ftN sp n (fX7_takes (fX7_readsBall μ sp).2 sp 59).1 (fX7_takes (fX7_readsBall μ sp).2 sp 59).2
def fX7_fault (μ : N2) (sp : UInt32) : Int32 × N2 := ftN sp 64 1 (u2 μ 9 11 0)
theorem ft0 {μ : N2} (hT : gT μ) : gT (u2 μ 9 11 0) ∧ gS (u2 μ 9 11 0) ∧ ((u2 μ 9 11 0) 9 10).toInt - ((u2 μ 9 11 0) 9 11).toInt + 2 ≤ ((64 : Nat) : Int) := by
  have a : (u2 μ 9 11 0) 9 10 = μ 9 10 := by rw [u2_at, if_neg (by decide)]
  have b : (u2 μ 9 11 0) 9 11 = 0 := by rw [u2_at, if_pos rfl]
  have e0 : (0 : Int32).toInt = 0 := rfl
  unfold gT gS
  rw [a, b, e0]
  have h1 := hT.1
  have h2 := hT.2
  exact ⟨⟨h1, h2⟩, ⟨Int.le_refl _, h1⟩, by omega⟩
theorem dX7_fault_0 : decode cX7_fault 0 = .ok (.aload_n 0, 1) := by decide +kernel
theorem dX7_fault_1 : decode cX7_fault 1 = .ok (.iconst 0, 1) := by decide +kernel
theorem dX7_fault_2 : decode cX7_fault 2 = .ok (.putfield 173, 3) := by decide +kernel
theorem dX7_fault_5 : decode cX7_fault 5 = .ok (.iconst 1, 1) := by decide +kernel
theorem dX7_fault_6 : decode cX7_fault 6 = .ok (.istore_n 1, 1) := by decide +kernel
theorem dX7_fault_7 : decode cX7_fault 7 = .ok (.iload_n 1, 1) := by decide +kernel
theorem dX7_fault_8 : decode cX7_fault 8 = .ok (.ifCond .eq 25, 3) := by decide +kernel
theorem dX7_fault_11 : decode cX7_fault 11 = .ok (.aload_n 0, 1) := by decide +kernel
theorem dX7_fault_12 : decode cX7_fault 12 = .ok (.invokevirtual 194, 3) := by decide +kernel
theorem dX7_fault_15 : decode cX7_fault 15 = .ok (.ifCond .ne 8, 3) := by decide +kernel
theorem dX7_fault_18 : decode cX7_fault 18 = .ok (.aload_n 0, 1) := by decide +kernel
theorem dX7_fault_19 : decode cX7_fault 19 = .ok (.getfield 173, 3) := by decide +kernel
theorem dX7_fault_22 : decode cX7_fault 22 = .ok (.ireturn, 1) := by decide +kernel
theorem dX7_fault_23 : decode cX7_fault 23 = .ok (.aload_n 0, 1) := by decide +kernel
theorem dX7_fault_24 : decode cX7_fault 24 = .ok (.bipush 59, 2) := by decide +kernel
theorem dX7_fault_26 : decode cX7_fault 26 = .ok (.invokevirtual 188, 3) := by decide +kernel
theorem dX7_fault_29 : decode cX7_fault 29 = .ok (.istore_n 1, 1) := by decide +kernel
theorem dX7_fault_30 : decode cX7_fault 30 = .ok (.goto (-23), 3) := by decide +kernel
theorem dX7_fault_33 : decode cX7_fault 33 = .ok (.aload_n 0, 1) := by decide +kernel
theorem dX7_fault_34 : decode cX7_fault 34 = .ok (.getfield 173, 3) := by decide +kernel
theorem dX7_fault_37 : decode cX7_fault 37 = .ok (.aload_n 0, 1) := by decide +kernel
theorem dX7_fault_38 : decode cX7_fault 38 = .ok (.getfield 170, 3) := by decide +kernel
theorem dX7_fault_41 : decode cX7_fault 41 = .ok (.if_icmp .ne 8, 3) := by decide +kernel
theorem dX7_fault_44 : decode cX7_fault 44 = .ok (.bipush (-5), 2) := by decide +kernel
theorem dX7_fault_46 : decode cX7_fault 46 = .ok (.goto 7, 3) := by decide +kernel
theorem dX7_fault_49 : decode cX7_fault 49 = .ok (.aload_n 0, 1) := by decide +kernel
theorem dX7_fault_50 : decode cX7_fault 50 = .ok (.getfield 173, 3) := by decide +kernel
theorem dX7_fault_53 : decode cX7_fault 53 = .ok (.ireturn, 1) := by decide +kernel
theorem ck_X7_194 : CkV RX7 194 RX7 yX7_readsBall cX7_readsBall 2 (some .boolean) 0 := ⟨wm_X7_194, wim_yX7_readsBall, wse_yX7_readsBall, wi_X7, wc_yX7_readsBall, by decide +kernel⟩
set_option maxHeartbeats 4000000 in
set_option maxRecDepth 100000 in
theorem kX7_fault (l : Launch) (E : Ev) (a : Nat → Nat) (μ : N2) (sp : UInt32) (hT : gT μ) : KQ l yX7_fault cX7_fault 2 (some .int) 4 90 E [.ref (a 0)] (wMd E a μ sp) (QI E (wMd E a μ sp) (fX7_fault μ sp).1 (wMd E a ((fX7_fault μ sp).2) sp)) := by
  refine KQ.mk RX7 rfl (by decide +kernel) (Nat.le_of_ble_eq_true rfl) ?_
  intro p e s m below meth c ls X hr w hl
  have hx := X.1
  have hb := X.2.1
  have hl : lv_has ls 2 [(0, .ref (a 0))] := hl
  refine lv_aload_n hx hb dX7_fault_0 rfl (lv_at hl 0 rfl) ?_
  refine lv_iconst (v := 0) hx hb dX7_fault_1 (by decide) ?_
  refine r_put X w (wMd E a (u2 μ 9 11 0) sp) CL7 21 (by decide) wf_X7_173 0 rfl rfl rfl rfl (Nat.le_of_ble_eq_true rfl) (ax_96 (E := E)) dX7_fault_2 (fun H locs w => ?_)
  refine lv_iconst (v := 1) hx hb dX7_fault_5 (by decide) ?_
  refine lv_istore_n (lv' := [(1, .int 1), (0, .ref (a 0))]) hx hb dX7_fault_6 rfl hl (by decide) rfl (fun ls hl => ?_)
  have loop : ∀ (n : Nat) (μ1 : N2) (mo : Int32), gT μ1 → gS μ1 → (μ1 9 10).toInt - (μ1 9 11).toInt + 2 ≤ (n : Int) → ftN sp n mo μ1 = fX7_fault μ sp → ∀ (H : Heap) (locs : List Loc), Wd E (hB (wMd E a μ sp)) s (wMd E a μ1 sp) H locs → ∀ (ls : Array Slot), lv_has ls 2 [(1, .int mo), (0, .ref (a 0))] → W p l e { frames := 4, cells := 0, slots := 0, locals := 90 } s m (([.ref (a 0)] : List Value)).toArray below meth c H locs 0 0 (MQ below (QI E (wMd E a μ sp) (fX7_fault μ sp).1 (wMd E a ((fX7_fault μ sp).2) sp)) (([.ref (a 0)] : List Value)).toArray s 0 0 (hB (wMd E a μ sp))) (F0 m 7 ls []) := by
    intro n
    induction n with
    | zero =>
      intro μ1 mo hT1 hS1 hM hR H locs w ls hl
      refine lv_iload_n hx hb dX7_fault_7 rfl (lv_at hl 0 rfl) ?_
      exact absurd hM (by have := hS1.2; omega)
    | succ n ih =>
      intro μ1 mo hT1 hS1 hM hR H locs w ls hl
      refine lv_iload_n hx hb dX7_fault_7 rfl (lv_at hl 0 rfl) ?_
      refine lv_if_eq (tgt := 33) hx hb dX7_fault_8 (by decide) (fun c8_1 => ?_) (fun c8_1 => ?_)
      · refine lv_aload_n hx hb dX7_fault_33 rfl (lv_at hl 1 rfl) ?_
        refine r_get X w CL7 21 (by decide) wf_X7_173 0 rfl rfl dX7_fault_34 ?_
        refine lv_aload_n hx hb dX7_fault_37 rfl (lv_at hl 1 rfl) ?_
        refine r_get X w CL7 20 (by decide) wf_X7_170 0 rfl rfl dX7_fault_38 ?_
        refine lv_icmp_ne (tgt := 49) hx hb dX7_fault_41 (by decide) (fun c41_2 => ?_) (fun c41_2 => ?_)
        · refine lv_aload_n hx hb dX7_fault_49 rfl (lv_at hl 1 rfl) ?_
          refine r_get X w CL7 21 (by decide) wf_X7_173 0 rfl rfl dX7_fault_50 ?_
          have hq : fX7_fault μ sp = (μ1 9 11, μ1) := by rw [← hR]; simp only [ftN, if_pos c8_1, if_neg c41_2]
          obtain ⟨h0_, h1_⟩ := tup2 hq
          rw [h0_, h1_]
          exact r_iret X w hr rfl dX7_fault_53
        · refine lv_bipush (v := (-5)) hx hb dX7_fault_44 (by decide) ?_
          refine lv_goto (tgt := 53) hx hb dX7_fault_46 (by decide) ?_
          have hq : fX7_fault μ sp = ((-5), μ1) := by rw [← hR]; simp only [ftN, if_pos c8_1, if_pos c41_2]
          obtain ⟨h0_, h1_⟩ := tup2 hq
          rw [h0_, h1_]
          exact r_iret X w hr rfl dX7_fault_53
      · refine lv_aload_n hx hb dX7_fault_11 rfl (lv_at hl 1 rfl) ?_
        refine r_ci w (r_runV (As := []) (rest := []) X w (kX7_readsBall l E a μ1 sp hT1 hS1) ck_X7_194 ⟨Nat.le_of_ble_eq_true rfl, Nat.le_of_ble_eq_true rfl⟩ [0, 1, 2, 3, 4, 5, 6, 7, 8, 9] (hc_81 (E := E)) (by decide +kernel) (k0 := 0) CL7 rfl hl.1 (Nat.le_of_ble_eq_true rfl) rfl dX7_fault_12 ⟨Nat.le_of_ble_eq_true rfl, Nat.le_of_ble_eq_true rfl⟩) (wMd E a ((fX7_readsBall μ1 sp).2) sp) [0, 1, 2, 3, 4, 5, 6, 7, 8, 9] (hc_81 (E := E)) (by decide +kernel) (ha_81 (E := E)) (hw_81 (E := E)) (fun H locs w => ?_)
        refine lv_if_ne (tgt := 23) hx hb dX7_fault_15 (by decide) (fun c15_3 => ?_) (fun c15_3 => ?_)
        · refine lv_aload_n hx hb dX7_fault_23 rfl (lv_at hl 1 rfl) ?_
          refine lv_bipush (v := 59) hx hb dX7_fault_24 (by decide) ?_
          refine r_ci w (r_runV (As := [.int 59]) (rest := []) X w (kX7_takes l E a ((fX7_readsBall μ1 sp).2) sp 59 ((ball_ok (sp := sp) hT1 hS1).1.tx hT1) ((ball_ok (sp := sp) hT1 hS1).1.sp hS1).1) ck_X7_188 ⟨Nat.le_of_ble_eq_true rfl, Nat.le_of_ble_eq_true rfl⟩ [0, 1, 2, 3, 4, 5, 6, 7, 8, 9] (hc_81 (E := E)) (by decide +kernel) (k0 := 0) CL7 rfl hl.1 (Nat.le_of_ble_eq_true rfl) rfl dX7_fault_26 ⟨Nat.le_of_ble_eq_true rfl, Nat.le_of_ble_eq_true rfl⟩) (wMd E a ((fX7_takes ((fX7_readsBall μ1 sp).2) sp 59).2) sp) [0, 1, 2, 3, 4, 5, 6, 7, 8, 9] (hc_81 (E := E)) (by decide +kernel) (ha_81 (E := E)) (hw_81 (E := E)) (fun H locs w => ?_)
          refine lv_istore_n (lv' := [(1, .int ((fX7_takes ((fX7_readsBall μ1 sp).2) sp 59).1)), (0, .ref (a 0))]) hx hb dX7_fault_29 rfl hl (by decide) rfl (fun ls hl => ?_)
          refine lv_goto (tgt := 7) hx hb dX7_fault_30 (by decide) ?_
          have hB := ball_ok (sp := sp) hT1 hS1
          have hTk := takes_ok (sp := sp) (ch := 59) (hB.1.tx hT1) (hB.1.sp hS1)
          exact ih _ _ (hTk.1.tx (hB.1.tx hT1)) (hTk.1.sp (hB.1.sp hS1)) (by have a1 := hB.2 c15_3; have b1 := hTk.1.2.2.1; rw [hTk.1.2.1 10 (by decide), hB.1.2.1 10 (by decide)]; omega) (by rw [← hR]; simp only [ftN, if_neg c8_1, if_neg c15_3]) _ _ w ls (lv_sub hl [0, 1] rfl)
        · refine lv_aload_n hx hb dX7_fault_18 rfl (lv_at hl 1 rfl) ?_
          refine r_get X w CL7 21 (by decide) wf_X7_173 0 rfl rfl dX7_fault_19 ?_
          have hq : fX7_fault μ sp = (((fX7_readsBall μ1 sp).2) 9 11, (fX7_readsBall μ1 sp).2) := by rw [← hR]; simp only [ftN, if_neg c8_1, if_pos c15_3]
          obtain ⟨h0_, h1_⟩ := tup2 hq
          rw [h0_, h1_]
          exact r_iret X w hr rfl dX7_fault_22
  exact loop 64 _ _ (ft0 hT).1 (ft0 hT).2.1 (ft0 hT).2.2 rfl _ _ w ls (lv_sub hl [0, 1] rfl)
