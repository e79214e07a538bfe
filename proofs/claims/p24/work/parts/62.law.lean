/-! p24: the law: its loop, from its entry to its end (printed by wip/p24/p62.py) -/
theorem nnI {k : Nat} (h : k < 900) : 0 ≤ (nI k).toInt := by
  rw [toI (by omega)]
  omega
theorem nnS {k : Nat} (h : k < 800) : 0 ≤ (nI k + 1).toInt := by
  rw [nI_s (by omega)]
  exact nnI (show k + 1 < 900 by omega)
section LL
variable {p : Program} {l : Launch} {e : Env} {s : State} {m : MethodId} {b L : Nat} {xs : Nat → Int32} {below : List Frame} {meth : Method} {c : Code} {E : Ev} {A B : Ad}
theorem dL_law_21 : decode code 21 = .ok (.iload 4, 2) := by decide +kernel
theorem dL_law_23 : decode code 23 = .ok (.bipush 48, 2) := by decide +kernel
theorem dL_law_25 : decode code 25 = .ok (.if_icmp .ge 67, 3) := by decide +kernel
theorem dL_law_28 : decode code 28 = .ok (.iload_n 3, 1) := by decide +kernel
theorem dL_law_29 : decode code 29 = .ok (.ifCond .eq 63, 3) := by decide +kernel
theorem dL_law_32 : decode code 32 = .ok (.aload_n 1, 1) := by decide +kernel
theorem dL_law_33 : decode code 33 = .ok (.aload_n 2, 1) := by decide +kernel
theorem dL_law_34 : decode code 34 = .ok (.aload_n 0, 1) := by decide +kernel
theorem dL_law_35 : decode code 35 = .ok (.iload 4, 2) := by decide +kernel
theorem dL_law_37 : decode code 37 = .ok (.invokestatic 96, 3) := by decide +kernel
theorem dL_law_40 : decode code 40 = .ok (.aload_n 0, 1) := by decide +kernel
theorem dL_law_41 : decode code 41 = .ok (.iload 4, 2) := by decide +kernel
theorem dL_law_43 : decode code 43 = .ok (.iconst 1, 1) := by decide +kernel
theorem dL_law_44 : decode code 44 = .ok (.iadd, 1) := by decide +kernel
theorem dL_law_45 : decode code 45 = .ok (.invokestatic 96, 3) := by decide +kernel
theorem dL_law_48 : decode code 48 = .ok (.iconst 2, 1) := by decide +kernel
theorem dL_law_49 : decode code 49 = .ok (.ishr, 1) := by decide +kernel
theorem dL_law_50 : decode code 50 = .ok (.invokestatic 99, 3) := by decide +kernel
theorem dL_law_53 : decode code 53 = .ok (.ifCond .eq 31, 3) := by decide +kernel
theorem dL_law_56 : decode code 56 = .ok (.iload 4, 2) := by decide +kernel
theorem dL_law_58 : decode code 58 = .ok (.bipush 6, 2) := by decide +kernel
theorem dL_law_60 : decode code 60 = .ok (.irem, 1) := by decide +kernel
theorem dL_law_61 : decode code 61 = .ok (.ifCond .gt 19, 3) := by decide +kernel
theorem dL_law_64 : decode code 64 = .ok (.aload_n 1, 1) := by decide +kernel
theorem dL_law_65 : decode code 65 = .ok (.aload_n 0, 1) := by decide +kernel
theorem dL_law_66 : decode code 66 = .ok (.iload 4, 2) := by decide +kernel
theorem dL_law_68 : decode code 68 = .ok (.invokestatic 96, 3) := by decide +kernel
theorem dL_law_71 : decode code 71 = .ok (.bipush 7, 2) := by decide +kernel
theorem dL_law_73 : decode code 73 = .ok (.ishr, 1) := by decide +kernel
theorem dL_law_74 : decode code 74 = .ok (.invokestatic 103, 3) := by decide +kernel
theorem dL_law_77 : decode code 77 = .ok (.ifCond .eq 7, 3) := by decide +kernel
theorem dL_law_80 : decode code 80 = .ok (.iconst 1, 1) := by decide +kernel
theorem dL_law_81 : decode code 81 = .ok (.goto 4, 3) := by decide +kernel
theorem dL_law_85 : decode code 85 = .ok (.istore_n 3, 1) := by decide +kernel
theorem dL_law_86 : decode code 86 = .ok (.iinc 4 1, 3) := by decide +kernel
theorem dL_law_89 : decode code 89 = .ok (.goto (-68), 3) := by decide +kernel
theorem dL_law_92 : decode code 92 = .ok (.iload_n 3, 1) := by decide +kernel
theorem dL_law_93 : decode code 93 = .ok (.ifCond .eq 36, 3) := by decide +kernel
theorem dL_law_96 : decode code 96 = .ok (.aload_n 1, 1) := by decide +kernel
theorem dL_law_97 : decode code 97 = .ok (.aload_n 0, 1) := by decide +kernel
theorem dL_law_98 : decode code 98 = .ok (.bipush 48, 2) := by decide +kernel
theorem dL_law_100 : decode code 100 = .ok (.invokestatic 96, 3) := by decide +kernel
theorem dL_law_103 : decode code 103 = .ok (.invokestatic 103, 3) := by decide +kernel
theorem dL_law_106 : decode code 106 = .ok (.ifCond .eq 23, 3) := by decide +kernel
theorem dL_law_109 : decode code 109 = .ok (.aload_n 1, 1) := by decide +kernel
theorem dL_law_110 : decode code 110 = .ok (.aload_n 2, 1) := by decide +kernel
theorem dL_law_111 : decode code 111 = .ok (.aload_n 0, 1) := by decide +kernel
theorem dL_law_112 : decode code 112 = .ok (.bipush 49, 2) := by decide +kernel
theorem dL_law_114 : decode code 114 = .ok (.invokestatic 96, 3) := by decide +kernel
theorem dL_law_117 : decode code 117 = .ok (.iconst 3, 1) := by decide +kernel
theorem dL_law_118 : decode code 118 = .ok (.ishr, 1) := by decide +kernel
theorem dL_law_119 : decode code 119 = .ok (.invokestatic 106, 3) := by decide +kernel
theorem dL_law_122 : decode code 122 = .ok (.ifCond .eq 7, 3) := by decide +kernel
theorem dL_law_125 : decode code 125 = .ok (.iconst 1, 1) := by decide +kernel
theorem dL_law_126 : decode code 126 = .ok (.goto 4, 3) := by decide +kernel
theorem dL_law_130 : decode code 130 = .ok (.ireturn, 1) := by decide +kernel
theorem ck_L_99 : CkS RL 99 yL_isStep cL_isStep 12 (some .boolean) 4 := ⟨wm_L_99, wst_yL_isStep, wi_L, wc_yL_isStep, by decide +kernel⟩
theorem ck_L_103 : CkS RL 103 yL_isWell cL_isWell 11 (some .boolean) 2 := ⟨wm_L_103, wst_yL_isWell, wi_L, wc_yL_isWell, by decide +kernel⟩
theorem ck_L_106 : CkS RL 106 yL_areAlike cL_areAlike 8 (some .boolean) 3 := ⟨wm_L_106, wst_yL_areAlike, wi_L, wc_yL_areAlike, by decide +kernel⟩
set_option maxHeartbeats 4000000 in
set_option maxRecDepth 100000 in
theorem law_loop (X : Cx p m meth c code 5 s #[Value.ref b] RL E (lwA s)) (hX : va_X b L xs s s.heap) (hbl : b < s.heap.size) (hL : L ≤ 260) (hr : meth.sig.returnType = ret) (hlocks : meth.locks = false) : ∀ (n k : Nat), k + n = 48 → ∀ (f : N1) (S T : So) (H : Heap) (locs : List Loc) (ls : Array Slot), BI k f S T → Wd E (lwA s) s (wOb E A S ++ wOb E B T) H locs → lv_has ls 5 [(4, .int (nI k)), (3, .int 1), (2, .ref (adH B)), (1, .ref (adH A)), (0, .ref b)] → W p l e room_1 s m #[Value.ref b] below meth c H locs 144 2208 (lw_Z below #[Value.ref b] s) (F0 m 21 ls []) := by
  have hx := X.1
  have hb := X.2.1
  have hbA : ¬ lwA s b := lwA_out s b hbl
  intro n
  induction n with
  | zero =>
    intro k hk f S T H locs ls hI w hl
    obtain rfl : k = 48 := by omega
    refine lv_iload hx hb dL_law_21 (lv_at hl 0 rfl) ?_
    refine lv_bipush (v := 48) hx hb dL_law_23 (by decide) ?_
    refine lv_icmp_ge (tgt := 92) hx hb dL_law_25 (by decide) (fun _ => ?_) (fun h => absurd (by decide : (48 : Int32) ≤ nI 48) h)
    refine lv_iload_n hx hb dL_law_92 rfl (lv_at hl 1 rfl) ?_
    refine lv_if_eq (tgt := 129) hx hb dL_law_93 (by decide) (fun h => absurd h (by decide)) (fun _ => ?_)
    refine lv_aload_n hx hb dL_law_96 rfl (lv_at hl 3 rfl) ?_
    refine lv_aload_n hx hb dL_law_97 rfl (lv_at hl 4 rfl) ?_
    refine lv_bipush (v := 48) hx hb dL_law_98 (by decide) ?_
    refine r_ce w (r_runX (As := [.ref b, .int 48]) (rest := [.ref (adH A)]) X hX hbA w (kL_cell l E b L xs 48 hL (by decide)) ck_L_96 ⟨Nat.le_of_ble_eq_true rfl, Nat.le_of_ble_eq_true rfl⟩ hl.1 (Nat.le_of_ble_eq_true rfl) rfl dL_law_100 ⟨Nat.le_of_ble_eq_true rfl, Nat.le_of_ble_eq_true rfl⟩) [] rfl rfl (fun x2 w2 hK H locs w => ?_)
    obtain rfl := hK
    have w : Wd E (lwA s) s (wOb E A S ++ wOb E B T) H locs := w
    refine r_ce w (r_runS (As := [.ref (adH A), .int x2]) (rest := []) X w (kL_isWell l E A S x2 48 f hI.1 (by omega) hI.2.1) ck_L_103 ⟨Nat.le_of_ble_eq_true rfl, Nat.le_of_ble_eq_true rfl⟩ isA (hcR_2 (E := E)) nd_A hl.1 (Nat.le_of_ble_eq_true rfl) rfl dL_law_103 ⟨Nat.le_of_ble_eq_true rfl, Nat.le_of_ble_eq_true rfl⟩) isA (hcR_2 (E := E)) nd_A (fun y3 w3 hK H locs w => ?_)
    obtain ⟨rfl, S3, hS3, rfl⟩ := hK
    rw [hwR_2] at w
    have hI3 : BI 48 f S3 T := ⟨hI.1, hS3, hI.2.2⟩
    refine lv_if_eq (tgt := 129) hx hb dL_law_106 (by decide) (fun h => absurd h (by decide)) (fun _ => ?_)
    refine lv_aload_n hx hb dL_law_109 rfl (lv_at hl 3 rfl) ?_
    refine lv_aload_n hx hb dL_law_110 rfl (lv_at hl 2 rfl) ?_
    refine lv_aload_n hx hb dL_law_111 rfl (lv_at hl 4 rfl) ?_
    refine lv_bipush (v := 49) hx hb dL_law_112 (by decide) ?_
    refine r_ce w (r_runX (As := [.ref b, .int 49]) (rest := [.ref (adH B), .ref (adH A)]) X hX hbA w (kL_cell l E b L xs 49 hL (by decide)) ck_L_96 ⟨Nat.le_of_ble_eq_true rfl, Nat.le_of_ble_eq_true rfl⟩ hl.1 (Nat.le_of_ble_eq_true rfl) rfl dL_law_114 ⟨Nat.le_of_ble_eq_true rfl, Nat.le_of_ble_eq_true rfl⟩) [] rfl rfl (fun x3 w3 hK H locs w => ?_)
    obtain rfl := hK
    have w : Wd E (lwA s) s (wOb E A S3 ++ wOb E B T) H locs := w
    refine lv_iconst (v := 3) hx hb dL_law_117 (by decide) ?_
    refine lv_ishr hx hb dL_law_118 ?_
    refine r_ce w (r_runS (As := [.ref (adH A), .ref (adH B), .int (x3 >>> (3 &&& 31))]) (rest := []) X w (kL_areAlike l E A B S3 T (x3 >>> (3 &&& 31)) 48 f hI3) ck_L_106 ⟨Nat.le_of_ble_eq_true rfl, Nat.le_of_ble_eq_true rfl⟩ isAB (hcR_4 (E := E)) nd_AB hl.1 (Nat.le_of_ble_eq_true rfl) rfl dL_law_119 ⟨Nat.le_of_ble_eq_true rfl, Nat.le_of_ble_eq_true rfl⟩) isAB (hcR_4 (E := E)) nd_AB (fun y4 w4 hK H locs w => ?_)
    obtain rfl := hK
    refine lv_if_eq (tgt := 129) hx hb dL_law_122 (by decide) (fun h => absurd h (by decide)) (fun _ => ?_)
    refine lv_iconst (v := 1) hx hb dL_law_125 (by decide) ?_
    refine lv_goto (tgt := 130) hx hb dL_law_126 (by decide) ?_
    refine va_forget (fun q hq => w.2.2.2.2 q hq) ?_
    refine W.widen (k := 600000) (n := 7302250) (Nat.le_of_ble_eq_true rfl) (Nat.le_of_ble_eq_true rfl) ?_
    exact lw_ret (d0 := s.drawn) (Drawn.sameBut.refl s.drawn lw_cs) hx hb hr hlocks dL_law_130
  | succ n ih =>
    intro k hk f S T H locs ls hI w hl
    refine lv_iload hx hb dL_law_21 (lv_at hl 0 rfl) ?_
    refine lv_bipush (v := 48) hx hb dL_law_23 (by decide) ?_
    refine lv_icmp_ge (tgt := 92) hx hb dL_law_25 (by decide) (fun h => absurd h (nI_ge (b := 48) (show k < 48 by omega) (by decide))) (fun _ => ?_)
    refine lv_iload_n hx hb dL_law_28 rfl (lv_at hl 1 rfl) ?_
    refine lv_if_eq (tgt := 92) hx hb dL_law_29 (by decide) (fun h => absurd h (by decide)) (fun _ => ?_)
    refine lv_aload_n hx hb dL_law_32 rfl (lv_at hl 3 rfl) ?_
    refine lv_aload_n hx hb dL_law_33 rfl (lv_at hl 2 rfl) ?_
    refine lv_aload_n hx hb dL_law_34 rfl (lv_at hl 4 rfl) ?_
    refine lv_iload hx hb dL_law_35 (lv_at hl 0 rfl) ?_
    refine r_ce w (r_runX (As := [.ref b, .int (nI k)]) (rest := [.ref (adH B), .ref (adH A)]) X hX hbA w (kL_cell l E b L xs (nI k) hL (nnI (by omega))) ck_L_96 ⟨Nat.le_of_ble_eq_true rfl, Nat.le_of_ble_eq_true rfl⟩ hl.1 (Nat.le_of_ble_eq_true rfl) rfl dL_law_37 ⟨Nat.le_of_ble_eq_true rfl, Nat.le_of_ble_eq_true rfl⟩) [] rfl rfl (fun x5 w5 hK H locs w => ?_)
    obtain rfl := hK
    have w : Wd E (lwA s) s (wOb E A S ++ wOb E B T) H locs := w
    refine lv_aload_n hx hb dL_law_40 rfl (lv_at hl 4 rfl) ?_
    refine lv_iload hx hb dL_law_41 (lv_at hl 0 rfl) ?_
    refine lv_iconst (v := 1) hx hb dL_law_43 (by decide) ?_
    refine lv_iadd hx hb dL_law_44 ?_
    refine r_ce w (r_runX (As := [.ref b, .int ((nI k) + 1)]) (rest := [.int x5, .ref (adH B), .ref (adH A)]) X hX hbA w (kL_cell l E b L xs ((nI k) + 1) hL (nnS (by omega))) ck_L_96 ⟨Nat.le_of_ble_eq_true rfl, Nat.le_of_ble_eq_true rfl⟩ hl.1 (Nat.le_of_ble_eq_true rfl) rfl dL_law_45 ⟨Nat.le_of_ble_eq_true rfl, Nat.le_of_ble_eq_true rfl⟩) [] rfl rfl (fun x6 w6 hK H locs w => ?_)
    obtain rfl := hK
    have w : Wd E (lwA s) s (wOb E A S ++ wOb E B T) H locs := w
    refine lv_iconst (v := 2) hx hb dL_law_48 (by decide) ?_
    refine lv_ishr hx hb dL_law_49 ?_
    refine r_ce w (r_runS (As := [.ref (adH A), .ref (adH B), .int x5, .int (x6 >>> (2 &&& 31))]) (rest := []) X w (kL_isStep l E A B S T x5 (x6 >>> (2 &&& 31)) k f hI (by omega)) ck_L_99 ⟨Nat.le_of_ble_eq_true rfl, Nat.le_of_ble_eq_true rfl⟩ isAB (hcR_4 (E := E)) nd_AB hl.1 (Nat.le_of_ble_eq_true rfl) rfl dL_law_50 ⟨Nat.le_of_ble_eq_true rfl, Nat.le_of_ble_eq_true rfl⟩) isAB (hcR_4 (E := E)) nd_AB (fun y2 w2 hK H locs w => ?_)
    obtain ⟨rfl, f2, S2, T2, hI2, rfl⟩ := hK
    rw [hwR_4] at w
    refine lv_if_eq (tgt := 84) hx hb dL_law_53 (by decide) (fun h => absurd h (by decide)) (fun _ => ?_)
    refine lv_iload hx hb dL_law_56 (lv_at hl 0 rfl) ?_
    refine lv_bipush (v := 6) hx hb dL_law_58 (by decide) ?_
    refine lv_irem hx hb dL_law_60 (by decide) ?_
    refine lv_if_gt (tgt := 80) hx hb dL_law_61 (by decide) (fun c61_7 => ?_) (fun c61_7 => ?_)
    · refine lv_iconst (v := 1) hx hb dL_law_80 (by decide) ?_
      refine lv_goto (tgt := 85) hx hb dL_law_81 (by decide) ?_
      refine lv_istore_n (lv' := [(3, .int 1), (4, .int (nI k)), (2, .ref (adH B)), (1, .ref (adH A)), (0, .ref b)]) hx hb dL_law_85 rfl hl (by decide) rfl (fun ls hl => ?_)
      refine lv_iinc (v := (nI k) + 1) (lv' := [(4, .int ((nI k) + 1)), (3, .int 1), (2, .ref (adH B)), (1, .ref (adH A)), (0, .ref b)]) hx hb dL_law_86 hl (k := 1) rfl (by first | rfl | decide) (by decide) rfl (fun ls hl => ?_)
      refine lv_goto (tgt := 21) hx hb dL_law_89 (by decide) ?_
      have e0 : nI k + 1 = nI (k + 1) := nI_1 k
      rw [e0] at hl
      exact ih (k + 1) (by omega) _ _ _ _ _ _ hI2 w (lv_sub hl [0, 1, 2, 3, 4] rfl)
    · refine lv_aload_n hx hb dL_law_64 rfl (lv_at hl 3 rfl) ?_
      refine lv_aload_n hx hb dL_law_65 rfl (lv_at hl 4 rfl) ?_
      refine lv_iload hx hb dL_law_66 (lv_at hl 0 rfl) ?_
      refine r_ce w (r_runX (As := [.ref b, .int (nI k)]) (rest := [.ref (adH A)]) X hX hbA w (kL_cell l E b L xs (nI k) hL (nnI (by omega))) ck_L_96 ⟨Nat.le_of_ble_eq_true rfl, Nat.le_of_ble_eq_true rfl⟩ hl.1 (Nat.le_of_ble_eq_true rfl) rfl dL_law_68 ⟨Nat.le_of_ble_eq_true rfl, Nat.le_of_ble_eq_true rfl⟩) [] rfl rfl (fun x8 w8 hK H locs w => ?_)
      obtain rfl := hK
      have w : Wd E (lwA s) s (wOb E A S2 ++ wOb E B T2) H locs := w
      refine lv_bipush (v := 7) hx hb dL_law_71 (by decide) ?_
      refine lv_ishr hx hb dL_law_73 ?_
      refine r_ce w (r_runS (As := [.ref (adH A), .int (x8 >>> (7 &&& 31))]) (rest := []) X w (kL_isWell l E A S2 (x8 >>> (7 &&& 31)) (k + 1) f2 hI2.1 (by omega) hI2.2.1) ck_L_103 ⟨Nat.le_of_ble_eq_true rfl, Nat.le_of_ble_eq_true rfl⟩ isA (hcR_2 (E := E)) nd_A hl.1 (Nat.le_of_ble_eq_true rfl) rfl dL_law_74 ⟨Nat.le_of_ble_eq_true rfl, Nat.le_of_ble_eq_true rfl⟩) isA (hcR_2 (E := E)) nd_A (fun y3 w3 hK H locs w => ?_)
      obtain ⟨rfl, S3, hS3, rfl⟩ := hK
      rw [hwR_2] at w
      have hI3 : BI (k + 1) f2 S3 T2 := ⟨hI2.1, hS3, hI2.2.2⟩
      refine lv_if_eq (tgt := 84) hx hb dL_law_77 (by decide) (fun h => absurd h (by decide)) (fun _ => ?_)
      refine lv_iconst (v := 1) hx hb dL_law_80 (by decide) ?_
      refine lv_goto (tgt := 85) hx hb dL_law_81 (by decide) ?_
      refine lv_istore_n (lv' := [(3, .int 1), (4, .int (nI k)), (2, .ref (adH B)), (1, .ref (adH A)), (0, .ref b)]) hx hb dL_law_85 rfl hl (by decide) rfl (fun ls hl => ?_)
      refine lv_iinc (v := (nI k) + 1) (lv' := [(4, .int ((nI k) + 1)), (3, .int 1), (2, .ref (adH B)), (1, .ref (adH A)), (0, .ref b)]) hx hb dL_law_86 hl (k := 1) rfl (by first | rfl | decide) (by decide) rfl (fun ls hl => ?_)
      refine lv_goto (tgt := 21) hx hb dL_law_89 (by decide) ?_
      have e0 : nI k + 1 = nI (k + 1) := nI_1 k
      rw [e0] at hl
      exact ih (k + 1) (by omega) _ _ _ _ _ _ hI3 w (lv_sub hl [0, 1, 2, 3, 4] rfl)
end LL
theorem dL_law_0 : decode code 0 = .ok (.new 10, 3) := by decide +kernel
theorem dL_law_3 : decode code 3 = .ok (.dup, 1) := by decide +kernel
theorem dL_law_4 : decode code 4 = .ok (.invokespecial 95, 3) := by decide +kernel
theorem dL_law_7 : decode code 7 = .ok (.astore_n 1, 1) := by decide +kernel
theorem dL_law_8 : decode code 8 = .ok (.new 10, 3) := by decide +kernel
theorem dL_law_11 : decode code 11 = .ok (.dup, 1) := by decide +kernel
theorem dL_law_12 : decode code 12 = .ok (.invokespecial 95, 3) := by decide +kernel
theorem dL_law_15 : decode code 15 = .ok (.astore_n 2, 1) := by decide +kernel
theorem dL_law_16 : decode code 16 = .ok (.iconst 1, 1) := by decide +kernel
theorem dL_law_17 : decode code 17 = .ok (.istore_n 3, 1) := by decide +kernel
theorem dL_law_18 : decode code 18 = .ok (.iconst 0, 1) := by decide +kernel
theorem dL_law_19 : decode code 19 = .ok (.istore 4, 2) := by decide +kernel
set_option maxHeartbeats 4000000 in
set_option maxRecDepth 100000 in
/-- YOUR PART: from the entry, for every script of at most 260 ints, the law comes to its end with true -/
theorem whole_start {p : Program} {e : Env} {s : State} {m : MethodId} {below : List Frame} {meth : Method} {c : Code} (l : Launch) (hflags : l.flags = flags0) {b L : Nat} {xs : Nat → Int32} (hL : L ≤ 260) (C0 : lw_At p s m meth c b L xs) : W p l e room_1 s m #[Value.ref b] below meth c s.heap [] 0 0 (lw_Z below #[Value.ref b] s) (entryFrame m ([Value.ref b] : List Value).toArray 5) := by
  obtain ⟨hx, hb, hr, hml, hown, hts, hX, hbl, hlocks, hgv⟩ := id C0
  obtain ⟨E, hK, hS⟩ := law_env hts hgv
  have hAO := law_ao hts
  have X : Cx p m meth c code 5 s #[Value.ref b] RL E (lwA s) := ⟨hx, hb, hml, hown, fun w h => hts w (T0_tbl w h), hK, hS, law_nl hts, hlocks⟩
  have hA : ∀ q : Nat, s.heap.size ≤ q → lwA s q := fun _ h => h
  have w : Wd E (lwA s) s [] s.heap [] := ⟨fun k q h => by simp at h, ⟨fun i j p q h => by simp at h, fun k q h => by simp at h⟩, va_S.rf⟩
  have hl := lv_entry ([.ref b]) (n := 5) (Nat.le_of_ble_eq_true rfl)
  rw [lg_entry_eq]
  generalize (lg_sl ([.ref b]) ++ List.replicate (5 - (lg_sl ([.ref b])).length) Slot.unset).toArray = ls at hl ⊢
  have hl : lv_has ls 5 [(0, .ref b)] := hl
  have hfsA : ∀ j, j < 7 → defaultValue (tyX6 j) = vp_V [.null, .null, .null, .null, .null, .null, .int 0] j := by
    intro j hj
    match j, hj with
    | 0, _ => rfl
    | 1, _ => rfl
    | 2, _ => rfl
    | 3, _ => rfl
    | 4, _ => rfl
    | 5, _ => rfl
    | 6, _ => rfl
  refine r_mk0 (C := RX6) (fs := [.null, .null, .null, .null, .null, .null, .int 0]) (ce := 71) (sl := 1097) X w hA CL6 wcl_L_10 wn_X6 wi_X6 hfsA dL_law_0 dL_law_3 (Nat.le_of_ble_eq_true rfl) (Nat.le_of_ble_eq_true rfl) (fun q H w => r_runI X hAO w (kX6_init l E q) ⟨wm_L_95, wim_yX6_init, wi_X6, wc_yX6_init, by decide +kernel⟩ ⟨Nat.le_of_ble_eq_true rfl, Nat.le_of_ble_eq_true rfl⟩ _ last_at rfl hl.1 (Nat.le_of_ble_eq_true rfl) dL_law_4 ⟨Nat.le_of_ble_eq_true rfl, Nat.le_of_ble_eq_true rfl⟩) (fun h1 w0 H locs hK w => ?_)
  obtain ⟨a10, a20, a30, a40, ax0, a50, k0, j0, rfl⟩ := hK
  refine lv_astore_n (lv' := [(1, .ref h1), (0, .ref b)]) hx hb dL_law_7 rfl hl (by decide) rfl (fun ls hl => ?_)
  refine r_mk0 (C := RX6) (fs := [.null, .null, .null, .null, .null, .null, .int 0]) (ce := 71) (sl := 1097) X w hA CL6 wcl_L_10 wn_X6 wi_X6 hfsA dL_law_8 dL_law_11 (Nat.le_of_ble_eq_true rfl) (Nat.le_of_ble_eq_true rfl) (fun q H w => r_runI X hAO w (kX6_init l E q) ⟨wm_L_95, wim_yX6_init, wi_X6, wc_yX6_init, by decide +kernel⟩ ⟨Nat.le_of_ble_eq_true rfl, Nat.le_of_ble_eq_true rfl⟩ _ last_at rfl hl.1 (Nat.le_of_ble_eq_true rfl) dL_law_12 ⟨Nat.le_of_ble_eq_true rfl, Nat.le_of_ble_eq_true rfl⟩) (fun h2 w1 H locs hK w => ?_)
  obtain ⟨a11, a21, a31, a41, ax1, a51, k1, j1, rfl⟩ := hK
  refine lv_astore_n (lv' := [(2, .ref h2), (1, .ref h1), (0, .ref b)]) hx hb dL_law_15 rfl hl (by decide) rfl (fun ls hl => ?_)
  refine lv_iconst (v := 1) hx hb dL_law_16 (by decide) ?_
  refine lv_istore_n (lv' := [(3, .int 1), (2, .ref h2), (1, .ref h1), (0, .ref b)]) hx hb dL_law_17 rfl hl (by decide) rfl (fun ls hl => ?_)
  refine lv_iconst (v := 0) hx hb dL_law_18 (by decide) ?_
  refine lv_istore (lv' := [(4, .int 0), (3, .int 1), (2, .ref h2), (1, .ref h1), (0, .ref b)]) hx hb dL_law_19 hl (by decide) rfl (fun ls hl => ?_)
  refine W.widen (k := 144) (n := 2208) (Nat.le_of_ble_eq_true rfl) (Nat.le_of_ble_eq_true rfl) ?_
  rw [List.nil_append] at w
  have w : Wd E (lwA s) s (wOb E ((h1, k0, j0), (a10, a20, a30, a40, a50), ax0) So0 ++ wOb E ((h2, k1, j1), (a11, a21, a31, a41, a51), ax1) So0) H locs := w
  exact law_loop X hX hbl hL hr hlocks 48 0 (by omega) st0 So0 So0 _ _ _ BI_start w (lv_sub hl [0, 1, 2, 3, 4] rfl)
