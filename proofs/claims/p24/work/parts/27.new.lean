/-! constructors (printed by wip/whole/gen/p27.py) -/
/-- addresses as a function -/
def adL (L : List Nat) (i : Nat) : Nat := L.getD i 0
def zgI : N1 := fun _ => 0
def tgI : N2 := fun _ _ => 0
/-- a fresh State -/
def sgI : N2 := u2 (va_up (va_up (va_up tgI 0 (fun _ => (-5))) 5 (fun _ => (-5))) 6 (sT 2)) 8 1 63
theorem dX5_init_0 : decode cX5_init 0 = .ok (.aload_n 0, 1) := by decide +kernel
theorem dX5_init_1 : decode cX5_init 1 = .ok (.invokespecial 3, 3) := by decide +kernel
theorem dX5_init_4 : decode cX5_init 4 = .ok (.return_, 1) := by decide +kernel
set_option maxHeartbeats 4000000 in
set_option maxRecDepth 100000 in
theorem kX5_init (l : Launch) (E : Ev) (b : Nat) : KN l yX5_init cX5_init 1 1 20 0 0 E [.ref b] [(b, .inr (4, [.int 0, .int 0, .int 0]))] (fun w2 => w2 = wWk b zgI) := by
  refine KN.mk RX5 rfl (by decide +kernel) (Nat.le_of_ble_eq_true rfl) ?_
  intro p e s m below meth c ls X hnm hAO hr w hl
  have hin : meth.name = "<init>" := hnm
  have hx := X.1
  have hb := X.2.1
  have hA : ∀ q : Nat, s.heap.size ≤ q → va_A [(b, .inr (4, [.int 0, .int 0, .int 0]))] s.heap.size q := fun q h => Or.inr h
  have hl : lv_has ls 1 [(0, .ref b)] := hl
  refine lv_aload_n hx hb dX5_init_0 rfl (lv_at hl 0 rfl) ?_
  refine r_obj X wm_X5_3 hl.1 dX5_init_1 (Nat.le_of_ble_eq_true rfl) (Nat.le_of_ble_eq_true rfl) ?_
  exact r_nret X w hr (rfl) (Nat.le_of_ble_eq_true rfl) (Nat.le_of_ble_eq_true rfl) dX5_init_4
theorem dX3_init_0 : decode cX3_init 0 = .ok (.aload_n 0, 1) := by decide +kernel
theorem dX3_init_1 : decode cX3_init 1 = .ok (.invokespecial 3, 3) := by decide +kernel
theorem dX3_init_4 : decode cX3_init 4 = .ok (.aload_n 0, 1) := by decide +kernel
theorem dX3_init_5 : decode cX3_init 5 = .ok (.new 9, 3) := by decide +kernel
theorem dX3_init_8 : decode cX3_init 8 = .ok (.dup, 1) := by decide +kernel
theorem dX3_init_9 : decode cX3_init 9 = .ok (.invokespecial 11, 3) := by decide +kernel
theorem dX3_init_12 : decode cX3_init 12 = .ok (.putfield 12, 3) := by decide +kernel
theorem dX3_init_15 : decode cX3_init 15 = .ok (.return_, 1) := by decide +kernel
set_option maxHeartbeats 4000000 in
set_option maxRecDepth 100000 in
theorem kX3_init (l : Launch) (E : Ev) (b : Nat) : KN l yX3_init cX3_init 1 2 60 1 3 E [.ref b] [(b, .inr (2, [.null, .int 0, .float 0, .int 0, .int 0, .int 0, .int 0, .int 0, .int 0]))] (fun w2 => ∃ j : Nat, w2 = wSh b j zgI 0 ++ wWk j zgI) := by
  refine KN.mk RX3 rfl (by decide +kernel) (Nat.le_of_ble_eq_true rfl) ?_
  intro p e s m below meth c ls X hnm hAO hr w hl
  have hin : meth.name = "<init>" := hnm
  have hx := X.1
  have hb := X.2.1
  have hA : ∀ q : Nat, s.heap.size ≤ q → va_A [(b, .inr (2, [.null, .int 0, .float 0, .int 0, .int 0, .int 0, .int 0, .int 0, .int 0]))] s.heap.size q := fun q h => Or.inr h
  have hl : lv_has ls 1 [(0, .ref b)] := hl
  refine lv_aload_n hx hb dX3_init_0 rfl (lv_at hl 0 rfl) ?_
  refine r_obj X wm_X3_3 hl.1 dX3_init_1 (Nat.le_of_ble_eq_true rfl) (Nat.le_of_ble_eq_true rfl) ?_
  refine lv_aload_n hx hb dX3_init_4 rfl (lv_at hl 0 rfl) ?_
  have hfsq1 : ∀ j, j < 3 → defaultValue (tyX5 j) = vp_V [.int 0, .int 0, .int 0] j := by
      intro j hj
      match j, hj with
      | 0, _ => rfl
      | 1, _ => rfl
      | 2, _ => rfl
  refine r_mk0 (C := RX5) (fs := [.int 0, .int 0, .int 0]) (ce := 0) (sl := 0) X w hA CL5 wcl_X3_9 wn_X5 wi_X5 hfsq1 dX3_init_5 dX3_init_8 (Nat.le_of_ble_eq_true rfl) (Nat.le_of_ble_eq_true rfl) (fun q H w => r_runIN X hAO w (kX5_init l E q) ⟨nl_30, wim_yX5_init, wi_X5, wc_yX5_init, by decide +kernel⟩ ⟨(Nat.le_of_ble_eq_true rfl), (Nat.le_of_ble_eq_true rfl)⟩ _ last_at rfl hl.1 (Nat.le_of_ble_eq_true rfl) dX3_init_9 ⟨(Nat.le_of_ble_eq_true rfl), (Nat.le_of_ble_eq_true rfl)⟩) (fun q1 w2 H locs hK w => ?_)
  subst hK
  refine r_putF X w ([(b, .inr (2, [.ref q1, .int 0, .float 0, .int 0, .int 0, .int 0, .int 0, .int 0, .int 0]))] ++ wWk q1 zgI) CL3 0 (by decide) wf_X3_12 0 rfl rfl hin rfl rfl rfl (Nat.le_of_ble_eq_true rfl) rfl dX3_init_12 (fun H locs w => ?_)
  exact r_nret X w hr (⟨q1, rfl⟩) (Nat.le_of_ble_eq_true rfl) (Nat.le_of_ble_eq_true rfl) dX3_init_15
theorem dX0_init_0 : decode cX0_init 0 = .ok (.aload_n 0, 1) := by decide +kernel
theorem dX0_init_1 : decode cX0_init 1 = .ok (.invokespecial 3, 3) := by decide +kernel
theorem dX0_init_4 : decode cX0_init 4 = .ok (.aload_n 0, 1) := by decide +kernel
theorem dX0_init_5 : decode cX0_init 5 = .ok (.bipush 60, 2) := by decide +kernel
theorem dX0_init_7 : decode cX0_init 7 = .ok (.newarray .char, 2) := by decide +kernel
theorem dX0_init_9 : decode cX0_init 9 = .ok (.putfield 11, 3) := by decide +kernel
theorem dX0_init_12 : decode cX0_init 12 = .ok (.aload_n 0, 1) := by decide +kernel
theorem dX0_init_13 : decode cX0_init 13 = .ok (.bipush 16, 2) := by decide +kernel
theorem dX0_init_15 : decode cX0_init 15 = .ok (.newarray .int, 2) := by decide +kernel
theorem dX0_init_17 : decode cX0_init 17 = .ok (.putfield 15, 3) := by decide +kernel
theorem dX0_init_20 : decode cX0_init 20 = .ok (.aload_n 0, 1) := by decide +kernel
theorem dX0_init_21 : decode cX0_init 21 = .ok (.bipush 16, 2) := by decide +kernel
theorem dX0_init_23 : decode cX0_init 23 = .ok (.newarray .int, 2) := by decide +kernel
theorem dX0_init_25 : decode cX0_init 25 = .ok (.putfield 19, 3) := by decide +kernel
theorem dX0_init_28 : decode cX0_init 28 = .ok (.return_, 1) := by decide +kernel
set_option maxHeartbeats 4000000 in
set_option maxRecDepth 100000 in
theorem kX0_init (l : Launch) (E : Ev) (b : Nat) : KN l yX0_init cX0_init 1 1 20 3 92 E [.ref b] [(b, .inr (0, [.null, .int 0, .null, .null, .int 0, .int 0, .int 0]))] (fun w2 => ∃ a : Nat → Nat, a 0 = b ∧ w2 = wTx E a tgI) := by
  refine KN.mk RX0 rfl (by decide +kernel) (Nat.le_of_ble_eq_true rfl) ?_
  intro p e s m below meth c ls X hnm hAO hr w hl
  have hin : meth.name = "<init>" := hnm
  have hx := X.1
  have hb := X.2.1
  have hA : ∀ q : Nat, s.heap.size ≤ q → va_A [(b, .inr (0, [.null, .int 0, .null, .null, .int 0, .int 0, .int 0]))] s.heap.size q := fun q h => Or.inr h
  have hl : lv_has ls 1 [(0, .ref b)] := hl
  refine lv_aload_n hx hb dX0_init_0 rfl (lv_at hl 0 rfl) ?_
  refine r_obj X wm_X0_3 hl.1 dX0_init_1 (Nat.le_of_ble_eq_true rfl) (Nat.le_of_ble_eq_true rfl) ?_
  refine lv_aload_n hx hb dX0_init_4 rfl (lv_at hl 0 rfl) ?_
  refine lv_bipush (v := 60) hx hb dX0_init_5 (by decide) ?_
  refine r_newc X w hA (N := 60) (by decide) rfl (Nat.le_of_ble_eq_true rfl) (Nat.le_of_ble_eq_true rfl) (Nat.le_of_ble_eq_true rfl) dX0_init_7 (fun q1 H w => ?_)
  have w : Wd E (va_A [(b, .inr (0, [.null, .int 0, .null, .null, .int 0, .int 0, .int 0]))] s.heap.size) s [(b, .inr (0, [.null, .int 0, .null, .null, .int 0, .int 0, .int 0])), (q1, .inl (E.2.1.2.1, 60, .inl (fun _ => 0)))] H _ := w
  refine r_putF X w [(b, .inr (0, [.ref q1, .int 0, .null, .null, .int 0, .int 0, .int 0])), (q1, .inl (E.2.1.2.1, 60, .inl (fun _ => 0)))] CL0 0 (by decide) wf_X0_11 0 rfl rfl hin rfl rfl rfl (Nat.le_of_ble_eq_true rfl) rfl dX0_init_9 (fun H locs w => ?_)
  refine lv_aload_n hx hb dX0_init_12 rfl (lv_at hl 0 rfl) ?_
  refine lv_bipush (v := 16) hx hb dX0_init_13 (by decide) ?_
  refine r_newa X w hA (N := 16) (by decide) rfl (Nat.le_of_ble_eq_true rfl) (Nat.le_of_ble_eq_true rfl) (Nat.le_of_ble_eq_true rfl) dX0_init_15 (fun q2 H w => ?_)
  have w : Wd E (va_A [(b, .inr (0, [.null, .int 0, .null, .null, .int 0, .int 0, .int 0]))] s.heap.size) s [(b, .inr (0, [.ref q1, .int 0, .null, .null, .int 0, .int 0, .int 0])), (q1, .inl (E.2.1.2.1, 60, .inl (fun _ => 0))), (q2, .inl (E.2.1.1, 16, .inl (fun _ => 0)))] H _ := w
  refine r_putF X w [(b, .inr (0, [.ref q1, .int 0, .ref q2, .null, .int 0, .int 0, .int 0])), (q1, .inl (E.2.1.2.1, 60, .inl (fun _ => 0))), (q2, .inl (E.2.1.1, 16, .inl (fun _ => 0)))] CL0 2 (by decide) wf_X0_15 0 rfl rfl hin rfl rfl rfl (Nat.le_of_ble_eq_true rfl) rfl dX0_init_17 (fun H locs w => ?_)
  refine lv_aload_n hx hb dX0_init_20 rfl (lv_at hl 0 rfl) ?_
  refine lv_bipush (v := 16) hx hb dX0_init_21 (by decide) ?_
  refine r_newa X w hA (N := 16) (by decide) rfl (Nat.le_of_ble_eq_true rfl) (Nat.le_of_ble_eq_true rfl) (Nat.le_of_ble_eq_true rfl) dX0_init_23 (fun q3 H w => ?_)
  have w : Wd E (va_A [(b, .inr (0, [.null, .int 0, .null, .null, .int 0, .int 0, .int 0]))] s.heap.size) s [(b, .inr (0, [.ref q1, .int 0, .ref q2, .null, .int 0, .int 0, .int 0])), (q1, .inl (E.2.1.2.1, 60, .inl (fun _ => 0))), (q2, .inl (E.2.1.1, 16, .inl (fun _ => 0))), (q3, .inl (E.2.1.1, 16, .inl (fun _ => 0)))] H _ := w
  refine r_putF X w [(b, .inr (0, [.ref q1, .int 0, .ref q2, .ref q3, .int 0, .int 0, .int 0])), (q1, .inl (E.2.1.2.1, 60, .inl (fun _ => 0))), (q2, .inl (E.2.1.1, 16, .inl (fun _ => 0))), (q3, .inl (E.2.1.1, 16, .inl (fun _ => 0)))] CL0 3 (by decide) wf_X0_19 0 rfl rfl hin rfl rfl rfl (Nat.le_of_ble_eq_true rfl) rfl dX0_init_25 (fun H locs w => ?_)
  exact r_nret X w hr (⟨adL [b, q1, q2, q3], rfl, rfl⟩) (Nat.le_of_ble_eq_true rfl) (Nat.le_of_ble_eq_true rfl) dX0_init_28
theorem dX4_init_0 : decode cX4_init 0 = .ok (.aload_n 0, 1) := by decide +kernel
theorem dX4_init_1 : decode cX4_init 1 = .ok (.invokespecial 3, 3) := by decide +kernel
theorem dX4_init_4 : decode cX4_init 4 = .ok (.aload_n 0, 1) := by decide +kernel
theorem dX4_init_5 : decode cX4_init 5 = .ok (.bipush 12, 2) := by decide +kernel
theorem dX4_init_7 : decode cX4_init 7 = .ok (.newarray .int, 2) := by decide +kernel
theorem dX4_init_9 : decode cX4_init 9 = .ok (.putfield 9, 3) := by decide +kernel
theorem dX4_init_12 : decode cX4_init 12 = .ok (.aload_n 0, 1) := by decide +kernel
theorem dX4_init_13 : decode cX4_init 13 = .ok (.bipush 12, 2) := by decide +kernel
theorem dX4_init_15 : decode cX4_init 15 = .ok (.newarray .int, 2) := by decide +kernel
theorem dX4_init_17 : decode cX4_init 17 = .ok (.putfield 15, 3) := by decide +kernel
theorem dX4_init_20 : decode cX4_init 20 = .ok (.aload_n 0, 1) := by decide +kernel
theorem dX4_init_21 : decode cX4_init 21 = .ok (.bipush 12, 2) := by decide +kernel
theorem dX4_init_23 : decode cX4_init 23 = .ok (.newarray .int, 2) := by decide +kernel
theorem dX4_init_25 : decode cX4_init 25 = .ok (.putfield 18, 3) := by decide +kernel
theorem dX4_init_28 : decode cX4_init 28 = .ok (.aload_n 0, 1) := by decide +kernel
theorem dX4_init_29 : decode cX4_init 29 = .ok (.bipush 12, 2) := by decide +kernel
theorem dX4_init_31 : decode cX4_init 31 = .ok (.newarray .int, 2) := by decide +kernel
theorem dX4_init_33 : decode cX4_init 33 = .ok (.putfield 21, 3) := by decide +kernel
theorem dX4_init_36 : decode cX4_init 36 = .ok (.aload_n 0, 1) := by decide +kernel
theorem dX4_init_37 : decode cX4_init 37 = .ok (.bipush 12, 2) := by decide +kernel
theorem dX4_init_39 : decode cX4_init 39 = .ok (.newarray .int, 2) := by decide +kernel
theorem dX4_init_41 : decode cX4_init 41 = .ok (.putfield 24, 3) := by decide +kernel
theorem dX4_init_44 : decode cX4_init 44 = .ok (.aload_n 0, 1) := by decide +kernel
theorem dX4_init_45 : decode cX4_init 45 = .ok (.bipush 61, 2) := by decide +kernel
theorem dX4_init_47 : decode cX4_init 47 = .ok (.newarray .int, 2) := by decide +kernel
theorem dX4_init_49 : decode cX4_init 49 = .ok (.putfield 27, 3) := by decide +kernel
theorem dX4_init_52 : decode cX4_init 52 = .ok (.aload_n 0, 1) := by decide +kernel
theorem dX4_init_53 : decode cX4_init 53 = .ok (.iconst 3, 1) := by decide +kernel
theorem dX4_init_54 : decode cX4_init 54 = .ok (.newarray .int, 2) := by decide +kernel
theorem dX4_init_56 : decode cX4_init 56 = .ok (.putfield 30, 3) := by decide +kernel
theorem dX4_init_59 : decode cX4_init 59 = .ok (.aload_n 0, 1) := by decide +kernel
theorem dX4_init_60 : decode cX4_init 60 = .ok (.iconst 2, 1) := by decide +kernel
theorem dX4_init_61 : decode cX4_init 61 = .ok (.newarray .int, 2) := by decide +kernel
theorem dX4_init_63 : decode cX4_init 63 = .ok (.putfield 33, 3) := by decide +kernel
theorem dX4_init_66 : decode cX4_init 66 = .ok (.aload_n 0, 1) := by decide +kernel
theorem dX4_init_67 : decode cX4_init 67 = .ok (.getfield 9, 3) := by decide +kernel
theorem dX4_init_70 : decode cX4_init 70 = .ok (.bipush (-5), 2) := by decide +kernel
theorem dX4_init_72 : decode cX4_init 72 = .ok (.invokestatic 36, 3) := by decide +kernel
theorem dX4_init_75 : decode cX4_init 75 = .ok (.aload_n 0, 1) := by decide +kernel
theorem dX4_init_76 : decode cX4_init 76 = .ok (.getfield 27, 3) := by decide +kernel
theorem dX4_init_79 : decode cX4_init 79 = .ok (.bipush (-5), 2) := by decide +kernel
theorem dX4_init_81 : decode cX4_init 81 = .ok (.invokestatic 36, 3) := by decide +kernel
theorem dX4_init_84 : decode cX4_init 84 = .ok (.getstatic 42, 3) := by decide +kernel
theorem dX4_init_87 : decode cX4_init 87 = .ok (.iconst 0, 1) := by decide +kernel
theorem dX4_init_88 : decode cX4_init 88 = .ok (.aload_n 0, 1) := by decide +kernel
theorem dX4_init_89 : decode cX4_init 89 = .ok (.getfield 30, 3) := by decide +kernel
theorem dX4_init_92 : decode cX4_init 92 = .ok (.iconst 0, 1) := by decide +kernel
theorem dX4_init_93 : decode cX4_init 93 = .ok (.iconst 3, 1) := by decide +kernel
theorem dX4_init_94 : decode cX4_init 94 = .ok (.invokestatic 45, 3) := by decide +kernel
theorem dX4_init_97 : decode cX4_init 97 = .ok (.aload_n 0, 1) := by decide +kernel
theorem dX4_init_98 : decode cX4_init 98 = .ok (.bipush 63, 2) := by decide +kernel
theorem dX4_init_100 : decode cX4_init 100 = .ok (.putfield 51, 3) := by decide +kernel
theorem dX4_init_103 : decode cX4_init 103 = .ok (.return_, 1) := by decide +kernel
theorem ck_X4_36 : CkS RX4 36 yJ7_fill_53178 cJ7_fill_53178 4 none 2 := ⟨wm_X4_36, wst_yJ7_fill_53178, wi_J7, wc_yJ7_fill_53178, by decide +kernel⟩
theorem hc_75 {E : Ev} {a0 : Nat → Nat} {σ0 : N2} : ([1] : List Nat).map (fun i => (wSt E a0 σ0)[i]?) = (wAr E (a0 1) 12 (σ0 0)).map some := rfl
theorem ha_75 {E : Ev} {a0 : Nat → Nat} {σ0 : N2}  {τ0 : N1} : (wAr E (a0 1) 12 τ0).map Prod.fst = (wAr E (a0 1) 12 (σ0 0)).map Prod.fst := rfl
theorem hw_75 {E : Ev} {a0 : Nat → Nat} {σ0 : N2}  {τ0 : N1} : wput (wSt E a0 σ0) [1] (wAr E (a0 1) 12 τ0) = wSt E a0 (va_up σ0 0 τ0) := rfl
theorem hc_76 {E : Ev} {a0 : Nat → Nat} {σ0 : N2} : ([6] : List Nat).map (fun i => (wSt E a0 σ0)[i]?) = (wAr E (a0 6) 61 (σ0 5)).map some := rfl
theorem ha_76 {E : Ev} {a0 : Nat → Nat} {σ0 : N2}  {τ0 : N1} : (wAr E (a0 6) 61 τ0).map Prod.fst = (wAr E (a0 6) 61 (σ0 5)).map Prod.fst := rfl
theorem hw_76 {E : Ev} {a0 : Nat → Nat} {σ0 : N2}  {τ0 : N1} : wput (wSt E a0 σ0) [6] (wAr E (a0 6) 61 τ0) = wSt E a0 (va_up σ0 5 τ0) := rfl
theorem ax_77 {E : Ev} {a0 : Nat → Nat} {σ0 : N2} {x : Int32} : (wSt E a0 σ0).set 0 (a0 0, .inr (3, ([.ref (a0 1), .ref (a0 2), .ref (a0 3), .ref (a0 4), .ref (a0 5), .ref (a0 6), .ref (a0 7), .ref (a0 8), .int (σ0 8 0), .int (σ0 8 1), .int (σ0 8 2), .int (σ0 8 3), .int (σ0 8 4), .int (σ0 8 5)] : List Value).set 9 (.int x))) = wSt E a0 (u2 σ0 8 1 x) := rfl
set_option maxHeartbeats 4000000 in
set_option maxRecDepth 100000 in
theorem kX4_init (l : Launch) (E : Ev) (b : Nat) : KN l yX4_init cX4_init 1 1 80 8 126 E [.ref b] [(b, .inr (3, [.null, .null, .null, .null, .null, .null, .null, .null, .int 0, .int 0, .int 0, .int 0, .int 0, .int 0]))] (fun w2 => ∃ a : Nat → Nat, a 0 = b ∧ w2 = wSt E a sgI) := by
  refine KN.mk RX4 rfl (by decide +kernel) (Nat.le_of_ble_eq_true rfl) ?_
  intro p e s m below meth c ls X hnm hAO hr w hl
  have hin : meth.name = "<init>" := hnm
  have hx := X.1
  have hb := X.2.1
  have hA : ∀ q : Nat, s.heap.size ≤ q → va_A [(b, .inr (3, [.null, .null, .null, .null, .null, .null, .null, .null, .int 0, .int 0, .int 0, .int 0, .int 0, .int 0]))] s.heap.size q := fun q h => Or.inr h
  have hl : lv_has ls 1 [(0, .ref b)] := hl
  refine lv_aload_n hx hb dX4_init_0 rfl (lv_at hl 0 rfl) ?_
  refine r_obj X wm_X4_3 hl.1 dX4_init_1 (Nat.le_of_ble_eq_true rfl) (Nat.le_of_ble_eq_true rfl) ?_
  refine lv_aload_n hx hb dX4_init_4 rfl (lv_at hl 0 rfl) ?_
  refine lv_bipush (v := 12) hx hb dX4_init_5 (by decide) ?_
  refine r_newa X w hA (N := 12) (by decide) rfl (Nat.le_of_ble_eq_true rfl) (Nat.le_of_ble_eq_true rfl) (Nat.le_of_ble_eq_true rfl) dX4_init_7 (fun q1 H w => ?_)
  have w : Wd E (va_A [(b, .inr (3, [.null, .null, .null, .null, .null, .null, .null, .null, .int 0, .int 0, .int 0, .int 0, .int 0, .int 0]))] s.heap.size) s [(b, .inr (3, [.null, .null, .null, .null, .null, .null, .null, .null, .int 0, .int 0, .int 0, .int 0, .int 0, .int 0])), (q1, .inl (E.2.1.1, 12, .inl (fun _ => 0)))] H _ := w
  refine r_putF X w [(b, .inr (3, [.ref q1, .null, .null, .null, .null, .null, .null, .null, .int 0, .int 0, .int 0, .int 0, .int 0, .int 0])), (q1, .inl (E.2.1.1, 12, .inl (fun _ => 0)))] CL4 0 (by decide) wf_X4_9 0 rfl rfl hin rfl rfl rfl (Nat.le_of_ble_eq_true rfl) rfl dX4_init_9 (fun H locs w => ?_)
  refine lv_aload_n hx hb dX4_init_12 rfl (lv_at hl 0 rfl) ?_
  refine lv_bipush (v := 12) hx hb dX4_init_13 (by decide) ?_
  refine r_newa X w hA (N := 12) (by decide) rfl (Nat.le_of_ble_eq_true rfl) (Nat.le_of_ble_eq_true rfl) (Nat.le_of_ble_eq_true rfl) dX4_init_15 (fun q2 H w => ?_)
  have w : Wd E (va_A [(b, .inr (3, [.null, .null, .null, .null, .null, .null, .null, .null, .int 0, .int 0, .int 0, .int 0, .int 0, .int 0]))] s.heap.size) s [(b, .inr (3, [.ref q1, .null, .null, .null, .null, .null, .null, .null, .int 0, .int 0, .int 0, .int 0, .int 0, .int 0])), (q1, .inl (E.2.1.1, 12, .inl (fun _ => 0))), (q2, .inl (E.2.1.1, 12, .inl (fun _ => 0)))] H _ := w
  refine r_putF X w [(b, .inr (3, [.ref q1, .ref q2, .null, .null, .null, .null, .null, .null, .int 0, .int 0, .int 0, .int 0, .int 0, .int 0])), (q1, .inl (E.2.1.1, 12, .inl (fun _ => 0))), (q2, .inl (E.2.1.1, 12, .inl (fun _ => 0)))] CL4 1 (by decide) wf_X4_15 0 rfl rfl hin rfl rfl rfl (Nat.le_of_ble_eq_true rfl) rfl dX4_init_17 (fun H locs w => ?_)
  refine lv_aload_n hx hb dX4_init_20 rfl (lv_at hl 0 rfl) ?_
  refine lv_bipush (v := 12) hx hb dX4_init_21 (by decide) ?_
  refine r_newa X w hA (N := 12) (by decide) rfl (Nat.le_of_ble_eq_true rfl) (Nat.le_of_ble_eq_true rfl) (Nat.le_of_ble_eq_true rfl) dX4_init_23 (fun q3 H w => ?_)
  have w : Wd E (va_A [(b, .inr (3, [.null, .null, .null, .null, .null, .null, .null, .null, .int 0, .int 0, .int 0, .int 0, .int 0, .int 0]))] s.heap.size) s [(b, .inr (3, [.ref q1, .ref q2, .null, .null, .null, .null, .null, .null, .int 0, .int 0, .int 0, .int 0, .int 0, .int 0])), (q1, .inl (E.2.1.1, 12, .inl (fun _ => 0))), (q2, .inl (E.2.1.1, 12, .inl (fun _ => 0))), (q3, .inl (E.2.1.1, 12, .inl (fun _ => 0)))] H _ := w
  refine r_putF X w [(b, .inr (3, [.ref q1, .ref q2, .ref q3, .null, .null, .null, .null, .null, .int 0, .int 0, .int 0, .int 0, .int 0, .int 0])), (q1, .inl (E.2.1.1, 12, .inl (fun _ => 0))), (q2, .inl (E.2.1.1, 12, .inl (fun _ => 0))), (q3, .inl (E.2.1.1, 12, .inl (fun _ => 0)))] CL4 2 (by decide) wf_X4_18 0 rfl rfl hin rfl rfl rfl (Nat.le_of_ble_eq_true rfl) rfl dX4_init_25 (fun H locs w => ?_)
  refine lv_aload_n hx hb dX4_init_28 rfl (lv_at hl 0 rfl) ?_
  refine lv_bipush (v := 12) hx hb dX4_init_29 (by decide) ?_
  refine r_newa X w hA (N := 12) (by decide) rfl (Nat.le_of_ble_eq_true rfl) (Nat.le_of_ble_eq_true rfl) (Nat.le_of_ble_eq_true rfl) dX4_init_31 (fun q4 H w => ?_)
  have w : Wd E (va_A [(b, .inr (3, [.null, .null, .null, .null, .null, .null, .null, .null, .int 0, .int 0, .int 0, .int 0, .int 0, .int 0]))] s.heap.size) s [(b, .inr (3, [.ref q1, .ref q2, .ref q3, .null, .null, .null, .null, .null, .int 0, .int 0, .int 0, .int 0, .int 0, .int 0])), (q1, .inl (E.2.1.1, 12, .inl (fun _ => 0))), (q2, .inl (E.2.1.1, 12, .inl (fun _ => 0))), (q3, .inl (E.2.1.1, 12, .inl (fun _ => 0))), (q4, .inl (E.2.1.1, 12, .inl (fun _ => 0)))] H _ := w
  refine r_putF X w [(b, .inr (3, [.ref q1, .ref q2, .ref q3, .ref q4, .null, .null, .null, .null, .int 0, .int 0, .int 0, .int 0, .int 0, .int 0])), (q1, .inl (E.2.1.1, 12, .inl (fun _ => 0))), (q2, .inl (E.2.1.1, 12, .inl (fun _ => 0))), (q3, .inl (E.2.1.1, 12, .inl (fun _ => 0))), (q4, .inl (E.2.1.1, 12, .inl (fun _ => 0)))] CL4 3 (by decide) wf_X4_21 0 rfl rfl hin rfl rfl rfl (Nat.le_of_ble_eq_true rfl) rfl dX4_init_33 (fun H locs w => ?_)
  refine lv_aload_n hx hb dX4_init_36 rfl (lv_at hl 0 rfl) ?_
  refine lv_bipush (v := 12) hx hb dX4_init_37 (by decide) ?_
  refine r_newa X w hA (N := 12) (by decide) rfl (Nat.le_of_ble_eq_true rfl) (Nat.le_of_ble_eq_true rfl) (Nat.le_of_ble_eq_true rfl) dX4_init_39 (fun q5 H w => ?_)
  have w : Wd E (va_A [(b, .inr (3, [.null, .null, .null, .null, .null, .null, .null, .null, .int 0, .int 0, .int 0, .int 0, .int 0, .int 0]))] s.heap.size) s [(b, .inr (3, [.ref q1, .ref q2, .ref q3, .ref q4, .null, .null, .null, .null, .int 0, .int 0, .int 0, .int 0, .int 0, .int 0])), (q1, .inl (E.2.1.1, 12, .inl (fun _ => 0))), (q2, .inl (E.2.1.1, 12, .inl (fun _ => 0))), (q3, .inl (E.2.1.1, 12, .inl (fun _ => 0))), (q4, .inl (E.2.1.1, 12, .inl (fun _ => 0))), (q5, .inl (E.2.1.1, 12, .inl (fun _ => 0)))] H _ := w
  refine r_putF X w [(b, .inr (3, [.ref q1, .ref q2, .ref q3, .ref q4, .ref q5, .null, .null, .null, .int 0, .int 0, .int 0, .int 0, .int 0, .int 0])), (q1, .inl (E.2.1.1, 12, .inl (fun _ => 0))), (q2, .inl (E.2.1.1, 12, .inl (fun _ => 0))), (q3, .inl (E.2.1.1, 12, .inl (fun _ => 0))), (q4, .inl (E.2.1.1, 12, .inl (fun _ => 0))), (q5, .inl (E.2.1.1, 12, .inl (fun _ => 0)))] CL4 4 (by decide) wf_X4_24 0 rfl rfl hin rfl rfl rfl (Nat.le_of_ble_eq_true rfl) rfl dX4_init_41 (fun H locs w => ?_)
  refine lv_aload_n hx hb dX4_init_44 rfl (lv_at hl 0 rfl) ?_
  refine lv_bipush (v := 61) hx hb dX4_init_45 (by decide) ?_
  refine r_newa X w hA (N := 61) (by decide) rfl (Nat.le_of_ble_eq_true rfl) (Nat.le_of_ble_eq_true rfl) (Nat.le_of_ble_eq_true rfl) dX4_init_47 (fun q6 H w => ?_)
  have w : Wd E (va_A [(b, .inr (3, [.null, .null, .null, .null, .null, .null, .null, .null, .int 0, .int 0, .int 0, .int 0, .int 0, .int 0]))] s.heap.size) s [(b, .inr (3, [.ref q1, .ref q2, .ref q3, .ref q4, .ref q5, .null, .null, .null, .int 0, .int 0, .int 0, .int 0, .int 0, .int 0])), (q1, .inl (E.2.1.1, 12, .inl (fun _ => 0))), (q2, .inl (E.2.1.1, 12, .inl (fun _ => 0))), (q3, .inl (E.2.1.1, 12, .inl (fun _ => 0))), (q4, .inl (E.2.1.1, 12, .inl (fun _ => 0))), (q5, .inl (E.2.1.1, 12, .inl (fun _ => 0))), (q6, .inl (E.2.1.1, 61, .inl (fun _ => 0)))] H _ := w
  refine r_putF X w [(b, .inr (3, [.ref q1, .ref q2, .ref q3, .ref q4, .ref q5, .ref q6, .null, .null, .int 0, .int 0, .int 0, .int 0, .int 0, .int 0])), (q1, .inl (E.2.1.1, 12, .inl (fun _ => 0))), (q2, .inl (E.2.1.1, 12, .inl (fun _ => 0))), (q3, .inl (E.2.1.1, 12, .inl (fun _ => 0))), (q4, .inl (E.2.1.1, 12, .inl (fun _ => 0))), (q5, .inl (E.2.1.1, 12, .inl (fun _ => 0))), (q6, .inl (E.2.1.1, 61, .inl (fun _ => 0)))] CL4 5 (by decide) wf_X4_27 0 rfl rfl hin rfl rfl rfl (Nat.le_of_ble_eq_true rfl) rfl dX4_init_49 (fun H locs w => ?_)
  refine lv_aload_n hx hb dX4_init_52 rfl (lv_at hl 0 rfl) ?_
  refine lv_iconst (v := 3) hx hb dX4_init_53 (by decide) ?_
  refine r_newa X w hA (N := 3) (by decide) rfl (Nat.le_of_ble_eq_true rfl) (Nat.le_of_ble_eq_true rfl) (Nat.le_of_ble_eq_true rfl) dX4_init_54 (fun q7 H w => ?_)
  have w : Wd E (va_A [(b, .inr (3, [.null, .null, .null, .null, .null, .null, .null, .null, .int 0, .int 0, .int 0, .int 0, .int 0, .int 0]))] s.heap.size) s [(b, .inr (3, [.ref q1, .ref q2, .ref q3, .ref q4, .ref q5, .ref q6, .null, .null, .int 0, .int 0, .int 0, .int 0, .int 0, .int 0])), (q1, .inl (E.2.1.1, 12, .inl (fun _ => 0))), (q2, .inl (E.2.1.1, 12, .inl (fun _ => 0))), (q3, .inl (E.2.1.1, 12, .inl (fun _ => 0))), (q4, .inl (E.2.1.1, 12, .inl (fun _ => 0))), (q5, .inl (E.2.1.1, 12, .inl (fun _ => 0))), (q6, .inl (E.2.1.1, 61, .inl (fun _ => 0))), (q7, .inl (E.2.1.1, 3, .inl (fun _ => 0)))] H _ := w
  refine r_putF X w [(b, .inr (3, [.ref q1, .ref q2, .ref q3, .ref q4, .ref q5, .ref q6, .ref q7, .null, .int 0, .int 0, .int 0, .int 0, .int 0, .int 0])), (q1, .inl (E.2.1.1, 12, .inl (fun _ => 0))), (q2, .inl (E.2.1.1, 12, .inl (fun _ => 0))), (q3, .inl (E.2.1.1, 12, .inl (fun _ => 0))), (q4, .inl (E.2.1.1, 12, .inl (fun _ => 0))), (q5, .inl (E.2.1.1, 12, .inl (fun _ => 0))), (q6, .inl (E.2.1.1, 61, .inl (fun _ => 0))), (q7, .inl (E.2.1.1, 3, .inl (fun _ => 0)))] CL4 6 (by decide) wf_X4_30 0 rfl rfl hin rfl rfl rfl (Nat.le_of_ble_eq_true rfl) rfl dX4_init_56 (fun H locs w => ?_)
  refine lv_aload_n hx hb dX4_init_59 rfl (lv_at hl 0 rfl) ?_
  refine lv_iconst (v := 2) hx hb dX4_init_60 (by decide) ?_
  refine r_newa X w hA (N := 2) (by decide) rfl (Nat.le_of_ble_eq_true rfl) (Nat.le_of_ble_eq_true rfl) (Nat.le_of_ble_eq_true rfl) dX4_init_61 (fun q8 H w => ?_)
  have w : Wd E (va_A [(b, .inr (3, [.null, .null, .null, .null, .null, .null, .null, .null, .int 0, .int 0, .int 0, .int 0, .int 0, .int 0]))] s.heap.size) s [(b, .inr (3, [.ref q1, .ref q2, .ref q3, .ref q4, .ref q5, .ref q6, .ref q7, .null, .int 0, .int 0, .int 0, .int 0, .int 0, .int 0])), (q1, .inl (E.2.1.1, 12, .inl (fun _ => 0))), (q2, .inl (E.2.1.1, 12, .inl (fun _ => 0))), (q3, .inl (E.2.1.1, 12, .inl (fun _ => 0))), (q4, .inl (E.2.1.1, 12, .inl (fun _ => 0))), (q5, .inl (E.2.1.1, 12, .inl (fun _ => 0))), (q6, .inl (E.2.1.1, 61, .inl (fun _ => 0))), (q7, .inl (E.2.1.1, 3, .inl (fun _ => 0))), (q8, .inl (E.2.1.1, 2, .inl (fun _ => 0)))] H _ := w
  refine r_putF X w [(b, .inr (3, [.ref q1, .ref q2, .ref q3, .ref q4, .ref q5, .ref q6, .ref q7, .ref q8, .int 0, .int 0, .int 0, .int 0, .int 0, .int 0])), (q1, .inl (E.2.1.1, 12, .inl (fun _ => 0))), (q2, .inl (E.2.1.1, 12, .inl (fun _ => 0))), (q3, .inl (E.2.1.1, 12, .inl (fun _ => 0))), (q4, .inl (E.2.1.1, 12, .inl (fun _ => 0))), (q5, .inl (E.2.1.1, 12, .inl (fun _ => 0))), (q6, .inl (E.2.1.1, 61, .inl (fun _ => 0))), (q7, .inl (E.2.1.1, 3, .inl (fun _ => 0))), (q8, .inl (E.2.1.1, 2, .inl (fun _ => 0)))] CL4 7 (by decide) wf_X4_33 0 rfl rfl hin rfl rfl rfl (Nat.le_of_ble_eq_true rfl) rfl dX4_init_63 (fun H locs w => ?_)
  obtain ⟨a, ha⟩ : ∃ a : Nat → Nat, a = adL [b, q1, q2, q3, q4, q5, q6, q7, q8] := ⟨_, rfl⟩
  have ha0 : a 0 = b := by rw [ha]; rfl
  have w : Wd E (va_A [(b, .inr (3, [.null, .null, .null, .null, .null, .null, .null, .null, .int 0, .int 0, .int 0, .int 0, .int 0, .int 0]))] s.heap.size) s (wSt E a tgI) H locs := by rw [ha]; exact w
  have hl : lv_has ls 1 [(0, .ref (a 0))] := by rw [ha]; exact hl
  refine lv_aload_n hx hb dX4_init_66 rfl (lv_at hl 0 rfl) ?_
  refine r_get X w CL4 0 (by decide) wf_X4_9 0 rfl rfl dX4_init_67 ?_
  refine lv_bipush (v := (-5)) hx hb dX4_init_70 (by decide) ?_
  refine r_cv w (r_runS (As := [.ref (a 1), .int (-5)]) (rest := []) X w (kJ7_fill12 l E (a 1) (tgI 0) (-5) ) ck_X4_36 ⟨Nat.le_of_ble_eq_true rfl, Nat.le_of_ble_eq_true rfl⟩ [1] (hc_75 (E := E)) (by decide +kernel) hl.1 (Nat.le_of_ble_eq_true rfl) rfl dX4_init_72 ⟨Nat.le_of_ble_eq_true rfl, Nat.le_of_ble_eq_true rfl⟩) (wSt E a (va_up tgI 0 (fJ7_fill12 (tgI 0) (-5)))) [1] (hc_75 (E := E)) (by decide +kernel) (ha_75 (E := E)) (hw_75 (E := E)) (fun H locs w => ?_)
  refine lv_aload_n hx hb dX4_init_75 rfl (lv_at hl 0 rfl) ?_
  refine r_get X w CL4 5 (by decide) wf_X4_27 0 rfl rfl dX4_init_76 ?_
  refine lv_bipush (v := (-5)) hx hb dX4_init_79 (by decide) ?_
  refine r_cv w (r_runS (As := [.ref (a 6), .int (-5)]) (rest := []) X w (kJ7_fill61 l E (a 6) ((va_up tgI 0 (fJ7_fill12 (tgI 0) (-5))) 5) (-5) ) ck_X4_36 ⟨Nat.le_of_ble_eq_true rfl, Nat.le_of_ble_eq_true rfl⟩ [6] (hc_76 (E := E)) (by decide +kernel) hl.1 (Nat.le_of_ble_eq_true rfl) rfl dX4_init_81 ⟨Nat.le_of_ble_eq_true rfl, Nat.le_of_ble_eq_true rfl⟩) (wSt E a (va_up (va_up tgI 0 (fJ7_fill12 (tgI 0) (-5))) 5 (fJ7_fill61 ((va_up tgI 0 (fJ7_fill12 (tgI 0) (-5))) 5) (-5)))) [6] (hc_76 (E := E)) (by decide +kernel) (ha_76 (E := E)) (hw_76 (E := E)) (fun H locs w => ?_)
  refine r_getsN X w 2 rfl nl_27 dX4_init_84 ?_
  refine lv_iconst (v := 0) hx hb dX4_init_87 (by decide) ?_
  refine lv_aload_n hx hb dX4_init_88 rfl (lv_at hl 0 rfl) ?_
  refine r_get X w CL4 6 (by decide) wf_X4_30 0 rfl rfl dX4_init_89 ?_
  refine lv_iconst (v := 0) hx hb dX4_init_92 (by decide) ?_
  refine lv_iconst (v := 3) hx hb dX4_init_93 (by decide) ?_
  refine r_copyT X w (wSt E a (va_up (va_up (va_up tgI 0 (fJ7_fill12 (tgI 0) (-5))) 5 (fJ7_fill61 ((va_up tgI 0 (fJ7_fill12 (tgI 0) (-5))) 5) (-5))) 6 (sT 2))) wm_X4_45 2 rfl 7 rfl (by decide) rfl rfl rfl hl.1 (Nat.le_of_ble_eq_true rfl) (Nat.le_of_ble_eq_true rfl) dX4_init_94 (fun H locs w => ?_)
  refine lv_aload_n hx hb dX4_init_97 rfl (lv_at hl 0 rfl) ?_
  refine lv_bipush (v := 63) hx hb dX4_init_98 (by decide) ?_
  refine r_put X w (wSt E a (u2 (va_up (va_up (va_up tgI 0 (fJ7_fill12 (tgI 0) (-5))) 5 (fJ7_fill61 ((va_up tgI 0 (fJ7_fill12 (tgI 0) (-5))) 5) (-5))) 6 (sT 2)) 8 1 63)) CL4 9 (by decide) wf_X4_51 0 rfl rfl rfl rfl (Nat.le_of_ble_eq_true rfl) (ax_77 (E := E)) dX4_init_100 (fun H locs w => ?_)
  exact r_nret X w hr ⟨a, ha0, rfl⟩ (Nat.le_of_ble_eq_true rfl) (Nat.le_of_ble_eq_true rfl) dX4_init_103
theorem dX2_init_0 : decode cX2_init 0 = .ok (.aload_n 0, 1) := by decide +kernel
theorem dX2_init_1 : decode cX2_init 1 = .ok (.invokespecial 1, 3) := by decide +kernel
theorem dX2_init_4 : decode cX2_init 4 = .ok (.aload_n 0, 1) := by decide +kernel
theorem dX2_init_5 : decode cX2_init 5 = .ok (.iconst 4, 1) := by decide +kernel
theorem dX2_init_6 : decode cX2_init 6 = .ok (.anewarray 9, 3) := by decide +kernel
theorem dX2_init_9 : decode cX2_init 9 = .ok (.putfield 11, 3) := by decide +kernel
theorem dX2_init_12 : decode cX2_init 12 = .ok (.iconst 0, 1) := by decide +kernel
theorem dX2_init_13 : decode cX2_init 13 = .ok (.istore_n 1, 1) := by decide +kernel
theorem dX2_init_14 : decode cX2_init 14 = .ok (.iload_n 1, 1) := by decide +kernel
theorem dX2_init_15 : decode cX2_init 15 = .ok (.iconst 4, 1) := by decide +kernel
theorem dX2_init_16 : decode cX2_init 16 = .ok (.if_icmp .ge 22, 3) := by decide +kernel
theorem dX2_init_19 : decode cX2_init 19 = .ok (.aload_n 0, 1) := by decide +kernel
theorem dX2_init_20 : decode cX2_init 20 = .ok (.getfield 11, 3) := by decide +kernel
theorem dX2_init_23 : decode cX2_init 23 = .ok (.iload_n 1, 1) := by decide +kernel
theorem dX2_init_24 : decode cX2_init 24 = .ok (.new 9, 3) := by decide +kernel
theorem dX2_init_27 : decode cX2_init 27 = .ok (.dup, 1) := by decide +kernel
theorem dX2_init_28 : decode cX2_init 28 = .ok (.invokespecial 15, 3) := by decide +kernel
theorem dX2_init_31 : decode cX2_init 31 = .ok (.aastore, 1) := by decide +kernel
theorem dX2_init_32 : decode cX2_init 32 = .ok (.iinc 1 1, 3) := by decide +kernel
theorem dX2_init_35 : decode cX2_init 35 = .ok (.goto (-21), 3) := by decide +kernel
theorem dX2_init_38 : decode cX2_init 38 = .ok (.return_, 1) := by decide +kernel
set_option maxHeartbeats 4000000 in
set_option maxRecDepth 100000 in
theorem kX2_init (l : Launch) (E : Ev) (b : Nat) : KN l yX2_init cX2_init 2 3 120 37 564 E [.ref b] [(b, .inr (1, [.null, .int 0]))] (fun w2 => ∃ (a : Nat → Nat) (hh : Nat → Nat → Nat), a 0 = b ∧ w2 = wHs E a hh 0 0 (fun _ => sgI)) := by
  refine KN.mk RX2 rfl (by decide +kernel) (Nat.le_of_ble_eq_true rfl) ?_
  intro p e s m below meth c ls X hnm hAO hr w hl
  have hin : meth.name = "<init>" := hnm
  have hx := X.1
  have hb := X.2.1
  have hA : ∀ q : Nat, s.heap.size ≤ q → va_A [(b, .inr (1, [.null, .int 0]))] s.heap.size q := fun q h => Or.inr h
  have hl : lv_has ls 2 [(0, .ref b)] := hl
  refine lv_aload_n hx hb dX2_init_0 rfl (lv_at hl 0 rfl) ?_
  refine r_obj X wm_X2_1 hl.1 dX2_init_1 (Nat.le_of_ble_eq_true rfl) (Nat.le_of_ble_eq_true rfl) ?_
  refine lv_aload_n hx hb dX2_init_4 rfl (lv_at hl 0 rfl) ?_
  refine lv_iconst (v := 4) hx hb dX2_init_5 (by decide) ?_
  refine r_newq X w hA hAO wcl_X2_9 (N := 4) (by decide) rfl (Nat.le_of_ble_eq_true rfl) (Nat.le_of_ble_eq_true rfl) (Nat.le_of_ble_eq_true rfl) dX2_init_6 (fun q1 H w => ?_)
  have w : Wd E (va_A [(b, .inr (1, [.null, .int 0]))] s.heap.size) s [(b, .inr (1, [.null, .int 0])), (q1, .inl (E.2.1.2.2, 4, .inr (.inr (.inr (.inr (fun _ => none))))))] H _ := w
  refine r_putF X w [(b, .inr (1, [.ref q1, .int 0])), (q1, .inl (E.2.1.2.2, 4, .inr (.inr (.inr (.inr (fun _ => none))))))] CL2 0 (by decide) wf_X2_11 0 rfl rfl hin rfl rfl rfl (Nat.le_of_ble_eq_true rfl) rfl dX2_init_9 (fun H locs w => ?_)
  refine lv_iconst (v := 0) hx hb dX2_init_12 (by decide) ?_
  refine lv_istore_n (lv' := [(1, .int 0), (0, .ref b)]) hx hb dX2_init_13 rfl hl (by decide) rfl (fun ls hl => ?_)
  refine lv_iload_n hx hb dX2_init_14 rfl (lv_at hl 0 rfl) ?_
  refine lv_iconst (v := 4) hx hb dX2_init_15 (by decide) ?_
  refine lv_icmp_ge (tgt := 38) hx hb dX2_init_16 (by decide) (fun h => absurd h (by decide)) (fun _ => ?_)
  refine lv_aload_n hx hb dX2_init_19 rfl (lv_at hl 1 rfl) ?_
  refine r_get X w CL2 0 (by decide) wf_X2_11 0 rfl rfl dX2_init_20 ?_
  refine lv_iload_n hx hb dX2_init_23 rfl (lv_at hl 0 rfl) ?_
  have hfsq2 : ∀ j, j < 14 → defaultValue (tyX4 j) = vp_V [.null, .null, .null, .null, .null, .null, .null, .null, .int 0, .int 0, .int 0, .int 0, .int 0, .int 0] j := by
      intro j hj
      match j, hj with
      | 0, _ => rfl
      | 1, _ => rfl
      | 2, _ => rfl
      | 3, _ => rfl
      | 4, _ => rfl
      | 5, _ => rfl
      | 6, _ => rfl
      | 7, _ => rfl
      | 8, _ => rfl
      | 9, _ => rfl
      | 10, _ => rfl
      | 11, _ => rfl
      | 12, _ => rfl
      | 13, _ => rfl
  refine r_mk0 (C := RX4) (fs := [.null, .null, .null, .null, .null, .null, .null, .null, .int 0, .int 0, .int 0, .int 0, .int 0, .int 0]) (ce := 8) (sl := 126) X w hA CL4 wcl_X2_9 wn_X4 wi_X4 hfsq2 dX2_init_24 dX2_init_27 (Nat.le_of_ble_eq_true rfl) (Nat.le_of_ble_eq_true rfl) (fun q H w => r_runI X hAO w (kX4_init l E q) ⟨wm_X2_15, wim_yX4_init, wi_X4, wc_yX4_init, by decide +kernel⟩ ⟨(Nat.le_of_ble_eq_true rfl), (Nat.le_of_ble_eq_true rfl)⟩ _ last_at rfl hl.1 (Nat.le_of_ble_eq_true rfl) dX2_init_28 ⟨(Nat.le_of_ble_eq_true rfl), (Nat.le_of_ble_eq_true rfl)⟩) (fun q2 w2 H locs hK w => ?_)
  obtain ⟨a0, rfl, rfl⟩ := hK
  refine r_astq X w ([(b, .inr (1, [.ref q1, .int 0])), (q1, .inl (E.2.1.2.2, 4, .inr (.inr (.inr (.inr (va_up (fun _ => none) (0 : Int32).toNatClampNeg (some (a0 0))))))))] ++ wSt E a0 sgI) 1 2 rfl rfl (vin_c rfl) rfl dX2_init_31 (fun H locs w => ?_)
  refine lv_iinc (v := 1) (lv' := [(1, .int 1), (0, .ref b)]) hx hb dX2_init_32 hl (k := 0) rfl (by first | rfl | decide) (by decide) rfl (fun ls hl => ?_)
  refine lv_goto (tgt := 14) hx hb dX2_init_35 (by decide) ?_
  refine lv_iload_n hx hb dX2_init_14 rfl (lv_at hl 0 rfl) ?_
  refine lv_iconst (v := 4) hx hb dX2_init_15 (by decide) ?_
  refine lv_icmp_ge (tgt := 38) hx hb dX2_init_16 (by decide) (fun h => absurd h (by decide)) (fun _ => ?_)
  refine lv_aload_n hx hb dX2_init_19 rfl (lv_at hl 1 rfl) ?_
  refine r_get X w CL2 0 (by decide) wf_X2_11 0 rfl rfl dX2_init_20 ?_
  refine lv_iload_n hx hb dX2_init_23 rfl (lv_at hl 0 rfl) ?_
  have hfsq3 : ∀ j, j < 14 → defaultValue (tyX4 j) = vp_V [.null, .null, .null, .null, .null, .null, .null, .null, .int 0, .int 0, .int 0, .int 0, .int 0, .int 0] j := by
      intro j hj
      match j, hj with
      | 0, _ => rfl
      | 1, _ => rfl
      | 2, _ => rfl
      | 3, _ => rfl
      | 4, _ => rfl
      | 5, _ => rfl
      | 6, _ => rfl
      | 7, _ => rfl
      | 8, _ => rfl
      | 9, _ => rfl
      | 10, _ => rfl
      | 11, _ => rfl
      | 12, _ => rfl
      | 13, _ => rfl
  refine r_mk0 (C := RX4) (fs := [.null, .null, .null, .null, .null, .null, .null, .null, .int 0, .int 0, .int 0, .int 0, .int 0, .int 0]) (ce := 8) (sl := 126) X w hA CL4 wcl_X2_9 wn_X4 wi_X4 hfsq3 dX2_init_24 dX2_init_27 (Nat.le_of_ble_eq_true rfl) (Nat.le_of_ble_eq_true rfl) (fun q H w => r_runI X hAO w (kX4_init l E q) ⟨wm_X2_15, wim_yX4_init, wi_X4, wc_yX4_init, by decide +kernel⟩ ⟨(Nat.le_of_ble_eq_true rfl), (Nat.le_of_ble_eq_true rfl)⟩ _ last_at rfl hl.1 (Nat.le_of_ble_eq_true rfl) dX2_init_28 ⟨(Nat.le_of_ble_eq_true rfl), (Nat.le_of_ble_eq_true rfl)⟩) (fun q3 w2 H locs hK w => ?_)
  obtain ⟨a1, rfl, rfl⟩ := hK
  refine r_astq X w (([(b, .inr (1, [.ref q1, .int 0])), (q1, .inl (E.2.1.2.2, 4, .inr (.inr (.inr (.inr (va_up (va_up (fun _ => none) (0 : Int32).toNatClampNeg (some (a0 0))) (1 : Int32).toNatClampNeg (some (a1 0))))))))] ++ wSt E a0 sgI) ++ wSt E a1 sgI) 1 11 rfl rfl (vin_c rfl) rfl dX2_init_31 (fun H locs w => ?_)
  refine lv_iinc (v := 2) (lv' := [(1, .int 2), (0, .ref b)]) hx hb dX2_init_32 hl (k := 0) rfl (by first | rfl | decide) (by decide) rfl (fun ls hl => ?_)
  refine lv_goto (tgt := 14) hx hb dX2_init_35 (by decide) ?_
  refine lv_iload_n hx hb dX2_init_14 rfl (lv_at hl 0 rfl) ?_
  refine lv_iconst (v := 4) hx hb dX2_init_15 (by decide) ?_
  refine lv_icmp_ge (tgt := 38) hx hb dX2_init_16 (by decide) (fun h => absurd h (by decide)) (fun _ => ?_)
  refine lv_aload_n hx hb dX2_init_19 rfl (lv_at hl 1 rfl) ?_
  refine r_get X w CL2 0 (by decide) wf_X2_11 0 rfl rfl dX2_init_20 ?_
  refine lv_iload_n hx hb dX2_init_23 rfl (lv_at hl 0 rfl) ?_
  have hfsq4 : ∀ j, j < 14 → defaultValue (tyX4 j) = vp_V [.null, .null, .null, .null, .null, .null, .null, .null, .int 0, .int 0, .int 0, .int 0, .int 0, .int 0] j := by
      intro j hj
      match j, hj with
      | 0, _ => rfl
      | 1, _ => rfl
      | 2, _ => rfl
      | 3, _ => rfl
      | 4, _ => rfl
      | 5, _ => rfl
      | 6, _ => rfl
      | 7, _ => rfl
      | 8, _ => rfl
      | 9, _ => rfl
      | 10, _ => rfl
      | 11, _ => rfl
      | 12, _ => rfl
      | 13, _ => rfl
  refine r_mk0 (C := RX4) (fs := [.null, .null, .null, .null, .null, .null, .null, .null, .int 0, .int 0, .int 0, .int 0, .int 0, .int 0]) (ce := 8) (sl := 126) X w hA CL4 wcl_X2_9 wn_X4 wi_X4 hfsq4 dX2_init_24 dX2_init_27 (Nat.le_of_ble_eq_true rfl) (Nat.le_of_ble_eq_true rfl) (fun q H w => r_runI X hAO w (kX4_init l E q) ⟨wm_X2_15, wim_yX4_init, wi_X4, wc_yX4_init, by decide +kernel⟩ ⟨(Nat.le_of_ble_eq_true rfl), (Nat.le_of_ble_eq_true rfl)⟩ _ last_at rfl hl.1 (Nat.le_of_ble_eq_true rfl) dX2_init_28 ⟨(Nat.le_of_ble_eq_true rfl), (Nat.le_of_ble_eq_true rfl)⟩) (fun q4 w2 H locs hK w => ?_)
  obtain ⟨a2, rfl, rfl⟩ := hK
  refine r_astq X w ((([(b, .inr (1, [.ref q1, .int 0])), (q1, .inl (E.2.1.2.2, 4, .inr (.inr (.inr (.inr (va_up (va_up (va_up (fun _ => none) (0 : Int32).toNatClampNeg (some (a0 0))) (1 : Int32).toNatClampNeg (some (a1 0))) (2 : Int32).toNatClampNeg (some (a2 0))))))))] ++ wSt E a0 sgI) ++ wSt E a1 sgI) ++ wSt E a2 sgI) 1 20 rfl rfl (vin_c rfl) rfl dX2_init_31 (fun H locs w => ?_)
  refine lv_iinc (v := 3) (lv' := [(1, .int 3), (0, .ref b)]) hx hb dX2_init_32 hl (k := 0) rfl (by first | rfl | decide) (by decide) rfl (fun ls hl => ?_)
  refine lv_goto (tgt := 14) hx hb dX2_init_35 (by decide) ?_
  refine lv_iload_n hx hb dX2_init_14 rfl (lv_at hl 0 rfl) ?_
  refine lv_iconst (v := 4) hx hb dX2_init_15 (by decide) ?_
  refine lv_icmp_ge (tgt := 38) hx hb dX2_init_16 (by decide) (fun h => absurd h (by decide)) (fun _ => ?_)
  refine lv_aload_n hx hb dX2_init_19 rfl (lv_at hl 1 rfl) ?_
  refine r_get X w CL2 0 (by decide) wf_X2_11 0 rfl rfl dX2_init_20 ?_
  refine lv_iload_n hx hb dX2_init_23 rfl (lv_at hl 0 rfl) ?_
  have hfsq5 : ∀ j, j < 14 → defaultValue (tyX4 j) = vp_V [.null, .null, .null, .null, .null, .null, .null, .null, .int 0, .int 0, .int 0, .int 0, .int 0, .int 0] j := by
      intro j hj
      match j, hj with
      | 0, _ => rfl
      | 1, _ => rfl
      | 2, _ => rfl
      | 3, _ => rfl
      | 4, _ => rfl
      | 5, _ => rfl
      | 6, _ => rfl
      | 7, _ => rfl
      | 8, _ => rfl
      | 9, _ => rfl
      | 10, _ => rfl
      | 11, _ => rfl
      | 12, _ => rfl
      | 13, _ => rfl
  refine r_mk0 (C := RX4) (fs := [.null, .null, .null, .null, .null, .null, .null, .null, .int 0, .int 0, .int 0, .int 0, .int 0, .int 0]) (ce := 8) (sl := 126) X w hA CL4 wcl_X2_9 wn_X4 wi_X4 hfsq5 dX2_init_24 dX2_init_27 (Nat.le_of_ble_eq_true rfl) (Nat.le_of_ble_eq_true rfl) (fun q H w => r_runI X hAO w (kX4_init l E q) ⟨wm_X2_15, wim_yX4_init, wi_X4, wc_yX4_init, by decide +kernel⟩ ⟨(Nat.le_of_ble_eq_true rfl), (Nat.le_of_ble_eq_true rfl)⟩ _ last_at rfl hl.1 (Nat.le_of_ble_eq_true rfl) dX2_init_28 ⟨(Nat.le_of_ble_eq_true rfl), (Nat.le_of_ble_eq_true rfl)⟩) (fun q5 w2 H locs hK w => ?_)
  obtain ⟨a3, rfl, rfl⟩ := hK
  refine r_astq X w (((([(b, .inr (1, [.ref q1, .int 0])), (q1, .inl (E.2.1.2.2, 4, .inr (.inr (.inr (.inr (va_up (va_up (va_up (va_up (fun _ => none) (0 : Int32).toNatClampNeg (some (a0 0))) (1 : Int32).toNatClampNeg (some (a1 0))) (2 : Int32).toNatClampNeg (some (a2 0))) (3 : Int32).toNatClampNeg (some (a3 0))))))))] ++ wSt E a0 sgI) ++ wSt E a1 sgI) ++ wSt E a2 sgI) ++ wSt E a3 sgI) 1 29 rfl rfl (vin_c rfl) rfl dX2_init_31 (fun H locs w => ?_)
  refine lv_iinc (v := 4) (lv' := [(1, .int 4), (0, .ref b)]) hx hb dX2_init_32 hl (k := 0) rfl (by first | rfl | decide) (by decide) rfl (fun ls hl => ?_)
  refine lv_goto (tgt := 14) hx hb dX2_init_35 (by decide) ?_
  refine lv_iload_n hx hb dX2_init_14 rfl (lv_at hl 0 rfl) ?_
  refine lv_iconst (v := 4) hx hb dX2_init_15 (by decide) ?_
  refine lv_icmp_ge (tgt := 38) hx hb dX2_init_16 (by decide) (fun _ => ?_) (fun h => absurd (by decide) h)
  obtain ⟨hh, hhe⟩ : ∃ hh : Nat → Nat → Nat, hh = fun i => [a0, a1, a2, a3].getD i a3 := ⟨_, rfl⟩
  have w := w.arrq 1 (fun i => some (hh ((i + 0) % 4) 0)) rfl (by
    intro j hj
    rw [hhe]
    match j, hj with
    | 0, _ => rfl
    | 1, _ => rfl
    | 2, _ => rfl
    | 3, _ => rfl)
  have w : Wd E (va_A [(b, .inr (1, [.null, .int 0]))] s.heap.size) s (wHs E (adL [b, q1]) hh 0 0 (fun _ => sgI)) H locs := by
    have w2 : Wd E (va_A [(b, .inr (1, [.null, .int 0]))] s.heap.size) s ((((([(b, .inr (1, [.ref q1, .int 0])), (q1, .inl (E.2.1.2.2, 4, .inr (.inr (.inr (.inr (fun i => some (hh ((i + 0) % 4) 0)))))))] ++ wSt E a0 sgI) ++ wSt E a1 sgI) ++ wSt E a2 sgI) ++ wSt E a3 sgI)) H locs := w
    rw [List.append_assoc, List.append_assoc, List.append_assoc] at w2
    have h0 : hh 0 = a0 := by rw [hhe]; rfl
    have h1 : hh 1 = a1 := by rw [hhe]; rfl
    have h2 : hh 2 = a2 := by rw [hhe]; rfl
    have h3 : hh 3 = a3 := by rw [hhe]; rfl
    rw [← h0, ← h1, ← h2, ← h3] at w2
    exact w2
  exact r_nret X w hr (⟨adL [b, q1], hh, rfl, rfl⟩) (Nat.le_of_ble_eq_true rfl) (Nat.le_of_ble_eq_true rfl) dX2_init_38
theorem dX6_init_0 : decode cX6_init 0 = .ok (.aload_n 0, 1) := by decide +kernel
theorem dX6_init_1 : decode cX6_init 1 = .ok (.invokespecial 1, 3) := by decide +kernel
theorem dX6_init_4 : decode cX6_init 4 = .ok (.aload_n 0, 1) := by decide +kernel
theorem dX6_init_5 : decode cX6_init 5 = .ok (.new 7, 3) := by decide +kernel
theorem dX6_init_8 : decode cX6_init 8 = .ok (.dup, 1) := by decide +kernel
theorem dX6_init_9 : decode cX6_init 9 = .ok (.invokespecial 9, 3) := by decide +kernel
theorem dX6_init_12 : decode cX6_init 12 = .ok (.putfield 10, 3) := by decide +kernel
theorem dX6_init_15 : decode cX6_init 15 = .ok (.aload_n 0, 1) := by decide +kernel
theorem dX6_init_16 : decode cX6_init 16 = .ok (.new 7, 3) := by decide +kernel
theorem dX6_init_19 : decode cX6_init 19 = .ok (.dup, 1) := by decide +kernel
theorem dX6_init_20 : decode cX6_init 20 = .ok (.invokespecial 9, 3) := by decide +kernel
theorem dX6_init_23 : decode cX6_init 23 = .ok (.putfield 16, 3) := by decide +kernel
theorem dX6_init_26 : decode cX6_init 26 = .ok (.aload_n 0, 1) := by decide +kernel
theorem dX6_init_27 : decode cX6_init 27 = .ok (.new 7, 3) := by decide +kernel
theorem dX6_init_30 : decode cX6_init 30 = .ok (.dup, 1) := by decide +kernel
theorem dX6_init_31 : decode cX6_init 31 = .ok (.invokespecial 9, 3) := by decide +kernel
theorem dX6_init_34 : decode cX6_init 34 = .ok (.putfield 19, 3) := by decide +kernel
theorem dX6_init_37 : decode cX6_init 37 = .ok (.aload_n 0, 1) := by decide +kernel
theorem dX6_init_38 : decode cX6_init 38 = .ok (.new 22, 3) := by decide +kernel
theorem dX6_init_41 : decode cX6_init 41 = .ok (.dup, 1) := by decide +kernel
theorem dX6_init_42 : decode cX6_init 42 = .ok (.invokespecial 24, 3) := by decide +kernel
theorem dX6_init_45 : decode cX6_init 45 = .ok (.putfield 25, 3) := by decide +kernel
theorem dX6_init_48 : decode cX6_init 48 = .ok (.aload_n 0, 1) := by decide +kernel
theorem dX6_init_49 : decode cX6_init 49 = .ok (.new 29, 3) := by decide +kernel
theorem dX6_init_52 : decode cX6_init 52 = .ok (.dup, 1) := by decide +kernel
theorem dX6_init_53 : decode cX6_init 53 = .ok (.invokespecial 31, 3) := by decide +kernel
theorem dX6_init_56 : decode cX6_init 56 = .ok (.putfield 32, 3) := by decide +kernel
theorem dX6_init_59 : decode cX6_init 59 = .ok (.aload_n 0, 1) := by decide +kernel
theorem dX6_init_60 : decode cX6_init 60 = .ok (.new 36, 3) := by decide +kernel
theorem dX6_init_63 : decode cX6_init 63 = .ok (.dup, 1) := by decide +kernel
theorem dX6_init_64 : decode cX6_init 64 = .ok (.invokespecial 38, 3) := by decide +kernel
theorem dX6_init_67 : decode cX6_init 67 = .ok (.putfield 39, 3) := by decide +kernel
theorem dX6_init_70 : decode cX6_init 70 = .ok (.return_, 1) := by decide +kernel
set_option maxHeartbeats 4000000 in
set_option maxRecDepth 100000 in
theorem kX6_init (l : Launch) (E : Ev) (b : Nat) : KN l yX6_init cX6_init 1 5 160 71 1097 E [.ref b] [(b, .inr (5, [.null, .null, .null, .null, .null, .null, .int 0]))] (fun w2 => ∃ (a1 a2 a3 ah : Nat → Nat) (hh : Nat → Nat → Nat) (a5 : Nat → Nat) (k j : Nat), w2 = wHb b (a1 0) (a2 0) (a3 0) (ah 0) (a5 0) k 0 ++ (wSt E a1 sgI ++ (wSt E a2 sgI ++ (wSt E a3 sgI ++ (wHs E ah hh 0 0 (fun _ => sgI) ++ (wTx E a5 tgI ++ (wSh k j zgI 0 ++ wWk j zgI))))))) := by
  refine KN.mk RX6 rfl (by decide +kernel) (Nat.le_of_ble_eq_true rfl) ?_
  intro p e s m below meth c ls X hnm hAO hr w hl
  have hin : meth.name = "<init>" := hnm
  have hx := X.1
  have hb := X.2.1
  have hA : ∀ q : Nat, s.heap.size ≤ q → va_A [(b, .inr (5, [.null, .null, .null, .null, .null, .null, .int 0]))] s.heap.size q := fun q h => Or.inr h
  have hl : lv_has ls 1 [(0, .ref b)] := hl
  refine lv_aload_n hx hb dX6_init_0 rfl (lv_at hl 0 rfl) ?_
  refine r_obj X wm_X6_1 hl.1 dX6_init_1 (Nat.le_of_ble_eq_true rfl) (Nat.le_of_ble_eq_true rfl) ?_
  refine lv_aload_n hx hb dX6_init_4 rfl (lv_at hl 0 rfl) ?_
  have hfsq1 : ∀ j, j < 14 → defaultValue (tyX4 j) = vp_V [.null, .null, .null, .null, .null, .null, .null, .null, .int 0, .int 0, .int 0, .int 0, .int 0, .int 0] j := by
      intro j hj
      match j, hj with
      | 0, _ => rfl
      | 1, _ => rfl
      | 2, _ => rfl
      | 3, _ => rfl
      | 4, _ => rfl
      | 5, _ => rfl
      | 6, _ => rfl
      | 7, _ => rfl
      | 8, _ => rfl
      | 9, _ => rfl
      | 10, _ => rfl
      | 11, _ => rfl
      | 12, _ => rfl
      | 13, _ => rfl
  refine r_mk0 (C := RX4) (fs := [.null, .null, .null, .null, .null, .null, .null, .null, .int 0, .int 0, .int 0, .int 0, .int 0, .int 0]) (ce := 8) (sl := 126) X w hA CL4 wcl_X6_7 wn_X4 wi_X4 hfsq1 dX6_init_5 dX6_init_8 (Nat.le_of_ble_eq_true rfl) (Nat.le_of_ble_eq_true rfl) (fun q H w => r_runI X hAO w (kX4_init l E q) ⟨wm_X6_9, wim_yX4_init, wi_X4, wc_yX4_init, by decide +kernel⟩ ⟨(Nat.le_of_ble_eq_true rfl), (Nat.le_of_ble_eq_true rfl)⟩ _ last_at rfl hl.1 (Nat.le_of_ble_eq_true rfl) dX6_init_9 ⟨(Nat.le_of_ble_eq_true rfl), (Nat.le_of_ble_eq_true rfl)⟩) (fun q1 w2 H locs hK w => ?_)
  obtain ⟨a1, rfl, rfl⟩ := hK
  refine r_putF X w ([(b, .inr (5, [.ref (a1 0), .null, .null, .null, .null, .null, .int 0]))] ++ wSt E a1 sgI) CL6 0 (by decide) wf_X6_10 0 rfl rfl hin rfl rfl rfl (Nat.le_of_ble_eq_true rfl) rfl dX6_init_12 (fun H locs w => ?_)
  refine lv_aload_n hx hb dX6_init_15 rfl (lv_at hl 0 rfl) ?_
  have hfsq2 : ∀ j, j < 14 → defaultValue (tyX4 j) = vp_V [.null, .null, .null, .null, .null, .null, .null, .null, .int 0, .int 0, .int 0, .int 0, .int 0, .int 0] j := by
      intro j hj
      match j, hj with
      | 0, _ => rfl
      | 1, _ => rfl
      | 2, _ => rfl
      | 3, _ => rfl
      | 4, _ => rfl
      | 5, _ => rfl
      | 6, _ => rfl
      | 7, _ => rfl
      | 8, _ => rfl
      | 9, _ => rfl
      | 10, _ => rfl
      | 11, _ => rfl
      | 12, _ => rfl
      | 13, _ => rfl
  refine r_mk0 (C := RX4) (fs := [.null, .null, .null, .null, .null, .null, .null, .null, .int 0, .int 0, .int 0, .int 0, .int 0, .int 0]) (ce := 8) (sl := 126) X w hA CL4 wcl_X6_7 wn_X4 wi_X4 hfsq2 dX6_init_16 dX6_init_19 (Nat.le_of_ble_eq_true rfl) (Nat.le_of_ble_eq_true rfl) (fun q H w => r_runI X hAO w (kX4_init l E q) ⟨wm_X6_9, wim_yX4_init, wi_X4, wc_yX4_init, by decide +kernel⟩ ⟨(Nat.le_of_ble_eq_true rfl), (Nat.le_of_ble_eq_true rfl)⟩ _ last_at rfl hl.1 (Nat.le_of_ble_eq_true rfl) dX6_init_20 ⟨(Nat.le_of_ble_eq_true rfl), (Nat.le_of_ble_eq_true rfl)⟩) (fun q2 w2 H locs hK w => ?_)
  obtain ⟨a2, rfl, rfl⟩ := hK
  refine r_putF X w (([(b, .inr (5, [.ref (a1 0), .ref (a2 0), .null, .null, .null, .null, .int 0]))] ++ wSt E a1 sgI) ++ wSt E a2 sgI) CL6 1 (by decide) wf_X6_16 0 rfl rfl hin rfl rfl rfl (Nat.le_of_ble_eq_true rfl) rfl dX6_init_23 (fun H locs w => ?_)
  refine lv_aload_n hx hb dX6_init_26 rfl (lv_at hl 0 rfl) ?_
  have hfsq3 : ∀ j, j < 14 → defaultValue (tyX4 j) = vp_V [.null, .null, .null, .null, .null, .null, .null, .null, .int 0, .int 0, .int 0, .int 0, .int 0, .int 0] j := by
      intro j hj
      match j, hj with
      | 0, _ => rfl
      | 1, _ => rfl
      | 2, _ => rfl
      | 3, _ => rfl
      | 4, _ => rfl
      | 5, _ => rfl
      | 6, _ => rfl
      | 7, _ => rfl
      | 8, _ => rfl
      | 9, _ => rfl
      | 10, _ => rfl
      | 11, _ => rfl
      | 12, _ => rfl
      | 13, _ => rfl
  refine r_mk0 (C := RX4) (fs := [.null, .null, .null, .null, .null, .null, .null, .null, .int 0, .int 0, .int 0, .int 0, .int 0, .int 0]) (ce := 8) (sl := 126) X w hA CL4 wcl_X6_7 wn_X4 wi_X4 hfsq3 dX6_init_27 dX6_init_30 (Nat.le_of_ble_eq_true rfl) (Nat.le_of_ble_eq_true rfl) (fun q H w => r_runI X hAO w (kX4_init l E q) ⟨wm_X6_9, wim_yX4_init, wi_X4, wc_yX4_init, by decide +kernel⟩ ⟨(Nat.le_of_ble_eq_true rfl), (Nat.le_of_ble_eq_true rfl)⟩ _ last_at rfl hl.1 (Nat.le_of_ble_eq_true rfl) dX6_init_31 ⟨(Nat.le_of_ble_eq_true rfl), (Nat.le_of_ble_eq_true rfl)⟩) (fun q3 w2 H locs hK w => ?_)
  obtain ⟨a3, rfl, rfl⟩ := hK
  refine r_putF X w ((([(b, .inr (5, [.ref (a1 0), .ref (a2 0), .ref (a3 0), .null, .null, .null, .int 0]))] ++ wSt E a1 sgI) ++ wSt E a2 sgI) ++ wSt E a3 sgI) CL6 2 (by decide) wf_X6_19 0 rfl rfl hin rfl rfl rfl (Nat.le_of_ble_eq_true rfl) rfl dX6_init_34 (fun H locs w => ?_)
  refine lv_aload_n hx hb dX6_init_37 rfl (lv_at hl 0 rfl) ?_
  have hfsq4 : ∀ j, j < 2 → defaultValue (tyX2 j) = vp_V [.null, .int 0] j := by
      intro j hj
      match j, hj with
      | 0, _ => rfl
      | 1, _ => rfl
  refine r_mk0 (C := RX2) (fs := [.null, .int 0]) (ce := 37) (sl := 564) X w hA CL2 wcl_X6_22 wn_X2 wi_X2 hfsq4 dX6_init_38 dX6_init_41 (Nat.le_of_ble_eq_true rfl) (Nat.le_of_ble_eq_true rfl) (fun q H w => r_runI X hAO w (kX2_init l E q) ⟨wm_X6_24, wim_yX2_init, wi_X2, wc_yX2_init, by decide +kernel⟩ ⟨(Nat.le_of_ble_eq_true rfl), (Nat.le_of_ble_eq_true rfl)⟩ _ last_at rfl hl.1 (Nat.le_of_ble_eq_true rfl) dX6_init_42 ⟨(Nat.le_of_ble_eq_true rfl), (Nat.le_of_ble_eq_true rfl)⟩) (fun q4 w2 H locs hK w => ?_)
  obtain ⟨ah, hh, rfl, rfl⟩ := hK
  refine r_putF X w (((([(b, .inr (5, [.ref (a1 0), .ref (a2 0), .ref (a3 0), .ref (ah 0), .null, .null, .int 0]))] ++ wSt E a1 sgI) ++ wSt E a2 sgI) ++ wSt E a3 sgI) ++ wHs E ah hh 0 0 (fun _ => sgI)) CL6 3 (by decide) wf_X6_25 0 rfl rfl hin rfl rfl rfl (Nat.le_of_ble_eq_true rfl) rfl dX6_init_45 (fun H locs w => ?_)
  refine lv_aload_n hx hb dX6_init_48 rfl (lv_at hl 0 rfl) ?_
  have hfsq5 : ∀ j, j < 7 → defaultValue (tyX0 j) = vp_V [.null, .int 0, .null, .null, .int 0, .int 0, .int 0] j := by
      intro j hj
      match j, hj with
      | 0, _ => rfl
      | 1, _ => rfl
      | 2, _ => rfl
      | 3, _ => rfl
      | 4, _ => rfl
      | 5, _ => rfl
      | 6, _ => rfl
  refine r_mk0 (C := RX0) (fs := [.null, .int 0, .null, .null, .int 0, .int 0, .int 0]) (ce := 3) (sl := 92) X w hA CL0 wcl_X6_29 wn_X0 wi_X0 hfsq5 dX6_init_49 dX6_init_52 (Nat.le_of_ble_eq_true rfl) (Nat.le_of_ble_eq_true rfl) (fun q H w => r_runIN X hAO w (kX0_init l E q) ⟨nl_28, wim_yX0_init, wi_X0, wc_yX0_init, by decide +kernel⟩ ⟨(Nat.le_of_ble_eq_true rfl), (Nat.le_of_ble_eq_true rfl)⟩ _ last_at rfl hl.1 (Nat.le_of_ble_eq_true rfl) dX6_init_53 ⟨(Nat.le_of_ble_eq_true rfl), (Nat.le_of_ble_eq_true rfl)⟩) (fun q5 w2 H locs hK w => ?_)
  obtain ⟨a5, rfl, rfl⟩ := hK
  refine r_putF X w ((((([(b, .inr (5, [.ref (a1 0), .ref (a2 0), .ref (a3 0), .ref (ah 0), .ref (a5 0), .null, .int 0]))] ++ wSt E a1 sgI) ++ wSt E a2 sgI) ++ wSt E a3 sgI) ++ wHs E ah hh 0 0 (fun _ => sgI)) ++ wTx E a5 tgI) CL6 4 (by decide) wf_X6_32 0 rfl rfl hin rfl rfl rfl (Nat.le_of_ble_eq_true rfl) rfl dX6_init_56 (fun H locs w => ?_)
  refine lv_aload_n hx hb dX6_init_59 rfl (lv_at hl 0 rfl) ?_
  have hfsq6 : ∀ j, j < 9 → defaultValue (tyX3 j) = vp_V [.null, .int 0, .float 0, .int 0, .int 0, .int 0, .int 0, .int 0, .int 0] j := by
      intro j hj
      match j, hj with
      | 0, _ => rfl
      | 1, _ => rfl
      | 2, _ => rfl
      | 3, _ => rfl
      | 4, _ => rfl
      | 5, _ => rfl
      | 6, _ => rfl
      | 7, _ => rfl
      | 8, _ => rfl
  refine r_mk0 (C := RX3) (fs := [.null, .int 0, .float 0, .int 0, .int 0, .int 0, .int 0, .int 0, .int 0]) (ce := 1) (sl := 3) X w hA CL3 wcl_X6_36 wn_X3 wi_X3 hfsq6 dX6_init_60 dX6_init_63 (Nat.le_of_ble_eq_true rfl) (Nat.le_of_ble_eq_true rfl) (fun q H w => r_runIN X hAO w (kX3_init l E q) ⟨nl_29, wim_yX3_init, wi_X3, wc_yX3_init, by decide +kernel⟩ ⟨(Nat.le_of_ble_eq_true rfl), (Nat.le_of_ble_eq_true rfl)⟩ _ last_at rfl hl.1 (Nat.le_of_ble_eq_true rfl) dX6_init_64 ⟨(Nat.le_of_ble_eq_true rfl), (Nat.le_of_ble_eq_true rfl)⟩) (fun q6 w2 H locs hK w => ?_)
  obtain ⟨j, rfl⟩ := hK
  refine r_putF X w (((((([(b, .inr (5, [.ref (a1 0), .ref (a2 0), .ref (a3 0), .ref (ah 0), .ref (a5 0), .ref q6, .int 0]))] ++ wSt E a1 sgI) ++ wSt E a2 sgI) ++ wSt E a3 sgI) ++ wHs E ah hh 0 0 (fun _ => sgI)) ++ wTx E a5 tgI) ++ (wSh q6 j zgI 0 ++ wWk j zgI)) CL6 5 (by decide) wf_X6_39 0 rfl rfl hin rfl rfl rfl (Nat.le_of_ble_eq_true rfl) rfl dX6_init_67 (fun H locs w => ?_)
  rw [List.append_assoc, List.append_assoc, List.append_assoc, List.append_assoc, List.append_assoc] at w
  exact r_nret X w hr (⟨a1, a2, a3, ah, hh, a5, q6, j, rfl⟩) (Nat.le_of_ble_eq_true rfl) (Nat.le_of_ble_eq_true rfl) dX6_init_70
