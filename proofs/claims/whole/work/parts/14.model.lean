/-! the reference: rows searched and saved (printed by wip/whole/gen/p14.py) -/
def gE (μ : N2) : Prop := 0 ≤ (μ 0 12).toInt ∧ (μ 0 12).toInt ≤ 12
theorem gE.le {μ : N2} (h : gE μ) : (μ 0 12).toNatClampNeg ≤ 12 := by
  have := cl_toInt (x := μ 0 12) (by have := h.1; omega)
  have := h.2
  omega
theorem ix_k {c : Int32} {n k : Nat} (hc : 0 ≤ c.toInt) (hn : c.toInt + k < n) (hn2 : n ≤ 1000) : vp_in (c + nI k) n := by
  have e1 : (nI k).toInt = k := nI_toInt (by omega)
  rw [vp_in_iff, ti_add (by rw [e1]; omega) (by rw [e1]; omega), e1]
  omega
theorem ix_c {c x : Int32} {n : Nat} (hc : 0 ≤ c.toInt) (hx : 0 ≤ x.toInt) (hn : c.toInt + x.toInt < n) (hn2 : n ≤ 1000) : vp_in (c + x) n := by
  rw [vp_in_iff, ti_add (by omega) (by omega)]
  omega
theorem ix_v {c x : Int32} {n m : Nat} (h : vp_in x m) (hc : 0 ≤ c.toInt) (hn : c.toInt + m ≤ n) (hn2 : n ≤ 1000) : vp_in (c + x) n := by
  rw [vp_in_iff] at h
  exact ix_c hc h.1 (by omega) hn2
theorem Wd.cw {E : Ev} {A : Nat → Prop} {s : State} {ws ws' : va_W} {H : Heap} {locs : List Loc} (w : Wd E A s ws H locs) (e : ws' = ws) : Wd E A s ws' H locs := e ▸ w
/-- the ball on a cell: the first of that cell -/
def boN (f : N1) (ce : Int32) : Nat → Nat → Int32
  | 0, _ => (-5)
  | n + 1, k => if f (13 + nI k).toNatClampNeg = ce then nI k else boN f ce n (k + 1)
def fX7_ballOn (μ : N2) (sp : UInt32) (ce : Int32) : Int32 := boN (μ 0) ce (μ 0 12).toNatClampNeg 0
def ofN (f : N1) : Nat → Int32
  | 0 => 0
  | k + 1 => if f (13 + nI k).toNatClampNeg = (-5) then ofN f k + 0 else ofN f k + 1
def fX7_onFelt (μ : N2) (sp : UInt32) : Int32 := ofN (μ 0) (μ 0 12).toNatClampNeg
theorem dX7_ballOn_0 : decode cX7_ballOn 0 = .ok (.iconst 0, 1) := by decide +kernel
theorem dX7_ballOn_1 : decode cX7_ballOn 1 = .ok (.istore_n 2, 1) := by decide +kernel
theorem dX7_ballOn_2 : decode cX7_ballOn 2 = .ok (.iload_n 2, 1) := by decide +kernel
theorem dX7_ballOn_3 : decode cX7_ballOn 3 = .ok (.aload_n 0, 1) := by decide +kernel
theorem dX7_ballOn_4 : decode cX7_ballOn 4 = .ok (.getfield 7, 3) := by decide +kernel
theorem dX7_ballOn_7 : decode cX7_ballOn 7 = .ok (.bipush 12, 2) := by decide +kernel
theorem dX7_ballOn_9 : decode cX7_ballOn 9 = .ok (.iaload, 1) := by decide +kernel
theorem dX7_ballOn_10 : decode cX7_ballOn 10 = .ok (.if_icmp .ge 24, 3) := by decide +kernel
theorem dX7_ballOn_13 : decode cX7_ballOn 13 = .ok (.aload_n 0, 1) := by decide +kernel
theorem dX7_ballOn_14 : decode cX7_ballOn 14 = .ok (.getfield 7, 3) := by decide +kernel
theorem dX7_ballOn_17 : decode cX7_ballOn 17 = .ok (.bipush 13, 2) := by decide +kernel
theorem dX7_ballOn_19 : decode cX7_ballOn 19 = .ok (.iload_n 2, 1) := by decide +kernel
theorem dX7_ballOn_20 : decode cX7_ballOn 20 = .ok (.iadd, 1) := by decide +kernel
theorem dX7_ballOn_21 : decode cX7_ballOn 21 = .ok (.iaload, 1) := by decide +kernel
theorem dX7_ballOn_22 : decode cX7_ballOn 22 = .ok (.iload_n 1, 1) := by decide +kernel
theorem dX7_ballOn_23 : decode cX7_ballOn 23 = .ok (.if_icmp .ne 5, 3) := by decide +kernel
theorem dX7_ballOn_26 : decode cX7_ballOn 26 = .ok (.iload_n 2, 1) := by decide +kernel
theorem dX7_ballOn_27 : decode cX7_ballOn 27 = .ok (.ireturn, 1) := by decide +kernel
theorem dX7_ballOn_28 : decode cX7_ballOn 28 = .ok (.iinc 2 1, 3) := by decide +kernel
theorem dX7_ballOn_31 : decode cX7_ballOn 31 = .ok (.goto (-29), 3) := by decide +kernel
theorem dX7_ballOn_34 : decode cX7_ballOn 34 = .ok (.bipush (-5), 2) := by decide +kernel
theorem dX7_ballOn_36 : decode cX7_ballOn 36 = .ok (.ireturn, 1) := by decide +kernel
set_option maxHeartbeats 4000000 in
set_option maxRecDepth 100000 in
theorem kX7_ballOn (l : Launch) (E : Ev) (a : Nat → Nat) (μ : N2) (sp : UInt32) (ce : Int32) (hev : gE μ) : KQ l yX7_ballOn cX7_ballOn 3 (some .int) 0 0 E [.ref (a 0), .int ce] (wMd E a μ sp) (QI E (wMd E a μ sp) (fX7_ballOn μ sp ce) (wMd E a μ sp)) := by
  refine KQ.mk RX7 rfl (by decide +kernel) (Nat.le_of_ble_eq_true rfl) ?_
  intro p e s m below meth c ls X hr w hl
  have hx := X.1
  have hb := X.2.1
  have hl : lv_has ls 3 [(0, .ref (a 0)), (1, .int ce)] := hl
  refine lv_iconst (v := 0) hx hb dX7_ballOn_0 (by decide) ?_
  refine lv_istore_n (lv' := [(2, .int 0), (0, .ref (a 0)), (1, .int ce)]) hx hb dX7_ballOn_1 rfl hl (by decide) rfl (fun ls hl => ?_)
  have loop : ∀ (n k : Nat), k + n = (μ 0 12).toNatClampNeg → boN (μ 0) ce n k = fX7_ballOn μ sp ce → ∀ (H : Heap) (locs : List Loc), Wd E (hB (wMd E a μ sp)) s (wMd E a μ sp) H locs → ∀ (ls : Array Slot), lv_has ls 3 [(2, .int (nI k)), (0, .ref (a 0)), (1, .int ce)] → W p l e { frames := 0, cells := 0, slots := 0, locals := 0 } s m (([.ref (a 0), .int ce] : List Value)).toArray below meth c H locs 0 0 (MQ below (QI E (wMd E a μ sp) (fX7_ballOn μ sp ce) (wMd E a μ sp)) (([.ref (a 0), .int ce] : List Value)).toArray s 0 0 (hB (wMd E a μ sp))) (F0 m 2 ls []) := by
    intro n
    induction n with
    | zero =>
      intro k hk_k hR H locs w ls hl
      obtain rfl : (μ 0 12).toNatClampNeg = k := by omega
      refine lv_iload_n hx hb dX7_ballOn_2 rfl (lv_at hl 0 rfl) ?_
      refine lv_aload_n hx hb dX7_ballOn_3 rfl (lv_at hl 1 rfl) ?_
      refine r_get X w CL7 0 (by decide) wf_X7_7 0 rfl rfl dX7_ballOn_4 ?_
      refine lv_bipush (v := 12) hx hb dX7_ballOn_7 (by decide) ?_
      refine r_ialdL X w 1 rfl (j := 12) rfl (vin_c rfl) dX7_ballOn_9 ?_
      refine lv_icmp_ge (tgt := 34) hx hb dX7_ballOn_10 (by decide) (fun _ => ?_) (fun h => absurd (le_cl _) h)
      refine lv_bipush (v := (-5)) hx hb dX7_ballOn_34 (by decide) ?_
      have hq : fX7_ballOn μ sp ce = ((-5)) := by rw [← hR]; simp only [boN]
      rw [hq]
      exact r_iret X w hr rfl dX7_ballOn_36
    | succ n ih =>
      intro k hk_k hR H locs w ls hl
      have hkN : k < (μ 0 12).toNatClampNeg := by omega
      refine lv_iload_n hx hb dX7_ballOn_2 rfl (lv_at hl 0 rfl) ?_
      refine lv_aload_n hx hb dX7_ballOn_3 rfl (lv_at hl 1 rfl) ?_
      refine r_get X w CL7 0 (by decide) wf_X7_7 0 rfl rfl dX7_ballOn_4 ?_
      refine lv_bipush (v := 12) hx hb dX7_ballOn_7 (by decide) ?_
      refine r_ialdL X w 1 rfl (j := 12) rfl (vin_c rfl) dX7_ballOn_9 ?_
      refine lv_icmp_ge (tgt := 34) hx hb dX7_ballOn_10 (by decide) (fun h => absurd h (lt_cl hkN)) (fun _ => ?_)
      refine lv_aload_n hx hb dX7_ballOn_13 rfl (lv_at hl 1 rfl) ?_
      refine r_get X w CL7 0 (by decide) wf_X7_7 0 rfl rfl dX7_ballOn_14 ?_
      refine lv_bipush (v := 13) hx hb dX7_ballOn_17 (by decide) ?_
      refine lv_iload_n hx hb dX7_ballOn_19 rfl (lv_at hl 0 rfl) ?_
      refine lv_iadd hx hb dX7_ballOn_20 ?_
      refine r_iald X w 1 rfl (ix_k (by decide) (by have := hev.le; show (13 : Int) + _ < 73; omega) (by decide)) dX7_ballOn_21 ?_
      refine lv_iload_n hx hb dX7_ballOn_22 rfl (lv_at hl 2 rfl) ?_
      refine lv_icmp_ne (tgt := 28) hx hb dX7_ballOn_23 (by decide) (fun c23_3 => ?_) (fun c23_3 => ?_)
      · refine lv_iinc (v := (nI k) + 1) (lv' := [(2, .int ((nI k) + 1)), (0, .ref (a 0)), (1, .int ce)]) hx hb dX7_ballOn_28 hl (k := 0) rfl (by first | rfl | decide) (by decide) rfl (fun ls hl => ?_)
        refine lv_goto (tgt := 2) hx hb dX7_ballOn_31 (by decide) ?_
        have e0 : nI k + 1 = nI (k + 1) := nI_1 k
        rw [e0] at hl
        exact ih (k + 1) (by omega) (by rw [← hR]; simp only [boN, if_neg c23_3]) _ _ w ls (lv_sub hl [0, 1, 2] rfl)
      · refine lv_iload_n hx hb dX7_ballOn_26 rfl (lv_at hl 0 rfl) ?_
        have hq : fX7_ballOn μ sp ce = (nI k) := by rw [← hR]; simp only [boN, if_pos c23_3]
        rw [hq]
        exact r_iret X w hr rfl dX7_ballOn_27
  exact loop ((μ 0 12).toNatClampNeg) 0 (by omega) rfl _ _ w ls (lv_sub hl [0, 1, 2] rfl)
theorem dX7_onFelt_0 : decode cX7_onFelt 0 = .ok (.iconst 0, 1) := by decide +kernel
theorem dX7_onFelt_1 : decode cX7_onFelt 1 = .ok (.istore_n 1, 1) := by decide +kernel
theorem dX7_onFelt_2 : decode cX7_onFelt 2 = .ok (.iconst 0, 1) := by decide +kernel
theorem dX7_onFelt_3 : decode cX7_onFelt 3 = .ok (.istore_n 2, 1) := by decide +kernel
theorem dX7_onFelt_4 : decode cX7_onFelt 4 = .ok (.iload_n 2, 1) := by decide +kernel
theorem dX7_onFelt_5 : decode cX7_onFelt 5 = .ok (.aload_n 0, 1) := by decide +kernel
theorem dX7_onFelt_6 : decode cX7_onFelt 6 = .ok (.getfield 7, 3) := by decide +kernel
theorem dX7_onFelt_9 : decode cX7_onFelt 9 = .ok (.bipush 12, 2) := by decide +kernel
theorem dX7_onFelt_11 : decode cX7_onFelt 11 = .ok (.iaload, 1) := by decide +kernel
theorem dX7_onFelt_12 : decode cX7_onFelt 12 = .ok (.if_icmp .ge 31, 3) := by decide +kernel
theorem dX7_onFelt_15 : decode cX7_onFelt 15 = .ok (.iload_n 1, 1) := by decide +kernel
theorem dX7_onFelt_16 : decode cX7_onFelt 16 = .ok (.aload_n 0, 1) := by decide +kernel
theorem dX7_onFelt_17 : decode cX7_onFelt 17 = .ok (.getfield 7, 3) := by decide +kernel
theorem dX7_onFelt_20 : decode cX7_onFelt 20 = .ok (.bipush 13, 2) := by decide +kernel
theorem dX7_onFelt_22 : decode cX7_onFelt 22 = .ok (.iload_n 2, 1) := by decide +kernel
theorem dX7_onFelt_23 : decode cX7_onFelt 23 = .ok (.iadd, 1) := by decide +kernel
theorem dX7_onFelt_24 : decode cX7_onFelt 24 = .ok (.iaload, 1) := by decide +kernel
theorem dX7_onFelt_25 : decode cX7_onFelt 25 = .ok (.bipush (-5), 2) := by decide +kernel
theorem dX7_onFelt_27 : decode cX7_onFelt 27 = .ok (.if_icmp .ne 7, 3) := by decide +kernel
theorem dX7_onFelt_30 : decode cX7_onFelt 30 = .ok (.iconst 0, 1) := by decide +kernel
theorem dX7_onFelt_31 : decode cX7_onFelt 31 = .ok (.goto 4, 3) := by decide +kernel
theorem dX7_onFelt_34 : decode cX7_onFelt 34 = .ok (.iconst 1, 1) := by decide +kernel
theorem dX7_onFelt_35 : decode cX7_onFelt 35 = .ok (.iadd, 1) := by decide +kernel
theorem dX7_onFelt_36 : decode cX7_onFelt 36 = .ok (.istore_n 1, 1) := by decide +kernel
theorem dX7_onFelt_37 : decode cX7_onFelt 37 = .ok (.iinc 2 1, 3) := by decide +kernel
theorem dX7_onFelt_40 : decode cX7_onFelt 40 = .ok (.goto (-36), 3) := by decide +kernel
theorem dX7_onFelt_43 : decode cX7_onFelt 43 = .ok (.iload_n 1, 1) := by decide +kernel
theorem dX7_onFelt_44 : decode cX7_onFelt 44 = .ok (.ireturn, 1) := by decide +kernel
set_option maxHeartbeats 4000000 in
set_option maxRecDepth 100000 in
theorem kX7_onFelt (l : Launch) (E : Ev) (a : Nat → Nat) (μ : N2) (sp : UInt32) (hev : gE μ) : KQ l yX7_onFelt cX7_onFelt 3 (some .int) 0 0 E [.ref (a 0)] (wMd E a μ sp) (QI E (wMd E a μ sp) (fX7_onFelt μ sp) (wMd E a μ sp)) := by
  refine KQ.mk RX7 rfl (by decide +kernel) (Nat.le_of_ble_eq_true rfl) ?_
  intro p e s m below meth c ls X hr w hl
  have hx := X.1
  have hb := X.2.1
  have hl : lv_has ls 3 [(0, .ref (a 0))] := hl
  refine lv_iconst (v := 0) hx hb dX7_onFelt_0 (by decide) ?_
  refine lv_istore_n (lv' := [(1, .int 0), (0, .ref (a 0))]) hx hb dX7_onFelt_1 rfl hl (by decide) rfl (fun ls hl => ?_)
  refine lv_iconst (v := 0) hx hb dX7_onFelt_2 (by decide) ?_
  refine lv_istore_n (lv' := [(2, .int 0), (1, .int 0), (0, .ref (a 0))]) hx hb dX7_onFelt_3 rfl hl (by decide) rfl (fun ls hl => ?_)
  have loop : ∀ (n k : Nat), k + n = (μ 0 12).toNatClampNeg → ∀ (H : Heap) (locs : List Loc), Wd E (hB (wMd E a μ sp)) s (wMd E a μ sp) H locs → ∀ (ls : Array Slot), lv_has ls 3 [(2, .int (nI k)), (1, .int (ofN (μ 0) k)), (0, .ref (a 0))] → W p l e { frames := 0, cells := 0, slots := 0, locals := 0 } s m (([.ref (a 0)] : List Value)).toArray below meth c H locs 0 0 (MQ below (QI E (wMd E a μ sp) (fX7_onFelt μ sp) (wMd E a μ sp)) (([.ref (a 0)] : List Value)).toArray s 0 0 (hB (wMd E a μ sp))) (F0 m 4 ls []) := by
    intro n
    induction n with
    | zero =>
      intro k hk_k H locs w ls hl
      obtain rfl : (μ 0 12).toNatClampNeg = k := by omega
      refine lv_iload_n hx hb dX7_onFelt_4 rfl (lv_at hl 0 rfl) ?_
      refine lv_aload_n hx hb dX7_onFelt_5 rfl (lv_at hl 2 rfl) ?_
      refine r_get X w CL7 0 (by decide) wf_X7_7 0 rfl rfl dX7_onFelt_6 ?_
      refine lv_bipush (v := 12) hx hb dX7_onFelt_9 (by decide) ?_
      refine r_ialdL X w 1 rfl (j := 12) rfl (vin_c rfl) dX7_onFelt_11 ?_
      refine lv_icmp_ge (tgt := 43) hx hb dX7_onFelt_12 (by decide) (fun _ => ?_) (fun h => absurd (le_cl _) h)
      refine lv_iload_n hx hb dX7_onFelt_43 rfl (lv_at hl 1 rfl) ?_
      have hq : fX7_onFelt μ sp = (ofN (μ 0) (μ 0 12).toNatClampNeg) := rfl
      rw [hq]
      exact r_iret X w hr rfl dX7_onFelt_44
    | succ n ih =>
      intro k hk_k H locs w ls hl
      have hkN : k < (μ 0 12).toNatClampNeg := by omega
      refine lv_iload_n hx hb dX7_onFelt_4 rfl (lv_at hl 0 rfl) ?_
      refine lv_aload_n hx hb dX7_onFelt_5 rfl (lv_at hl 2 rfl) ?_
      refine r_get X w CL7 0 (by decide) wf_X7_7 0 rfl rfl dX7_onFelt_6 ?_
      refine lv_bipush (v := 12) hx hb dX7_onFelt_9 (by decide) ?_
      refine r_ialdL X w 1 rfl (j := 12) rfl (vin_c rfl) dX7_onFelt_11 ?_
      refine lv_icmp_ge (tgt := 43) hx hb dX7_onFelt_12 (by decide) (fun h => absurd h (lt_cl hkN)) (fun _ => ?_)
      refine lv_iload_n hx hb dX7_onFelt_15 rfl (lv_at hl 1 rfl) ?_
      refine lv_aload_n hx hb dX7_onFelt_16 rfl (lv_at hl 2 rfl) ?_
      refine r_get X w CL7 0 (by decide) wf_X7_7 0 rfl rfl dX7_onFelt_17 ?_
      refine lv_bipush (v := 13) hx hb dX7_onFelt_20 (by decide) ?_
      refine lv_iload_n hx hb dX7_onFelt_22 rfl (lv_at hl 0 rfl) ?_
      refine lv_iadd hx hb dX7_onFelt_23 ?_
      refine r_iald X w 1 rfl (ix_k (by decide) (by have := hev.le; show (13 : Int) + _ < 73; omega) (by decide)) dX7_onFelt_24 ?_
      refine lv_bipush (v := (-5)) hx hb dX7_onFelt_25 (by decide) ?_
      refine lv_icmp_ne (tgt := 34) hx hb dX7_onFelt_27 (by decide) (fun c27_3 => ?_) (fun c27_3 => ?_)
      · refine lv_iconst (v := 1) hx hb dX7_onFelt_34 (by decide) ?_
        refine lv_iadd hx hb dX7_onFelt_35 ?_
        refine lv_istore_n (lv' := [(1, .int ((ofN (μ 0) k) + 1)), (2, .int (nI k)), (0, .ref (a 0))]) hx hb dX7_onFelt_36 rfl hl (by decide) rfl (fun ls hl => ?_)
        refine lv_iinc (v := (nI k) + 1) (lv' := [(2, .int ((nI k) + 1)), (1, .int ((ofN (μ 0) k) + 1)), (0, .ref (a 0))]) hx hb dX7_onFelt_37 hl (k := 1) rfl (by first | rfl | decide) (by decide) rfl (fun ls hl => ?_)
        refine lv_goto (tgt := 4) hx hb dX7_onFelt_40 (by decide) ?_
        have e0 : nI k + 1 = nI (k + 1) := nI_1 k
        rw [e0] at hl
        have e1 : (ofN (μ 0) k) + 1 = ofN (μ 0) (k + 1) := by rw [ofN, if_neg c27_3]
        rw [e1] at hl
        exact ih (k + 1) (by omega) _ _ w ls (lv_sub hl [0, 1, 2] rfl)
      · refine lv_iconst (v := 0) hx hb dX7_onFelt_30 (by decide) ?_
        refine lv_goto (tgt := 35) hx hb dX7_onFelt_31 (by decide) ?_
        refine lv_iadd hx hb dX7_onFelt_35 ?_
        refine lv_istore_n (lv' := [(1, .int ((ofN (μ 0) k) + 0)), (2, .int (nI k)), (0, .ref (a 0))]) hx hb dX7_onFelt_36 rfl hl (by decide) rfl (fun ls hl => ?_)
        refine lv_iinc (v := (nI k) + 1) (lv' := [(2, .int ((nI k) + 1)), (1, .int ((ofN (μ 0) k) + 0)), (0, .ref (a 0))]) hx hb dX7_onFelt_37 hl (k := 1) rfl (by first | rfl | decide) (by decide) rfl (fun ls hl => ?_)
        refine lv_goto (tgt := 4) hx hb dX7_onFelt_40 (by decide) ?_
        have e0 : nI k + 1 = nI (k + 1) := nI_1 k
        rw [e0] at hl
        have e1 : (ofN (μ 0) k) + 0 = ofN (μ 0) (k + 1) := by rw [ofN, if_pos c27_3]
        rw [e1] at hl
        exact ih (k + 1) (by omega) _ _ w ls (lv_sub hl [0, 1, 2] rfl)
  exact loop ((μ 0 12).toNatClampNeg) 0 (by omega) _ _ w ls (lv_sub hl [0, 1, 2] rfl)
def bdN (μ : N2) (sp : UInt32) (ce : Int32) : Nat → Int32
  | 0 => 0
  | k + 1 => if fX7_ahead μ sp ce (nI k) = (-5) then bdN μ sp ce k + 0 else bdN μ sp ce k + 1
def fX7_besides (μ : N2) (sp : UInt32) (ce : Int32) : Int32 := bdN μ sp ce 6
theorem dX7_besides_0 : decode cX7_besides 0 = .ok (.iconst 0, 1) := by decide +kernel
theorem dX7_besides_1 : decode cX7_besides 1 = .ok (.istore_n 2, 1) := by decide +kernel
theorem dX7_besides_2 : decode cX7_besides 2 = .ok (.iconst 0, 1) := by decide +kernel
theorem dX7_besides_3 : decode cX7_besides 3 = .ok (.istore_n 3, 1) := by decide +kernel
theorem dX7_besides_4 : decode cX7_besides 4 = .ok (.iload_n 3, 1) := by decide +kernel
theorem dX7_besides_5 : decode cX7_besides 5 = .ok (.bipush 6, 2) := by decide +kernel
theorem dX7_besides_7 : decode cX7_besides 7 = .ok (.if_icmp .ge 28, 3) := by decide +kernel
theorem dX7_besides_10 : decode cX7_besides 10 = .ok (.iload_n 2, 1) := by decide +kernel
theorem dX7_besides_11 : decode cX7_besides 11 = .ok (.aload_n 0, 1) := by decide +kernel
theorem dX7_besides_12 : decode cX7_besides 12 = .ok (.iload_n 1, 1) := by decide +kernel
theorem dX7_besides_13 : decode cX7_besides 13 = .ok (.iload_n 3, 1) := by decide +kernel
theorem dX7_besides_14 : decode cX7_besides 14 = .ok (.invokevirtual 86, 3) := by decide +kernel
theorem dX7_besides_17 : decode cX7_besides 17 = .ok (.bipush (-5), 2) := by decide +kernel
theorem dX7_besides_19 : decode cX7_besides 19 = .ok (.if_icmp .ne 7, 3) := by decide +kernel
theorem dX7_besides_22 : decode cX7_besides 22 = .ok (.iconst 0, 1) := by decide +kernel
theorem dX7_besides_23 : decode cX7_besides 23 = .ok (.goto 4, 3) := by decide +kernel
theorem dX7_besides_26 : decode cX7_besides 26 = .ok (.iconst 1, 1) := by decide +kernel
theorem dX7_besides_27 : decode cX7_besides 27 = .ok (.iadd, 1) := by decide +kernel
theorem dX7_besides_28 : decode cX7_besides 28 = .ok (.istore_n 2, 1) := by decide +kernel
theorem dX7_besides_29 : decode cX7_besides 29 = .ok (.iinc 3 1, 3) := by decide +kernel
theorem dX7_besides_32 : decode cX7_besides 32 = .ok (.goto (-28), 3) := by decide +kernel
theorem dX7_besides_35 : decode cX7_besides 35 = .ok (.iload_n 2, 1) := by decide +kernel
theorem dX7_besides_36 : decode cX7_besides 36 = .ok (.ireturn, 1) := by decide +kernel
theorem ck_X7_86 : CkV RX7 86 RX7 yX7_ahead cX7_ahead 3 (some .int) 2 := ⟨wm_X7_86, wim_yX7_ahead, wse_yX7_ahead, wi_X7, wc_yX7_ahead, by decide +kernel⟩
set_option maxHeartbeats 4000000 in
set_option maxRecDepth 100000 in
theorem kX7_besides (l : Launch) (E : Ev) (a : Nat → Nat) (μ : N2) (sp : UInt32) (ce : Int32) (hc : vp_in ce 61) : KQ l yX7_besides cX7_besides 4 (some .int) 3 69 E [.ref (a 0), .int ce] (wMd E a μ sp) (QI E (wMd E a μ sp) (fX7_besides μ sp ce) (wMd E a μ sp)) := by
  refine KQ.mk RX7 rfl (by decide +kernel) (Nat.le_of_ble_eq_true rfl) ?_
  intro p e s m below meth c ls X hr w hl
  have hx := X.1
  have hb := X.2.1
  have hl : lv_has ls 4 [(0, .ref (a 0)), (1, .int ce)] := hl
  refine lv_iconst (v := 0) hx hb dX7_besides_0 (by decide) ?_
  refine lv_istore_n (lv' := [(2, .int 0), (0, .ref (a 0)), (1, .int ce)]) hx hb dX7_besides_1 rfl hl (by decide) rfl (fun ls hl => ?_)
  refine lv_iconst (v := 0) hx hb dX7_besides_2 (by decide) ?_
  refine lv_istore_n (lv' := [(3, .int 0), (2, .int 0), (0, .ref (a 0)), (1, .int ce)]) hx hb dX7_besides_3 rfl hl (by decide) rfl (fun ls hl => ?_)
  have loop : ∀ (n k : Nat), k + n = 6 → ∀ (H : Heap) (locs : List Loc), Wd E (hB (wMd E a μ sp)) s (wMd E a μ sp) H locs → ∀ (ls : Array Slot), lv_has ls 4 [(3, .int (nI k)), (2, .int (bdN μ sp ce k)), (0, .ref (a 0)), (1, .int ce)] → W p l e { frames := 3, cells := 0, slots := 0, locals := 69 } s m (([.ref (a 0), .int ce] : List Value)).toArray below meth c H locs 0 0 (MQ below (QI E (wMd E a μ sp) (fX7_besides μ sp ce) (wMd E a μ sp)) (([.ref (a 0), .int ce] : List Value)).toArray s 0 0 (hB (wMd E a μ sp))) (F0 m 4 ls []) := by
    intro n
    induction n with
    | zero =>
      intro k hk_k H locs w ls hl
      obtain rfl : k = 6 := by omega
      refine lv_iload_n hx hb dX7_besides_4 rfl (lv_at hl 0 rfl) ?_
      refine lv_bipush (v := 6) hx hb dX7_besides_5 (by decide) ?_
      refine lv_icmp_ge (tgt := 35) hx hb dX7_besides_7 (by decide) (fun _ => ?_) (fun h => absurd (by decide : (6 : Int32) ≤ nI 6) h)
      refine lv_iload_n hx hb dX7_besides_35 rfl (lv_at hl 1 rfl) ?_
      have hq : fX7_besides μ sp ce = (bdN μ sp ce 6) := rfl
      rw [hq]
      exact r_iret X w hr rfl dX7_besides_36
    | succ n ih =>
      intro k hk_k H locs w ls hl
      have hkN : k < 6 := by omega
      refine lv_iload_n hx hb dX7_besides_4 rfl (lv_at hl 0 rfl) ?_
      refine lv_bipush (v := 6) hx hb dX7_besides_5 (by decide) ?_
      refine lv_icmp_ge (tgt := 35) hx hb dX7_besides_7 (by decide) (fun h => absurd h (nI_ge (b := 6) hkN (by decide))) (fun _ => ?_)
      refine lv_iload_n hx hb dX7_besides_10 rfl (lv_at hl 1 rfl) ?_
      refine lv_aload_n hx hb dX7_besides_11 rfl (lv_at hl 2 rfl) ?_
      refine lv_iload_n hx hb dX7_besides_12 rfl (lv_at hl 3 rfl) ?_
      refine lv_iload_n hx hb dX7_besides_13 rfl (lv_at hl 0 rfl) ?_
      refine r_ci w (r_runV (As := [.int ce, .int (nI k)]) (rest := [.int (bdN μ sp ce k)]) X w (kX7_ahead l E a μ sp ce (nI k) hc) ck_X7_86 ⟨Nat.le_of_ble_eq_true rfl, Nat.le_of_ble_eq_true rfl⟩ [0, 1, 2, 3, 4, 5, 6, 7, 8, 9] (hc_81 (E := E)) (by decide +kernel) (k0 := 0) CL7 rfl hl.1 (Nat.le_of_ble_eq_true rfl) rfl dX7_besides_14 ⟨Nat.le_of_ble_eq_true rfl, Nat.le_of_ble_eq_true rfl⟩) (wMd E a μ sp) [0, 1, 2, 3, 4, 5, 6, 7, 8, 9] (hc_81 (E := E)) (by decide +kernel) (ha_81 (E := E)) (hw_81 (E := E)) (fun H locs w => ?_)
      refine lv_bipush (v := (-5)) hx hb dX7_besides_17 (by decide) ?_
      refine lv_icmp_ne (tgt := 26) hx hb dX7_besides_19 (by decide) (fun c19_3 => ?_) (fun c19_3 => ?_)
      · refine lv_iconst (v := 1) hx hb dX7_besides_26 (by decide) ?_
        refine lv_iadd hx hb dX7_besides_27 ?_
        refine lv_istore_n (lv' := [(2, .int ((bdN μ sp ce k) + 1)), (3, .int (nI k)), (0, .ref (a 0)), (1, .int ce)]) hx hb dX7_besides_28 rfl hl (by decide) rfl (fun ls hl => ?_)
        refine lv_iinc (v := (nI k) + 1) (lv' := [(3, .int ((nI k) + 1)), (2, .int ((bdN μ sp ce k) + 1)), (0, .ref (a 0)), (1, .int ce)]) hx hb dX7_besides_29 hl (k := 1) rfl (by first | rfl | decide) (by decide) rfl (fun ls hl => ?_)
        refine lv_goto (tgt := 4) hx hb dX7_besides_32 (by decide) ?_
        have e0 : nI k + 1 = nI (k + 1) := nI_1 k
        rw [e0] at hl
        have e1 : (bdN μ sp ce k) + 1 = bdN μ sp ce (k + 1) := by rw [bdN, if_neg c19_3]
        rw [e1] at hl
        exact ih (k + 1) (by omega) _ _ w ls (lv_sub hl [0, 1, 2, 3] rfl)
      · refine lv_iconst (v := 0) hx hb dX7_besides_22 (by decide) ?_
        refine lv_goto (tgt := 27) hx hb dX7_besides_23 (by decide) ?_
        refine lv_iadd hx hb dX7_besides_27 ?_
        refine lv_istore_n (lv' := [(2, .int ((bdN μ sp ce k) + 0)), (3, .int (nI k)), (0, .ref (a 0)), (1, .int ce)]) hx hb dX7_besides_28 rfl hl (by decide) rfl (fun ls hl => ?_)
        refine lv_iinc (v := (nI k) + 1) (lv' := [(3, .int ((nI k) + 1)), (2, .int ((bdN μ sp ce k) + 0)), (0, .ref (a 0)), (1, .int ce)]) hx hb dX7_besides_29 hl (k := 1) rfl (by first | rfl | decide) (by decide) rfl (fun ls hl => ?_)
        refine lv_goto (tgt := 4) hx hb dX7_besides_32 (by decide) ?_
        have e0 : nI k + 1 = nI (k + 1) := nI_1 k
        rw [e0] at hl
        have e1 : (bdN μ sp ce k) + 0 = bdN μ sp ce (k + 1) := by rw [bdN, if_pos c19_3]
        rw [e1] at hl
        exact ih (k + 1) (by omega) _ _ w ls (lv_sub hl [0, 1, 2, 3] rfl)
  exact loop 6 0 (by omega) _ _ w ls (lv_sub hl [0, 1, 2, 3] rfl)
def fX7_isStroke (sg : Int32) (sn : Int32) : Int32 := if (fX7_in sg.toInt64 10 999) = 0 then ((0)) else (if (fX7_in sn.toInt64 0 2) = 0 then ((0)) else ((1)))
theorem dX7_isStroke_0 : decode cX7_isStroke 0 = .ok (.iload_n 0, 1) := by decide +kernel
theorem dX7_isStroke_1 : decode cX7_isStroke 1 = .ok (.i2l, 1) := by decide +kernel
theorem dX7_isStroke_2 : decode cX7_isStroke 2 = .ok (.ldc2_w 124, 3) := by decide +kernel
theorem dX7_isStroke_5 : decode cX7_isStroke 5 = .ok (.ldc2_w 126, 3) := by decide +kernel
theorem dX7_isStroke_8 : decode cX7_isStroke 8 = .ok (.invokestatic 41, 3) := by decide +kernel
theorem dX7_isStroke_11 : decode cX7_isStroke 11 = .ok (.ifCond .eq 19, 3) := by decide +kernel
theorem dX7_isStroke_14 : decode cX7_isStroke 14 = .ok (.iload_n 1, 1) := by decide +kernel
theorem dX7_isStroke_15 : decode cX7_isStroke 15 = .ok (.i2l, 1) := by decide +kernel
theorem dX7_isStroke_16 : decode cX7_isStroke 16 = .ok (.lconst 0, 1) := by decide +kernel
theorem dX7_isStroke_17 : decode cX7_isStroke 17 = .ok (.ldc2_w 128, 3) := by decide +kernel
theorem dX7_isStroke_20 : decode cX7_isStroke 20 = .ok (.invokestatic 41, 3) := by decide +kernel
theorem dX7_isStroke_23 : decode cX7_isStroke 23 = .ok (.ifCond .eq 7, 3) := by decide +kernel
theorem dX7_isStroke_26 : decode cX7_isStroke 26 = .ok (.iconst 1, 1) := by decide +kernel
theorem dX7_isStroke_27 : decode cX7_isStroke 27 = .ok (.goto 4, 3) := by decide +kernel
theorem dX7_isStroke_30 : decode cX7_isStroke 30 = .ok (.iconst 0, 1) := by decide +kernel
theorem dX7_isStroke_31 : decode cX7_isStroke 31 = .ok (.ireturn, 1) := by decide +kernel
set_option maxHeartbeats 4000000 in
set_option maxRecDepth 100000 in
theorem kX7_isStroke (l : Launch) (E : Ev) (sg : Int32) (sn : Int32) : KQ l yX7_isStroke cX7_isStroke 2 (some .boolean) 1 25 E [.int sg, .int sn] [] (QI E [] (fX7_isStroke sg sn) []) := by
  refine KQ.mk RX7 rfl (by decide +kernel) (Nat.le_of_ble_eq_true rfl) ?_
  intro p e s m below meth c ls X hr w hl
  have hx := X.1
  have hb := X.2.1
  have hl : lv_has ls 2 [(0, .int sg), (1, .int sn)] := hl
  refine lv_iload_n hx hb dX7_isStroke_0 rfl (lv_at hl 0 rfl) ?_
  refine lv_i2l hx hb dX7_isStroke_1 rfl ?_
  refine r_ldcl X wk_X7_124 dX7_isStroke_2 ?_
  refine r_ldcl X wk_X7_126 dX7_isStroke_5 ?_
  refine r_ci w (r_runS (As := [.long sg.toInt64, .long 10, .long 999]) (rest := []) X w (kX7_in l E sg.toInt64 10 999 ) ck_X7_41 ⟨Nat.le_of_ble_eq_true rfl, Nat.le_of_ble_eq_true rfl⟩ [] rfl (by decide +kernel) hl.1 (Nat.le_of_ble_eq_true rfl) rfl dX7_isStroke_8 ⟨Nat.le_of_ble_eq_true rfl, Nat.le_of_ble_eq_true rfl⟩) ([]) [] rfl (by decide +kernel) rfl rfl (fun H locs w => ?_)
  refine lv_if_eq (tgt := 30) hx hb dX7_isStroke_11 (by decide) (fun c11_1 => ?_) (fun c11_1 => ?_)
  · refine lv_iconst (v := 0) hx hb dX7_isStroke_30 (by decide) ?_
    have hq : fX7_isStroke sg sn = (0) := by simp only [fX7_isStroke, if_pos c11_1]
    rw [hq]
    exact r_zret X w hr (Or.inl rfl) rfl dX7_isStroke_31
  · refine lv_iload_n hx hb dX7_isStroke_14 rfl (lv_at hl 1 rfl) ?_
    refine lv_i2l hx hb dX7_isStroke_15 rfl ?_
    refine lv_lconst (v := 0) hx hb dX7_isStroke_16 (by decide) ?_
    refine r_ldcl X wk_X7_128 dX7_isStroke_17 ?_
    refine r_ci w (r_runS (As := [.long sn.toInt64, .long 0, .long 2]) (rest := []) X w (kX7_in l E sn.toInt64 0 2 ) ck_X7_41 ⟨Nat.le_of_ble_eq_true rfl, Nat.le_of_ble_eq_true rfl⟩ [] rfl (by decide +kernel) hl.1 (Nat.le_of_ble_eq_true rfl) rfl dX7_isStroke_20 ⟨Nat.le_of_ble_eq_true rfl, Nat.le_of_ble_eq_true rfl⟩) ([]) [] rfl (by decide +kernel) rfl rfl (fun H locs w => ?_)
    refine lv_if_eq (tgt := 30) hx hb dX7_isStroke_23 (by decide) (fun c23_2 => ?_) (fun c23_2 => ?_)
    · refine lv_iconst (v := 0) hx hb dX7_isStroke_30 (by decide) ?_
      have hq : fX7_isStroke sg sn = (0) := by simp only [fX7_isStroke, if_neg c11_1, if_pos c23_2]
      rw [hq]
      exact r_zret X w hr (Or.inl rfl) rfl dX7_isStroke_31
    · refine lv_iconst (v := 1) hx hb dX7_isStroke_26 (by decide) ?_
      refine lv_goto (tgt := 31) hx hb dX7_isStroke_27 (by decide) ?_
      have hq : fX7_isStroke sg sn = (1) := by simp only [fX7_isStroke, if_neg c11_1, if_neg c23_2]
      rw [hq]
      exact r_zret X w hr (Or.inr rfl) rfl dX7_isStroke_31
theorem zX7_isStroke (sg : Int32) (sn : Int32) : fX7_isStroke sg sn = 0 ∨ fX7_isStroke sg sn = 1 := by
  unfold fX7_isStroke
  repeat' split
  all_goals first | exact Or.inl rfl | exact Or.inr rfl | (simp; done) | exact zX7_in _ _ _
def fX7_isShot (di : Int32) (sg : Int32) (sn : Int32) : Int32 := if (fX7_in di.toInt64 0 5) = 0 then ((0)) else (if (fX7_isStroke sg sn) = 0 then ((0)) else ((1)))
theorem dX7_isShot_0 : decode cX7_isShot 0 = .ok (.iload_n 0, 1) := by decide +kernel
theorem dX7_isShot_1 : decode cX7_isShot 1 = .ok (.i2l, 1) := by decide +kernel
theorem dX7_isShot_2 : decode cX7_isShot 2 = .ok (.lconst 0, 1) := by decide +kernel
theorem dX7_isShot_3 : decode cX7_isShot 3 = .ok (.ldc2_w 118, 3) := by decide +kernel
theorem dX7_isShot_6 : decode cX7_isShot 6 = .ok (.invokestatic 41, 3) := by decide +kernel
theorem dX7_isShot_9 : decode cX7_isShot 9 = .ok (.ifCond .eq 15, 3) := by decide +kernel
theorem dX7_isShot_12 : decode cX7_isShot 12 = .ok (.iload_n 1, 1) := by decide +kernel
theorem dX7_isShot_13 : decode cX7_isShot 13 = .ok (.iload_n 2, 1) := by decide +kernel
theorem dX7_isShot_14 : decode cX7_isShot 14 = .ok (.invokestatic 120, 3) := by decide +kernel
theorem dX7_isShot_17 : decode cX7_isShot 17 = .ok (.ifCond .eq 7, 3) := by decide +kernel
theorem dX7_isShot_20 : decode cX7_isShot 20 = .ok (.iconst 1, 1) := by decide +kernel
theorem dX7_isShot_21 : decode cX7_isShot 21 = .ok (.goto 4, 3) := by decide +kernel
theorem dX7_isShot_24 : decode cX7_isShot 24 = .ok (.iconst 0, 1) := by decide +kernel
theorem dX7_isShot_25 : decode cX7_isShot 25 = .ok (.ireturn, 1) := by decide +kernel
theorem ck_X7_120 : CkS RX7 120 yX7_isStroke cX7_isStroke 2 (some .boolean) 2 := ⟨wm_X7_120, wst_yX7_isStroke, wi_X7, wc_yX7_isStroke, by decide +kernel⟩
set_option maxHeartbeats 4000000 in
set_option maxRecDepth 100000 in
theorem kX7_isShot (l : Launch) (E : Ev) (di : Int32) (sg : Int32) (sn : Int32) : KQ l yX7_isShot cX7_isShot 3 (some .boolean) 2 46 E [.int di, .int sg, .int sn] [] (QI E [] (fX7_isShot di sg sn) []) := by
  refine KQ.mk RX7 rfl (by decide +kernel) (Nat.le_of_ble_eq_true rfl) ?_
  intro p e s m below meth c ls X hr w hl
  have hx := X.1
  have hb := X.2.1
  have hl : lv_has ls 3 [(0, .int di), (1, .int sg), (2, .int sn)] := hl
  refine lv_iload_n hx hb dX7_isShot_0 rfl (lv_at hl 0 rfl) ?_
  refine lv_i2l hx hb dX7_isShot_1 rfl ?_
  refine lv_lconst (v := 0) hx hb dX7_isShot_2 (by decide) ?_
  refine r_ldcl X wk_X7_118 dX7_isShot_3 ?_
  refine r_ci w (r_runS (As := [.long di.toInt64, .long 0, .long 5]) (rest := []) X w (kX7_in l E di.toInt64 0 5 ) ck_X7_41 ⟨Nat.le_of_ble_eq_true rfl, Nat.le_of_ble_eq_true rfl⟩ [] rfl (by decide +kernel) hl.1 (Nat.le_of_ble_eq_true rfl) rfl dX7_isShot_6 ⟨Nat.le_of_ble_eq_true rfl, Nat.le_of_ble_eq_true rfl⟩) ([]) [] rfl (by decide +kernel) rfl rfl (fun H locs w => ?_)
  refine lv_if_eq (tgt := 24) hx hb dX7_isShot_9 (by decide) (fun c9_1 => ?_) (fun c9_1 => ?_)
  · refine lv_iconst (v := 0) hx hb dX7_isShot_24 (by decide) ?_
    have hq : fX7_isShot di sg sn = (0) := by simp only [fX7_isShot, if_pos c9_1]
    rw [hq]
    exact r_zret X w hr (Or.inl rfl) rfl dX7_isShot_25
  · refine lv_iload_n hx hb dX7_isShot_12 rfl (lv_at hl 1 rfl) ?_
    refine lv_iload_n hx hb dX7_isShot_13 rfl (lv_at hl 2 rfl) ?_
    refine r_ci w (r_runS (As := [.int sg, .int sn]) (rest := []) X w (kX7_isStroke l E sg sn ) ck_X7_120 ⟨Nat.le_of_ble_eq_true rfl, Nat.le_of_ble_eq_true rfl⟩ [] rfl (by decide +kernel) hl.1 (Nat.le_of_ble_eq_true rfl) rfl dX7_isShot_14 ⟨Nat.le_of_ble_eq_true rfl, Nat.le_of_ble_eq_true rfl⟩) ([]) [] rfl (by decide +kernel) rfl rfl (fun H locs w => ?_)
    refine lv_if_eq (tgt := 24) hx hb dX7_isShot_17 (by decide) (fun c17_2 => ?_) (fun c17_2 => ?_)
    · refine lv_iconst (v := 0) hx hb dX7_isShot_24 (by decide) ?_
      have hq : fX7_isShot di sg sn = (0) := by simp only [fX7_isShot, if_neg c9_1, if_pos c17_2]
      rw [hq]
      exact r_zret X w hr (Or.inl rfl) rfl dX7_isShot_25
    · refine lv_iconst (v := 1) hx hb dX7_isShot_20 (by decide) ?_
      refine lv_goto (tgt := 25) hx hb dX7_isShot_21 (by decide) ?_
      have hq : fX7_isShot di sg sn = (1) := by simp only [fX7_isShot, if_neg c9_1, if_neg c17_2]
      rw [hq]
      exact r_zret X w hr (Or.inr rfl) rfl dX7_isShot_25
theorem zX7_isShot (di : Int32) (sg : Int32) (sn : Int32) : fX7_isShot di sg sn = 0 ∨ fX7_isShot di sg sn = 1 := by
  unfold fX7_isShot
  repeat' split
  all_goals first | exact Or.inl rfl | exact Or.inr rfl | (simp; done) | exact zX7_in _ _ _ | exact zX7_isStroke _ _
def fX7_isPlayer (pl : Int32) : Int32 := if pl = 0 then ((1)) else (if pl = 1 then ((1)) else ((0)))
theorem dX7_isPlayer_0 : decode cX7_isPlayer 0 = .ok (.iload_n 0, 1) := by decide +kernel
theorem dX7_isPlayer_1 : decode cX7_isPlayer 1 = .ok (.ifCond .eq 8, 3) := by decide +kernel
theorem dX7_isPlayer_4 : decode cX7_isPlayer 4 = .ok (.iload_n 0, 1) := by decide +kernel
theorem dX7_isPlayer_5 : decode cX7_isPlayer 5 = .ok (.iconst 1, 1) := by decide +kernel
theorem dX7_isPlayer_6 : decode cX7_isPlayer 6 = .ok (.if_icmp .ne 7, 3) := by decide +kernel
theorem dX7_isPlayer_9 : decode cX7_isPlayer 9 = .ok (.iconst 1, 1) := by decide +kernel
theorem dX7_isPlayer_10 : decode cX7_isPlayer 10 = .ok (.goto 4, 3) := by decide +kernel
theorem dX7_isPlayer_13 : decode cX7_isPlayer 13 = .ok (.iconst 0, 1) := by decide +kernel
theorem dX7_isPlayer_14 : decode cX7_isPlayer 14 = .ok (.ireturn, 1) := by decide +kernel
set_option maxHeartbeats 4000000 in
set_option maxRecDepth 100000 in
theorem kX7_isPlayer (l : Launch) (E : Ev) (pl : Int32) : KQ l yX7_isPlayer cX7_isPlayer 1 (some .boolean) 0 0 E [.int pl] [] (QI E [] (fX7_isPlayer pl) []) := by
  refine KQ.mk RX7 rfl (by decide +kernel) (Nat.le_of_ble_eq_true rfl) ?_
  intro p e s m below meth c ls X hr w hl
  have hx := X.1
  have hb := X.2.1
  have hl : lv_has ls 1 [(0, .int pl)] := hl
  refine lv_iload_n hx hb dX7_isPlayer_0 rfl (lv_at hl 0 rfl) ?_
  refine lv_if_eq (tgt := 9) hx hb dX7_isPlayer_1 (by decide) (fun c1_1 => ?_) (fun c1_1 => ?_)
  · refine lv_iconst (v := 1) hx hb dX7_isPlayer_9 (by decide) ?_
    refine lv_goto (tgt := 14) hx hb dX7_isPlayer_10 (by decide) ?_
    have hq : fX7_isPlayer pl = (1) := by simp only [fX7_isPlayer, if_pos c1_1]
    rw [hq]
    exact r_zret X w hr (Or.inr rfl) rfl dX7_isPlayer_14
  · refine lv_iload_n hx hb dX7_isPlayer_4 rfl (lv_at hl 0 rfl) ?_
    refine lv_iconst (v := 1) hx hb dX7_isPlayer_5 (by decide) ?_
    refine lv_icmp_ne (tgt := 13) hx hb dX7_isPlayer_6 (by decide) (fun c6_2 => ?_) (fun c6_2 => ?_)
    · refine lv_iconst (v := 0) hx hb dX7_isPlayer_13 (by decide) ?_
      have hq : fX7_isPlayer pl = (0) := by simp only [fX7_isPlayer, if_neg c1_1, if_neg c6_2]
      rw [hq]
      exact r_zret X w hr (Or.inl rfl) rfl dX7_isPlayer_14
    · refine lv_iconst (v := 1) hx hb dX7_isPlayer_9 (by decide) ?_
      refine lv_goto (tgt := 14) hx hb dX7_isPlayer_10 (by decide) ?_
      have hq : fX7_isPlayer pl = (1) := by simp only [fX7_isPlayer, if_neg c1_1, if_pos c6_2]
      rw [hq]
      exact r_zret X w hr (Or.inr rfl) rfl dX7_isPlayer_14
theorem zX7_isPlayer (pl : Int32) : fX7_isPlayer pl = 0 ∨ fX7_isPlayer pl = 1 := by
  unfold fX7_isPlayer
  repeat' split
  all_goals first | exact Or.inl rfl | exact Or.inr rfl | (simp; done) | exact Or.inl rfl
def fX7_turns (μ : N2) (sp : UInt32) : N2 := (u2 (u2 μ 0 (4 : Int32).toNatClampNeg (1 - (μ 0 4))) 0 (5 : Int32).toNatClampNeg 0)
theorem dX7_turns_0 : decode cX7_turns 0 = .ok (.aload_n 0, 1) := by decide +kernel
theorem dX7_turns_1 : decode cX7_turns 1 = .ok (.getfield 7, 3) := by decide +kernel
theorem dX7_turns_4 : decode cX7_turns 4 = .ok (.iconst 4, 1) := by decide +kernel
theorem dX7_turns_5 : decode cX7_turns 5 = .ok (.iconst 1, 1) := by decide +kernel
theorem dX7_turns_6 : decode cX7_turns 6 = .ok (.aload_n 0, 1) := by decide +kernel
theorem dX7_turns_7 : decode cX7_turns 7 = .ok (.getfield 7, 3) := by decide +kernel
theorem dX7_turns_10 : decode cX7_turns 10 = .ok (.iconst 4, 1) := by decide +kernel
theorem dX7_turns_11 : decode cX7_turns 11 = .ok (.iaload, 1) := by decide +kernel
theorem dX7_turns_12 : decode cX7_turns 12 = .ok (.isub, 1) := by decide +kernel
theorem dX7_turns_13 : decode cX7_turns 13 = .ok (.iastore, 1) := by decide +kernel
theorem dX7_turns_14 : decode cX7_turns 14 = .ok (.aload_n 0, 1) := by decide +kernel
theorem dX7_turns_15 : decode cX7_turns 15 = .ok (.getfield 7, 3) := by decide +kernel
theorem dX7_turns_18 : decode cX7_turns 18 = .ok (.iconst 5, 1) := by decide +kernel
theorem dX7_turns_19 : decode cX7_turns 19 = .ok (.iconst 0, 1) := by decide +kernel
theorem dX7_turns_20 : decode cX7_turns 20 = .ok (.iastore, 1) := by decide +kernel
theorem dX7_turns_21 : decode cX7_turns 21 = .ok (.return_, 1) := by decide +kernel
theorem ax_82 {E : Ev} {a0 : Nat → Nat} {σ0 : N2} {v0 : UInt32} {i x : Int32} : (wMd E a0 σ0 v0).set 1 (a0 1, .inl (E.2.1.1, 73, .inl (upd (σ0 0) i.toNatClampNeg x))) = wMd E a0 (u2 σ0 0 i.toNatClampNeg x) v0 := rfl
set_option maxHeartbeats 4000000 in
set_option maxRecDepth 100000 in
theorem kX7_turns (l : Launch) (E : Ev) (a : Nat → Nat) (μ : N2) (sp : UInt32) : KQ l yX7_turns cX7_turns 1 none 0 0 E [.ref (a 0)] (wMd E a μ sp) (QV E (wMd E a μ sp) (wMd E a (fX7_turns μ sp) sp)) := by
  refine KQ.mk RX7 rfl (by decide +kernel) (Nat.le_of_ble_eq_true rfl) ?_
  intro p e s m below meth c ls X hr w hl
  have hx := X.1
  have hb := X.2.1
  have hl : lv_has ls 1 [(0, .ref (a 0))] := hl
  refine lv_aload_n hx hb dX7_turns_0 rfl (lv_at hl 0 rfl) ?_
  refine r_get X w CL7 0 (by decide) wf_X7_7 0 rfl rfl dX7_turns_1 ?_
  refine lv_iconst (v := 4) hx hb dX7_turns_4 (by decide) ?_
  refine lv_iconst (v := 1) hx hb dX7_turns_5 (by decide) ?_
  refine lv_aload_n hx hb dX7_turns_6 rfl (lv_at hl 0 rfl) ?_
  refine r_get X w CL7 0 (by decide) wf_X7_7 0 rfl rfl dX7_turns_7 ?_
  refine lv_iconst (v := 4) hx hb dX7_turns_10 (by decide) ?_
  refine r_ialdL X w 1 rfl (j := 4) rfl (vin_c rfl) dX7_turns_11 ?_
  refine lv_isub hx hb dX7_turns_12 ?_
  refine r_iast X w (wMd E a (u2 μ 0 (4 : Int32).toNatClampNeg (1 - (μ 0 4))) sp) 1 rfl (vin_c rfl) (ax_82 (E := E)) dX7_turns_13 (fun H locs w => ?_)
  refine lv_aload_n hx hb dX7_turns_14 rfl (lv_at hl 0 rfl) ?_
  refine r_get X w CL7 0 (by decide) wf_X7_7 0 rfl rfl dX7_turns_15 ?_
  refine lv_iconst (v := 5) hx hb dX7_turns_18 (by decide) ?_
  refine lv_iconst (v := 0) hx hb dX7_turns_19 (by decide) ?_
  refine r_iast X w (wMd E a (u2 (u2 μ 0 (4 : Int32).toNatClampNeg (1 - (μ 0 4))) 0 (5 : Int32).toNatClampNeg 0) sp) 1 rfl (vin_c rfl) (ax_82 (E := E)) dX7_turns_20 (fun H locs w => ?_)
  have hq : fX7_turns μ sp = (u2 (u2 μ 0 (4 : Int32).toNatClampNeg (1 - (μ 0 4))) 0 (5 : Int32).toNatClampNeg 0) := rfl
  rw [hq]
  exact r_vret X w hr dX7_turns_21
theorem ev_ix {x : Int32} (h : 0 ≤ x.toInt ∧ x.toInt ≤ 12) (h2 : ¬ x = 12) : vp_in (13 + x) 73 ∧ vp_in (25 + x) 73 := by
  have h3 : ¬ x.toInt = 12 := ne_i h2
  exact ⟨ix_c (by decide) h.1 (by show (13 : Int) + _ < 73; omega) (by decide), ix_c (by decide) h.1 (by show (25 : Int) + _ < 73; omega) (by decide)⟩
def fX7_puts (μ : N2) (sp : UInt32) (ce : Int32) (vl : Int32) : Int32 × N2 := if (fX7_ballOn μ sp ce) = (-5) then (if (μ 0 12) = 12 then (((-3), μ)) else ((μ 0 12, u2 (u2 (u2 μ 0 (12 : Int32).toNatClampNeg ((μ 0 12) + 1)) 0 (13 + (μ 0 12)).toNatClampNeg ce) 0 (25 + (μ 0 12)).toNatClampNeg vl))) else (((-4), μ))
theorem dX7_puts_0 : decode cX7_puts 0 = .ok (.aload_n 0, 1) := by decide +kernel
theorem dX7_puts_1 : decode cX7_puts 1 = .ok (.iload_n 1, 1) := by decide +kernel
theorem dX7_puts_2 : decode cX7_puts 2 = .ok (.invokevirtual 105, 3) := by decide +kernel
theorem dX7_puts_5 : decode cX7_puts 5 = .ok (.bipush (-5), 2) := by decide +kernel
theorem dX7_puts_7 : decode cX7_puts 7 = .ok (.if_icmp .eq 6, 3) := by decide +kernel
theorem dX7_puts_10 : decode cX7_puts 10 = .ok (.bipush (-4), 2) := by decide +kernel
theorem dX7_puts_12 : decode cX7_puts 12 = .ok (.ireturn, 1) := by decide +kernel
theorem dX7_puts_13 : decode cX7_puts 13 = .ok (.aload_n 0, 1) := by decide +kernel
theorem dX7_puts_14 : decode cX7_puts 14 = .ok (.getfield 7, 3) := by decide +kernel
theorem dX7_puts_17 : decode cX7_puts 17 = .ok (.bipush 12, 2) := by decide +kernel
theorem dX7_puts_19 : decode cX7_puts 19 = .ok (.iaload, 1) := by decide +kernel
theorem dX7_puts_20 : decode cX7_puts 20 = .ok (.bipush 12, 2) := by decide +kernel
theorem dX7_puts_22 : decode cX7_puts 22 = .ok (.if_icmp .ne 6, 3) := by decide +kernel
theorem dX7_puts_25 : decode cX7_puts 25 = .ok (.bipush (-3), 2) := by decide +kernel
theorem dX7_puts_27 : decode cX7_puts 27 = .ok (.ireturn, 1) := by decide +kernel
theorem dX7_puts_28 : decode cX7_puts 28 = .ok (.aload_n 0, 1) := by decide +kernel
theorem dX7_puts_29 : decode cX7_puts 29 = .ok (.getfield 7, 3) := by decide +kernel
theorem dX7_puts_32 : decode cX7_puts 32 = .ok (.bipush 12, 2) := by decide +kernel
theorem dX7_puts_34 : decode cX7_puts 34 = .ok (.iaload, 1) := by decide +kernel
theorem dX7_puts_35 : decode cX7_puts 35 = .ok (.istore_n 3, 1) := by decide +kernel
theorem dX7_puts_36 : decode cX7_puts 36 = .ok (.aload_n 0, 1) := by decide +kernel
theorem dX7_puts_37 : decode cX7_puts 37 = .ok (.getfield 7, 3) := by decide +kernel
theorem dX7_puts_40 : decode cX7_puts 40 = .ok (.bipush 12, 2) := by decide +kernel
theorem dX7_puts_42 : decode cX7_puts 42 = .ok (.dup2, 1) := by decide +kernel
theorem dX7_puts_43 : decode cX7_puts 43 = .ok (.iaload, 1) := by decide +kernel
theorem dX7_puts_44 : decode cX7_puts 44 = .ok (.iconst 1, 1) := by decide +kernel
theorem dX7_puts_45 : decode cX7_puts 45 = .ok (.iadd, 1) := by decide +kernel
theorem dX7_puts_46 : decode cX7_puts 46 = .ok (.iastore, 1) := by decide +kernel
theorem dX7_puts_47 : decode cX7_puts 47 = .ok (.aload_n 0, 1) := by decide +kernel
theorem dX7_puts_48 : decode cX7_puts 48 = .ok (.getfield 7, 3) := by decide +kernel
theorem dX7_puts_51 : decode cX7_puts 51 = .ok (.bipush 13, 2) := by decide +kernel
theorem dX7_puts_53 : decode cX7_puts 53 = .ok (.iload_n 3, 1) := by decide +kernel
theorem dX7_puts_54 : decode cX7_puts 54 = .ok (.iadd, 1) := by decide +kernel
theorem dX7_puts_55 : decode cX7_puts 55 = .ok (.iload_n 1, 1) := by decide +kernel
theorem dX7_puts_56 : decode cX7_puts 56 = .ok (.iastore, 1) := by decide +kernel
theorem dX7_puts_57 : decode cX7_puts 57 = .ok (.aload_n 0, 1) := by decide +kernel
theorem dX7_puts_58 : decode cX7_puts 58 = .ok (.getfield 7, 3) := by decide +kernel
theorem dX7_puts_61 : decode cX7_puts 61 = .ok (.bipush 25, 2) := by decide +kernel
theorem dX7_puts_63 : decode cX7_puts 63 = .ok (.iload_n 3, 1) := by decide +kernel
theorem dX7_puts_64 : decode cX7_puts 64 = .ok (.iadd, 1) := by decide +kernel
theorem dX7_puts_65 : decode cX7_puts 65 = .ok (.iload_n 2, 1) := by decide +kernel
theorem dX7_puts_66 : decode cX7_puts 66 = .ok (.iastore, 1) := by decide +kernel
theorem dX7_puts_67 : decode cX7_puts 67 = .ok (.iload_n 3, 1) := by decide +kernel
theorem dX7_puts_68 : decode cX7_puts 68 = .ok (.ireturn, 1) := by decide +kernel
theorem ck_X7_105 : CkV RX7 105 RX7 yX7_ballOn cX7_ballOn 3 (some .int) 1 := ⟨wm_X7_105, wim_yX7_ballOn, wse_yX7_ballOn, wi_X7, wc_yX7_ballOn, by decide +kernel⟩
set_option maxHeartbeats 4000000 in
set_option maxRecDepth 100000 in
theorem kX7_puts (l : Launch) (E : Ev) (a : Nat → Nat) (μ : N2) (sp : UInt32) (ce : Int32) (vl : Int32) (hev : gE μ) : KQ l yX7_puts cX7_puts 4 (some .int) 1 22 E [.ref (a 0), .int ce, .int vl] (wMd E a μ sp) (QI E (wMd E a μ sp) (fX7_puts μ sp ce vl).1 (wMd E a ((fX7_puts μ sp ce vl).2) sp)) := by
  refine KQ.mk RX7 rfl (by decide +kernel) (Nat.le_of_ble_eq_true rfl) ?_
  intro p e s m below meth c ls X hr w hl
  have hx := X.1
  have hb := X.2.1
  have hl : lv_has ls 4 [(0, .ref (a 0)), (1, .int ce), (2, .int vl)] := hl
  refine lv_aload_n hx hb dX7_puts_0 rfl (lv_at hl 0 rfl) ?_
  refine lv_iload_n hx hb dX7_puts_1 rfl (lv_at hl 1 rfl) ?_
  refine r_ci w (r_runV (As := [.int ce]) (rest := []) X w (kX7_ballOn l E a μ sp ce hev) ck_X7_105 ⟨Nat.le_of_ble_eq_true rfl, Nat.le_of_ble_eq_true rfl⟩ [0, 1, 2, 3, 4, 5, 6, 7, 8, 9] (hc_81 (E := E)) (by decide +kernel) (k0 := 0) CL7 rfl hl.1 (Nat.le_of_ble_eq_true rfl) rfl dX7_puts_2 ⟨Nat.le_of_ble_eq_true rfl, Nat.le_of_ble_eq_true rfl⟩) (wMd E a μ sp) [0, 1, 2, 3, 4, 5, 6, 7, 8, 9] (hc_81 (E := E)) (by decide +kernel) (ha_81 (E := E)) (hw_81 (E := E)) (fun H locs w => ?_)
  refine lv_bipush (v := (-5)) hx hb dX7_puts_5 (by decide) ?_
  refine lv_icmp_eq (tgt := 13) hx hb dX7_puts_7 (by decide) (fun c7_1 => ?_) (fun c7_1 => ?_)
  · refine lv_aload_n hx hb dX7_puts_13 rfl (lv_at hl 0 rfl) ?_
    refine r_get X w CL7 0 (by decide) wf_X7_7 0 rfl rfl dX7_puts_14 ?_
    refine lv_bipush (v := 12) hx hb dX7_puts_17 (by decide) ?_
    refine r_ialdL X w 1 rfl (j := 12) rfl (vin_c rfl) dX7_puts_19 ?_
    refine lv_bipush (v := 12) hx hb dX7_puts_20 (by decide) ?_
    refine lv_icmp_ne (tgt := 28) hx hb dX7_puts_22 (by decide) (fun c22_2 => ?_) (fun c22_2 => ?_)
    · refine lv_aload_n hx hb dX7_puts_28 rfl (lv_at hl 0 rfl) ?_
      refine r_get X w CL7 0 (by decide) wf_X7_7 0 rfl rfl dX7_puts_29 ?_
      refine lv_bipush (v := 12) hx hb dX7_puts_32 (by decide) ?_
      refine r_ialdL X w 1 rfl (j := 12) rfl (vin_c rfl) dX7_puts_34 ?_
      refine lv_istore_n (lv' := [(3, .int (μ 0 12)), (0, .ref (a 0)), (1, .int ce), (2, .int vl)]) hx hb dX7_puts_35 rfl hl (by decide) rfl (fun ls hl => ?_)
      refine lv_aload_n hx hb dX7_puts_36 rfl (lv_at hl 1 rfl) ?_
      refine r_get X w CL7 0 (by decide) wf_X7_7 0 rfl rfl dX7_puts_37 ?_
      refine lv_bipush (v := 12) hx hb dX7_puts_40 (by decide) ?_
      refine lv_dup2_11 hx hb dX7_puts_42 rfl rfl ?_
      refine r_ialdL X w 1 rfl (j := 12) rfl (vin_c rfl) dX7_puts_43 ?_
      refine lv_iconst (v := 1) hx hb dX7_puts_44 (by decide) ?_
      refine lv_iadd hx hb dX7_puts_45 ?_
      refine r_iast X w (wMd E a (u2 μ 0 (12 : Int32).toNatClampNeg ((μ 0 12) + 1)) sp) 1 rfl (vin_c rfl) (ax_82 (E := E)) dX7_puts_46 (fun H locs w => ?_)
      refine lv_aload_n hx hb dX7_puts_47 rfl (lv_at hl 1 rfl) ?_
      refine r_get X w CL7 0 (by decide) wf_X7_7 0 rfl rfl dX7_puts_48 ?_
      refine lv_bipush (v := 13) hx hb dX7_puts_51 (by decide) ?_
      refine lv_iload_n hx hb dX7_puts_53 rfl (lv_at hl 0 rfl) ?_
      refine lv_iadd hx hb dX7_puts_54 ?_
      refine lv_iload_n hx hb dX7_puts_55 rfl (lv_at hl 2 rfl) ?_
      refine r_iast X w (wMd E a (u2 (u2 μ 0 (12 : Int32).toNatClampNeg ((μ 0 12) + 1)) 0 (13 + (μ 0 12)).toNatClampNeg ce) sp) 1 rfl (ev_ix hev c22_2).1 (ax_82 (E := E)) dX7_puts_56 (fun H locs w => ?_)
      refine lv_aload_n hx hb dX7_puts_57 rfl (lv_at hl 1 rfl) ?_
      refine r_get X w CL7 0 (by decide) wf_X7_7 0 rfl rfl dX7_puts_58 ?_
      refine lv_bipush (v := 25) hx hb dX7_puts_61 (by decide) ?_
      refine lv_iload_n hx hb dX7_puts_63 rfl (lv_at hl 0 rfl) ?_
      refine lv_iadd hx hb dX7_puts_64 ?_
      refine lv_iload_n hx hb dX7_puts_65 rfl (lv_at hl 3 rfl) ?_
      refine r_iast X w (wMd E a (u2 (u2 (u2 μ 0 (12 : Int32).toNatClampNeg ((μ 0 12) + 1)) 0 (13 + (μ 0 12)).toNatClampNeg ce) 0 (25 + (μ 0 12)).toNatClampNeg vl) sp) 1 rfl (ev_ix hev c22_2).2 (ax_82 (E := E)) dX7_puts_66 (fun H locs w => ?_)
      refine lv_iload_n hx hb dX7_puts_67 rfl (lv_at hl 0 rfl) ?_
      have hq : fX7_puts μ sp ce vl = (μ 0 12, u2 (u2 (u2 μ 0 (12 : Int32).toNatClampNeg ((μ 0 12) + 1)) 0 (13 + (μ 0 12)).toNatClampNeg ce) 0 (25 + (μ 0 12)).toNatClampNeg vl) := by simp only [fX7_puts, if_pos c7_1, if_neg c22_2]
      obtain ⟨h0_, h1_⟩ := tup2 hq
      rw [h0_, h1_]
      exact r_iret X w hr rfl dX7_puts_68
    · refine lv_bipush (v := (-3)) hx hb dX7_puts_25 (by decide) ?_
      have hq : fX7_puts μ sp ce vl = ((-3), μ) := by simp only [fX7_puts, if_pos c7_1, if_pos c22_2]
      obtain ⟨h0_, h1_⟩ := tup2 hq
      rw [h0_, h1_]
      exact r_iret X w hr rfl dX7_puts_27
  · refine lv_bipush (v := (-4)) hx hb dX7_puts_10 (by decide) ?_
    have hq : fX7_puts μ sp ce vl = ((-4), μ) := by simp only [fX7_puts, if_neg c7_1]
    obtain ⟨h0_, h1_⟩ := tup2 hq
    rw [h0_, h1_]
    exact r_iret X w hr rfl dX7_puts_12
/-- the history's rows, shifted up to k; one row saved up to k -/
def shN (h : N1) (k : Nat) : N1 := fun j => if j < k then h (j + 73) else h j
def svN (h r : N1) (b k : Nat) : N1 := fun j => if b ≤ j ∧ j < b + k then r (j - b) else h j
theorem shN_0 (μ : N2) : va_up μ 3 (shN (μ 3) 0) = μ := by
  funext i j
  by_cases h : i = 3
  · subst h; simp [va_up, shN]
  · simp [va_up, h]
theorem shN_succ (μ : N2) {k : Nat} (hk : k < 219) : u2 (va_up μ 3 (shN (μ 3) k)) 3 (nI k).toNatClampNeg ((va_up μ 3 (shN (μ 3) k)) 3 (nI k + 73).toNatClampNeg) = va_up μ 3 (shN (μ 3) (k + 1)) := by
  have e1 : nI k + 73 = nI (k + 73) := nI_add k 73
  rw [e1, nI_clamp (by omega), nI_clamp (by omega)]
  funext i j
  by_cases h : i = 3
  · subst h
    show upd (shN (μ 3) k) k (shN (μ 3) k (k + 73)) j = shN (μ 3) (k + 1) j
    unfold upd shN
    rw [if_neg (show ¬ k + 73 < k by omega)]
    by_cases h1 : j = k
    · subst h1; simp
    · by_cases h2 : j < k
      · rw [if_neg h1, if_pos h2, if_pos (by omega)]
      · rw [if_neg h1, if_neg h2, if_neg (by omega)]
  · simp [va_up, u2, h]
theorem svN_0 (μ : N2) (b : Nat) : va_up μ 3 (svN (μ 3) (μ 1) b 0) = μ := by
  funext i j
  by_cases h : i = 3
  · subst h
    show svN (μ 3) (μ 1) b 0 j = μ 3 j
    unfold svN
    rw [if_neg (by omega)]
  · simp [va_up, h]
theorem sv_ix {x : Int32} {q k : Nat} (hx : x = nI q) (hq : q ≤ 3) (hk : k < 73) : vp_in ((73 * x) + nI k) 292 ∧ ((73 * x) + nI k).toNatClampNeg = 73 * q + k := by
  have e1 : (73 : Int32) * nI q = nI (73 * q) := pk_mul 73 q
  rw [hx, e1, nI_add, nI_clamp (by omega)]
  exact ⟨vp_in_nI (by omega) (by decide), rfl⟩
theorem svN_succ (μ : N2) {q k : Nat} (hx : μ 9 0 = nI q) (hq : q ≤ 3) (hk : k < 73) : u2 (va_up μ 3 (svN (μ 3) (μ 1) (73 * q) k)) 3 ((73 * ((va_up μ 3 (svN (μ 3) (μ 1) (73 * q) k)) 9 0)) + nI k).toNatClampNeg ((va_up μ 3 (svN (μ 3) (μ 1) (73 * q) k)) 1 (nI k).toNatClampNeg) = va_up μ 3 (svN (μ 3) (μ 1) (73 * q) (k + 1)) := by
  have e2 : ((73 * ((va_up μ 3 (svN (μ 3) (μ 1) (73 * q) k)) 9 0)) + nI k).toNatClampNeg = 73 * q + k := (sv_ix (x := μ 9 0) hx hq hk).2
  rw [e2, nI_clamp (by omega)]
  funext i j
  by_cases h : i = 3
  · subst h
    show upd (svN (μ 3) (μ 1) (73 * q) k) (73 * q + k) (μ 1 k) j = svN (μ 3) (μ 1) (73 * q) (k + 1) j
    unfold upd svN
    by_cases h1 : j = 73 * q + k
    · subst h1
      rw [if_pos rfl, if_pos (by omega)]
      congr 1
      omega
    · by_cases h2 : 73 * q ≤ j ∧ j < 73 * q + k
      · rw [if_neg h1, if_pos h2, if_pos (by omega)]
      · rw [if_neg h1, if_neg h2, if_neg (by omega)]
  · simp [va_up, u2, h]
/-- the history makes room; the row kept is saved in it -/
def acH (μ : N2) : N2 := if μ 9 0 = 4 then u2 (va_up μ 3 (shN (μ 3) 219)) 9 0 (μ 9 0 - 1) else μ
def acS (μ : N2) : N2 := u2 (va_up μ 3 (svN (μ 3) (μ 1) (73 * (μ 9 0).toNatClampNeg) 73)) 9 0 (μ 9 0 + 1)
def fX7_acted (μ : N2) (sp : UInt32) (re : Int32) : Int32 × N2 := (re, acS (acH μ))
def gH (μ : N2) : Prop := 0 ≤ (μ 9 0).toInt ∧ (μ 9 0).toInt ≤ 4
theorem gH.ac {μ : N2} (h : gH μ) : ∃ q : Nat, q ≤ 3 ∧ acH μ 9 0 = nI q := by
  unfold acH
  by_cases h4 : μ 9 0 = 4
  · rw [if_pos h4]
    exact ⟨3, by decide, by show μ 9 0 - 1 = nI 3; rw [h4]; decide⟩
  · rw [if_neg h4]
    have h5 : ¬ (μ 9 0).toInt = 4 := ne_i h4
    obtain ⟨h1, h2⟩ := h
    refine ⟨(μ 9 0).toInt.toNat, by omega, ?_⟩
    apply Int32.toInt_inj.mp
    rw [nI_toInt (by omega)]
    omega
theorem dX7_acted_0 : decode cX7_acted 0 = .ok (.aload_n 0, 1) := by decide +kernel
theorem dX7_acted_1 : decode cX7_acted 1 = .ok (.getfield 49, 3) := by decide +kernel
theorem dX7_acted_4 : decode cX7_acted 4 = .ok (.iconst 4, 1) := by decide +kernel
theorem dX7_acted_5 : decode cX7_acted 5 = .ok (.if_icmp .ne 43, 3) := by decide +kernel
theorem dX7_acted_8 : decode cX7_acted 8 = .ok (.iconst 0, 1) := by decide +kernel
theorem dX7_acted_9 : decode cX7_acted 9 = .ok (.istore_n 2, 1) := by decide +kernel
theorem dX7_acted_10 : decode cX7_acted 10 = .ok (.iload_n 2, 1) := by decide +kernel
theorem dX7_acted_11 : decode cX7_acted 11 = .ok (.sipush 219, 3) := by decide +kernel
theorem dX7_acted_14 : decode cX7_acted 14 = .ok (.if_icmp .ge 24, 3) := by decide +kernel
theorem dX7_acted_17 : decode cX7_acted 17 = .ok (.aload_n 0, 1) := by decide +kernel
theorem dX7_acted_18 : decode cX7_acted 18 = .ok (.getfield 19, 3) := by decide +kernel
theorem dX7_acted_21 : decode cX7_acted 21 = .ok (.iload_n 2, 1) := by decide +kernel
theorem dX7_acted_22 : decode cX7_acted 22 = .ok (.aload_n 0, 1) := by decide +kernel
theorem dX7_acted_23 : decode cX7_acted 23 = .ok (.getfield 19, 3) := by decide +kernel
theorem dX7_acted_26 : decode cX7_acted 26 = .ok (.iload_n 2, 1) := by decide +kernel
theorem dX7_acted_27 : decode cX7_acted 27 = .ok (.bipush 73, 2) := by decide +kernel
theorem dX7_acted_29 : decode cX7_acted 29 = .ok (.iadd, 1) := by decide +kernel
theorem dX7_acted_30 : decode cX7_acted 30 = .ok (.iaload, 1) := by decide +kernel
theorem dX7_acted_31 : decode cX7_acted 31 = .ok (.iastore, 1) := by decide +kernel
theorem dX7_acted_32 : decode cX7_acted 32 = .ok (.iinc 2 1, 3) := by decide +kernel
theorem dX7_acted_35 : decode cX7_acted 35 = .ok (.goto (-25), 3) := by decide +kernel
theorem dX7_acted_38 : decode cX7_acted 38 = .ok (.aload_n 0, 1) := by decide +kernel
theorem dX7_acted_39 : decode cX7_acted 39 = .ok (.dup, 1) := by decide +kernel
theorem dX7_acted_40 : decode cX7_acted 40 = .ok (.getfield 49, 3) := by decide +kernel
theorem dX7_acted_43 : decode cX7_acted 43 = .ok (.iconst 1, 1) := by decide +kernel
theorem dX7_acted_44 : decode cX7_acted 44 = .ok (.isub, 1) := by decide +kernel
theorem dX7_acted_45 : decode cX7_acted 45 = .ok (.putfield 49, 3) := by decide +kernel
theorem dX7_acted_48 : decode cX7_acted 48 = .ok (.iconst 0, 1) := by decide +kernel
theorem dX7_acted_49 : decode cX7_acted 49 = .ok (.istore_n 2, 1) := by decide +kernel
theorem dX7_acted_50 : decode cX7_acted 50 = .ok (.iload_n 2, 1) := by decide +kernel
theorem dX7_acted_51 : decode cX7_acted 51 = .ok (.bipush 73, 2) := by decide +kernel
theorem dX7_acted_53 : decode cX7_acted 53 = .ok (.if_icmp .ge 29, 3) := by decide +kernel
theorem dX7_acted_56 : decode cX7_acted 56 = .ok (.aload_n 0, 1) := by decide +kernel
theorem dX7_acted_57 : decode cX7_acted 57 = .ok (.getfield 19, 3) := by decide +kernel
theorem dX7_acted_60 : decode cX7_acted 60 = .ok (.bipush 73, 2) := by decide +kernel
theorem dX7_acted_62 : decode cX7_acted 62 = .ok (.aload_n 0, 1) := by decide +kernel
theorem dX7_acted_63 : decode cX7_acted 63 = .ok (.getfield 49, 3) := by decide +kernel
theorem dX7_acted_66 : decode cX7_acted 66 = .ok (.imul, 1) := by decide +kernel
theorem dX7_acted_67 : decode cX7_acted 67 = .ok (.iload_n 2, 1) := by decide +kernel
theorem dX7_acted_68 : decode cX7_acted 68 = .ok (.iadd, 1) := by decide +kernel
theorem dX7_acted_69 : decode cX7_acted 69 = .ok (.aload_n 0, 1) := by decide +kernel
theorem dX7_acted_70 : decode cX7_acted 70 = .ok (.getfield 13, 3) := by decide +kernel
theorem dX7_acted_73 : decode cX7_acted 73 = .ok (.iload_n 2, 1) := by decide +kernel
theorem dX7_acted_74 : decode cX7_acted 74 = .ok (.iaload, 1) := by decide +kernel
theorem dX7_acted_75 : decode cX7_acted 75 = .ok (.iastore, 1) := by decide +kernel
theorem dX7_acted_76 : decode cX7_acted 76 = .ok (.iinc 2 1, 3) := by decide +kernel
theorem dX7_acted_79 : decode cX7_acted 79 = .ok (.goto (-29), 3) := by decide +kernel
theorem dX7_acted_82 : decode cX7_acted 82 = .ok (.aload_n 0, 1) := by decide +kernel
theorem dX7_acted_83 : decode cX7_acted 83 = .ok (.dup, 1) := by decide +kernel
theorem dX7_acted_84 : decode cX7_acted 84 = .ok (.getfield 49, 3) := by decide +kernel
theorem dX7_acted_87 : decode cX7_acted 87 = .ok (.iconst 1, 1) := by decide +kernel
theorem dX7_acted_88 : decode cX7_acted 88 = .ok (.iadd, 1) := by decide +kernel
theorem dX7_acted_89 : decode cX7_acted 89 = .ok (.putfield 49, 3) := by decide +kernel
theorem dX7_acted_92 : decode cX7_acted 92 = .ok (.iload_n 1, 1) := by decide +kernel
theorem dX7_acted_93 : decode cX7_acted 93 = .ok (.ireturn, 1) := by decide +kernel
theorem ax_83 {E : Ev} {a0 : Nat → Nat} {σ0 : N2} {v0 : UInt32} {x : Int32} : (wMd E a0 σ0 v0).set 0 (a0 0, .inr (6, ([.ref (a0 1), .ref (a0 2), .ref (a0 3), .ref (a0 4), .int (σ0 9 0), .ref (a0 5), .int (σ0 9 1), .ref (a0 6), .ref (a0 7), .ref (a0 8), .int (σ0 9 2), .int (σ0 9 3), .int (σ0 9 4), .int (σ0 9 5), .float v0, .int (σ0 9 6), .int (σ0 9 7), .int (σ0 9 8), .int (σ0 9 9), .ref (a0 9), .int (σ0 9 10), .int (σ0 9 11), .int (σ0 9 12), .int (σ0 9 13), .int (σ0 9 14)] : List Value).set 4 (.int x))) = wMd E a0 (u2 σ0 9 0 x) v0 := rfl
theorem ax_84 {E : Ev} {a0 : Nat → Nat} {σ0 : N2} {v0 : UInt32} {i x : Int32} : (wMd E a0 σ0 v0).set 4 (a0 4, .inl (E.2.1.1, 292, .inl (upd (σ0 3) i.toNatClampNeg x))) = wMd E a0 (u2 σ0 3 i.toNatClampNeg x) v0 := rfl
set_option maxHeartbeats 4000000 in
set_option maxRecDepth 100000 in
theorem kX7_acted (l : Launch) (E : Ev) (a : Nat → Nat) (μ : N2) (sp : UInt32) (re : Int32) (hH : gH μ) : KQ l yX7_acted cX7_acted 3 (some .int) 0 0 E [.ref (a 0), .int re] (wMd E a μ sp) (QI E (wMd E a μ sp) (fX7_acted μ sp re).1 (wMd E a ((fX7_acted μ sp re).2) sp)) := by
  refine KQ.mk RX7 rfl (by decide +kernel) (Nat.le_of_ble_eq_true rfl) ?_
  intro p e s m below meth c ls X hr w hl
  have hx := X.1
  have hb := X.2.1
  have hl : lv_has ls 3 [(0, .ref (a 0)), (1, .int re)] := hl
  refine lv_aload_n hx hb dX7_acted_0 rfl (lv_at hl 0 rfl) ?_
  refine r_get X w CL7 4 (by decide) wf_X7_49 0 rfl rfl dX7_acted_1 ?_
  refine lv_iconst (v := 4) hx hb dX7_acted_4 (by decide) ?_
  refine lv_icmp_ne (tgt := 48) hx hb dX7_acted_5 (by decide) (fun c5_1 => ?_) (fun c5_1 => ?_)
  · have ea : μ = acH μ := by unfold acH; rw [if_neg c5_1]
    have w := w.cw (show wMd E a (acH μ) sp = wMd E a μ sp by rw [← ea])
    obtain ⟨q, hq3, hq⟩ := hH.ac
    have w := w.cw (show wMd E a (va_up (acH μ) 3 (svN (acH μ 3) (acH μ 1) (73 * q) 0)) sp = wMd E a (acH μ) sp by rw [svN_0])
    refine lv_iconst (v := 0) hx hb dX7_acted_48 (by decide) ?_
    refine lv_istore_n (lv' := [(2, .int 0), (0, .ref (a 0)), (1, .int re)]) hx hb dX7_acted_49 rfl hl (by decide) rfl (fun ls hl => ?_)
    have loop2 : ∀ (n2 k2 : Nat), k2 + n2 = 73 → ∀ (H : Heap) (locs : List Loc), Wd E (hB (wMd E a μ sp)) s (wMd E a (va_up (acH μ) 3 (svN (acH μ 3) (acH μ 1) (73 * q) k2)) sp) H locs → ∀ (ls : Array Slot), lv_has ls 3 [(2, .int (nI k2)), (0, .ref (a 0)), (1, .int re)] → W p l e { frames := 0, cells := 0, slots := 0, locals := 0 } s m (([.ref (a 0), .int re] : List Value)).toArray below meth c H locs 0 0 (MQ below (QI E (wMd E a μ sp) (fX7_acted μ sp re).1 (wMd E a ((fX7_acted μ sp re).2) sp)) (([.ref (a 0), .int re] : List Value)).toArray s 0 0 (hB (wMd E a μ sp))) (F0 m 50 ls []) := by
      intro n2
      induction n2 with
      | zero =>
        intro k2 hk_k2 H locs w ls hl
        obtain rfl : k2 = 73 := by omega
        refine lv_iload_n hx hb dX7_acted_50 rfl (lv_at hl 0 rfl) ?_
        refine lv_bipush (v := 73) hx hb dX7_acted_51 (by decide) ?_
        refine lv_icmp_ge (tgt := 82) hx hb dX7_acted_53 (by decide) (fun _ => ?_) (fun h => absurd (by decide : (73 : Int32) ≤ nI 73) h)
        refine lv_aload_n hx hb dX7_acted_82 rfl (lv_at hl 1 rfl) ?_
        refine lv_dup hx hb dX7_acted_83 rfl ?_
        refine r_get X w CL7 4 (by decide) wf_X7_49 0 rfl rfl dX7_acted_84 ?_
        refine lv_iconst (v := 1) hx hb dX7_acted_87 (by decide) ?_
        refine lv_iadd hx hb dX7_acted_88 ?_
        refine r_put X w (wMd E a (u2 (va_up (acH μ) 3 (svN (acH μ 3) (acH μ 1) (73 * q) 73)) 9 0 (((va_up (acH μ) 3 (svN (acH μ 3) (acH μ 1) (73 * q) 73)) 9 0) + 1)) sp) CL7 4 (by decide) wf_X7_49 0 rfl rfl rfl rfl (Nat.le_of_ble_eq_true rfl) (ax_83 (E := E)) dX7_acted_89 (fun H locs w => ?_)
        refine lv_iload_n hx hb dX7_acted_92 rfl (lv_at hl 2 rfl) ?_
        have hq : fX7_acted μ sp re = (re, u2 (va_up (acH μ) 3 (svN (acH μ 3) (acH μ 1) (73 * q) 73)) 9 0 (((va_up (acH μ) 3 (svN (acH μ 3) (acH μ 1) (73 * q) 73)) 9 0) + 1)) := by show (re, u2 (va_up (acH μ) 3 (svN (acH μ 3) (acH μ 1) (73 * (acH μ 9 0).toNatClampNeg) 73)) 9 0 (acH μ 9 0 + 1)) = _; rw [show (acH μ 9 0).toNatClampNeg = q by rw [hq, nI_clamp (by omega)]]; rfl
        obtain ⟨h0_, h1_⟩ := tup2 hq
        rw [h0_, h1_]
        exact r_iret X w hr rfl dX7_acted_93
      | succ n2 ih2 =>
        intro k2 hk_k2 H locs w ls hl
        have hkNn2 : k2 < 73 := by omega
        refine lv_iload_n hx hb dX7_acted_50 rfl (lv_at hl 0 rfl) ?_
        refine lv_bipush (v := 73) hx hb dX7_acted_51 (by decide) ?_
        refine lv_icmp_ge (tgt := 82) hx hb dX7_acted_53 (by decide) (fun h => absurd h (nI_ge (b := 73) hkNn2 (by decide))) (fun _ => ?_)
        refine lv_aload_n hx hb dX7_acted_56 rfl (lv_at hl 1 rfl) ?_
        refine r_get X w CL7 3 (by decide) wf_X7_19 0 rfl rfl dX7_acted_57 ?_
        refine lv_bipush (v := 73) hx hb dX7_acted_60 (by decide) ?_
        refine lv_aload_n hx hb dX7_acted_62 rfl (lv_at hl 1 rfl) ?_
        refine r_get X w CL7 4 (by decide) wf_X7_49 0 rfl rfl dX7_acted_63 ?_
        refine lv_imul hx hb dX7_acted_66 ?_
        refine lv_iload_n hx hb dX7_acted_67 rfl (lv_at hl 0 rfl) ?_
        refine lv_iadd hx hb dX7_acted_68 ?_
        refine lv_aload_n hx hb dX7_acted_69 rfl (lv_at hl 1 rfl) ?_
        refine r_get X w CL7 1 (by decide) wf_X7_13 0 rfl rfl dX7_acted_70 ?_
        refine lv_iload_n hx hb dX7_acted_73 rfl (lv_at hl 0 rfl) ?_
        refine r_iald X w 2 rfl (vp_in_nI hkNn2 (by decide)) dX7_acted_74 ?_
        refine r_iast X w (wMd E a (u2 (va_up (acH μ) 3 (svN (acH μ 3) (acH μ 1) (73 * q) k2)) 3 ((73 * ((va_up (acH μ) 3 (svN (acH μ 3) (acH μ 1) (73 * q) k2)) 9 0)) + (nI k2)).toNatClampNeg ((va_up (acH μ) 3 (svN (acH μ 3) (acH μ 1) (73 * q) k2)) 1 (nI k2).toNatClampNeg)) sp) 4 rfl (sv_ix (x := acH μ 9 0) hq hq3 hkNn2).1 (ax_84 (E := E)) dX7_acted_75 (fun H locs w => ?_)
        refine lv_iinc (v := (nI k2) + 1) (lv' := [(2, .int ((nI k2) + 1)), (0, .ref (a 0)), (1, .int re)]) hx hb dX7_acted_76 hl (k := 0) rfl (by first | rfl | decide) (by decide) rfl (fun ls hl => ?_)
        refine lv_goto (tgt := 50) hx hb dX7_acted_79 (by decide) ?_
        have e0 : nI k2 + 1 = nI (k2 + 1) := nI_1 k2
        rw [e0] at hl
        rw [svN_succ (acH μ) hq hq3 hkNn2] at w
        exact ih2 (k2 + 1) (by omega) _ _ w ls (lv_sub hl [0, 1, 2] rfl)
    exact loop2 73 0 (by omega) _ _ w ls (lv_sub hl [0, 1, 2] rfl)
  · refine lv_iconst (v := 0) hx hb dX7_acted_8 (by decide) ?_
    refine lv_istore_n (lv' := [(2, .int 0), (0, .ref (a 0)), (1, .int re)]) hx hb dX7_acted_9 rfl hl (by decide) rfl (fun ls hl => ?_)
    have w := w.cw (show wMd E a (va_up μ 3 (shN (μ 3) 0)) sp = wMd E a μ sp by rw [shN_0])
    have loop1 : ∀ (n1 k1 : Nat), k1 + n1 = 219 → ∀ (H : Heap) (locs : List Loc), Wd E (hB (wMd E a μ sp)) s (wMd E a (va_up μ 3 (shN (μ 3) k1)) sp) H locs → ∀ (ls : Array Slot), lv_has ls 3 [(2, .int (nI k1)), (0, .ref (a 0)), (1, .int re)] → W p l e { frames := 0, cells := 0, slots := 0, locals := 0 } s m (([.ref (a 0), .int re] : List Value)).toArray below meth c H locs 0 0 (MQ below (QI E (wMd E a μ sp) (fX7_acted μ sp re).1 (wMd E a ((fX7_acted μ sp re).2) sp)) (([.ref (a 0), .int re] : List Value)).toArray s 0 0 (hB (wMd E a μ sp))) (F0 m 10 ls []) := by
      intro n1
      induction n1 with
      | zero =>
        intro k1 hk_k1 H locs w ls hl
        obtain rfl : k1 = 219 := by omega
        refine lv_iload_n hx hb dX7_acted_10 rfl (lv_at hl 0 rfl) ?_
        refine lv_sipush (v := 219) hx hb dX7_acted_11 (by decide) ?_
        refine lv_icmp_ge (tgt := 38) hx hb dX7_acted_14 (by decide) (fun _ => ?_) (fun h => absurd (by decide : (219 : Int32) ≤ nI 219) h)
        refine lv_aload_n hx hb dX7_acted_38 rfl (lv_at hl 1 rfl) ?_
        refine lv_dup hx hb dX7_acted_39 rfl ?_
        refine r_get X w CL7 4 (by decide) wf_X7_49 0 rfl rfl dX7_acted_40 ?_
        refine lv_iconst (v := 1) hx hb dX7_acted_43 (by decide) ?_
        refine lv_isub hx hb dX7_acted_44 ?_
        refine r_put X w (wMd E a (u2 (va_up μ 3 (shN (μ 3) 219)) 9 0 (((va_up μ 3 (shN (μ 3) 219)) 9 0) - 1)) sp) CL7 4 (by decide) wf_X7_49 0 rfl rfl rfl rfl (Nat.le_of_ble_eq_true rfl) (ax_83 (E := E)) dX7_acted_45 (fun H locs w => ?_)
        have ea : (u2 (va_up μ 3 (shN (μ 3) 219)) 9 0 (((va_up μ 3 (shN (μ 3) 219)) 9 0) - 1)) = acH μ := by unfold acH; rw [if_pos c5_1]; rfl
        have w := w.cw (show wMd E a (acH μ) sp = wMd E a (u2 (va_up μ 3 (shN (μ 3) 219)) 9 0 (((va_up μ 3 (shN (μ 3) 219)) 9 0) - 1)) sp by rw [← ea])
        obtain ⟨q, hq3, hq⟩ := hH.ac
        have w := w.cw (show wMd E a (va_up (acH μ) 3 (svN (acH μ 3) (acH μ 1) (73 * q) 0)) sp = wMd E a (acH μ) sp by rw [svN_0])
        refine lv_iconst (v := 0) hx hb dX7_acted_48 (by decide) ?_
        refine lv_istore_n (lv' := [(2, .int 0), (0, .ref (a 0)), (1, .int re)]) hx hb dX7_acted_49 rfl hl (by decide) rfl (fun ls hl => ?_)
        have loop2 : ∀ (n2 k2 : Nat), k2 + n2 = 73 → ∀ (H : Heap) (locs : List Loc), Wd E (hB (wMd E a μ sp)) s (wMd E a (va_up (acH μ) 3 (svN (acH μ 3) (acH μ 1) (73 * q) k2)) sp) H locs → ∀ (ls : Array Slot), lv_has ls 3 [(2, .int (nI k2)), (0, .ref (a 0)), (1, .int re)] → W p l e { frames := 0, cells := 0, slots := 0, locals := 0 } s m (([.ref (a 0), .int re] : List Value)).toArray below meth c H locs 0 0 (MQ below (QI E (wMd E a μ sp) (fX7_acted μ sp re).1 (wMd E a ((fX7_acted μ sp re).2) sp)) (([.ref (a 0), .int re] : List Value)).toArray s 0 0 (hB (wMd E a μ sp))) (F0 m 50 ls []) := by
          intro n2
          induction n2 with
          | zero =>
            intro k2 hk_k2 H locs w ls hl
            obtain rfl : k2 = 73 := by omega
            refine lv_iload_n hx hb dX7_acted_50 rfl (lv_at hl 0 rfl) ?_
            refine lv_bipush (v := 73) hx hb dX7_acted_51 (by decide) ?_
            refine lv_icmp_ge (tgt := 82) hx hb dX7_acted_53 (by decide) (fun _ => ?_) (fun h => absurd (by decide : (73 : Int32) ≤ nI 73) h)
            refine lv_aload_n hx hb dX7_acted_82 rfl (lv_at hl 1 rfl) ?_
            refine lv_dup hx hb dX7_acted_83 rfl ?_
            refine r_get X w CL7 4 (by decide) wf_X7_49 0 rfl rfl dX7_acted_84 ?_
            refine lv_iconst (v := 1) hx hb dX7_acted_87 (by decide) ?_
            refine lv_iadd hx hb dX7_acted_88 ?_
            refine r_put X w (wMd E a (u2 (va_up (acH μ) 3 (svN (acH μ 3) (acH μ 1) (73 * q) 73)) 9 0 (((va_up (acH μ) 3 (svN (acH μ 3) (acH μ 1) (73 * q) 73)) 9 0) + 1)) sp) CL7 4 (by decide) wf_X7_49 0 rfl rfl rfl rfl (Nat.le_of_ble_eq_true rfl) (ax_83 (E := E)) dX7_acted_89 (fun H locs w => ?_)
            refine lv_iload_n hx hb dX7_acted_92 rfl (lv_at hl 2 rfl) ?_
            have hq : fX7_acted μ sp re = (re, u2 (va_up (acH μ) 3 (svN (acH μ 3) (acH μ 1) (73 * q) 73)) 9 0 (((va_up (acH μ) 3 (svN (acH μ 3) (acH μ 1) (73 * q) 73)) 9 0) + 1)) := by show (re, u2 (va_up (acH μ) 3 (svN (acH μ 3) (acH μ 1) (73 * (acH μ 9 0).toNatClampNeg) 73)) 9 0 (acH μ 9 0 + 1)) = _; rw [show (acH μ 9 0).toNatClampNeg = q by rw [hq, nI_clamp (by omega)]]; rfl
            obtain ⟨h0_, h1_⟩ := tup2 hq
            rw [h0_, h1_]
            exact r_iret X w hr rfl dX7_acted_93
          | succ n2 ih2 =>
            intro k2 hk_k2 H locs w ls hl
            have hkNn2 : k2 < 73 := by omega
            refine lv_iload_n hx hb dX7_acted_50 rfl (lv_at hl 0 rfl) ?_
            refine lv_bipush (v := 73) hx hb dX7_acted_51 (by decide) ?_
            refine lv_icmp_ge (tgt := 82) hx hb dX7_acted_53 (by decide) (fun h => absurd h (nI_ge (b := 73) hkNn2 (by decide))) (fun _ => ?_)
            refine lv_aload_n hx hb dX7_acted_56 rfl (lv_at hl 1 rfl) ?_
            refine r_get X w CL7 3 (by decide) wf_X7_19 0 rfl rfl dX7_acted_57 ?_
            refine lv_bipush (v := 73) hx hb dX7_acted_60 (by decide) ?_
            refine lv_aload_n hx hb dX7_acted_62 rfl (lv_at hl 1 rfl) ?_
            refine r_get X w CL7 4 (by decide) wf_X7_49 0 rfl rfl dX7_acted_63 ?_
            refine lv_imul hx hb dX7_acted_66 ?_
            refine lv_iload_n hx hb dX7_acted_67 rfl (lv_at hl 0 rfl) ?_
            refine lv_iadd hx hb dX7_acted_68 ?_
            refine lv_aload_n hx hb dX7_acted_69 rfl (lv_at hl 1 rfl) ?_
            refine r_get X w CL7 1 (by decide) wf_X7_13 0 rfl rfl dX7_acted_70 ?_
            refine lv_iload_n hx hb dX7_acted_73 rfl (lv_at hl 0 rfl) ?_
            refine r_iald X w 2 rfl (vp_in_nI hkNn2 (by decide)) dX7_acted_74 ?_
            refine r_iast X w (wMd E a (u2 (va_up (acH μ) 3 (svN (acH μ 3) (acH μ 1) (73 * q) k2)) 3 ((73 * ((va_up (acH μ) 3 (svN (acH μ 3) (acH μ 1) (73 * q) k2)) 9 0)) + (nI k2)).toNatClampNeg ((va_up (acH μ) 3 (svN (acH μ 3) (acH μ 1) (73 * q) k2)) 1 (nI k2).toNatClampNeg)) sp) 4 rfl (sv_ix (x := acH μ 9 0) hq hq3 hkNn2).1 (ax_84 (E := E)) dX7_acted_75 (fun H locs w => ?_)
            refine lv_iinc (v := (nI k2) + 1) (lv' := [(2, .int ((nI k2) + 1)), (0, .ref (a 0)), (1, .int re)]) hx hb dX7_acted_76 hl (k := 0) rfl (by first | rfl | decide) (by decide) rfl (fun ls hl => ?_)
            refine lv_goto (tgt := 50) hx hb dX7_acted_79 (by decide) ?_
            have e0 : nI k2 + 1 = nI (k2 + 1) := nI_1 k2
            rw [e0] at hl
            rw [svN_succ (acH μ) hq hq3 hkNn2] at w
            exact ih2 (k2 + 1) (by omega) _ _ w ls (lv_sub hl [0, 1, 2] rfl)
        exact loop2 73 0 (by omega) _ _ w ls (lv_sub hl [0, 1, 2] rfl)
      | succ n1 ih1 =>
        intro k1 hk_k1 H locs w ls hl
        have hkNn1 : k1 < 219 := by omega
        refine lv_iload_n hx hb dX7_acted_10 rfl (lv_at hl 0 rfl) ?_
        refine lv_sipush (v := 219) hx hb dX7_acted_11 (by decide) ?_
        refine lv_icmp_ge (tgt := 38) hx hb dX7_acted_14 (by decide) (fun h => absurd h (nI_ge (b := 219) hkNn1 (by decide))) (fun _ => ?_)
        refine lv_aload_n hx hb dX7_acted_17 rfl (lv_at hl 1 rfl) ?_
        refine r_get X w CL7 3 (by decide) wf_X7_19 0 rfl rfl dX7_acted_18 ?_
        refine lv_iload_n hx hb dX7_acted_21 rfl (lv_at hl 0 rfl) ?_
        refine lv_aload_n hx hb dX7_acted_22 rfl (lv_at hl 1 rfl) ?_
        refine r_get X w CL7 3 (by decide) wf_X7_19 0 rfl rfl dX7_acted_23 ?_
        refine lv_iload_n hx hb dX7_acted_26 rfl (lv_at hl 0 rfl) ?_
        refine lv_bipush (v := 73) hx hb dX7_acted_27 (by decide) ?_
        refine lv_iadd hx hb dX7_acted_29 ?_
        refine r_iald X w 4 rfl (by rw [show nI k1 + 73 = nI (k1 + 73) from nI_add k1 73]; exact vp_in_nI (by omega) (by decide)) dX7_acted_30 ?_
        refine r_iast X w (wMd E a (u2 (va_up μ 3 (shN (μ 3) k1)) 3 (nI k1).toNatClampNeg ((va_up μ 3 (shN (μ 3) k1)) 3 ((nI k1) + 73).toNatClampNeg)) sp) 4 rfl (vp_in_nI (by omega) (by decide)) (ax_84 (E := E)) dX7_acted_31 (fun H locs w => ?_)
        refine lv_iinc (v := (nI k1) + 1) (lv' := [(2, .int ((nI k1) + 1)), (0, .ref (a 0)), (1, .int re)]) hx hb dX7_acted_32 hl (k := 0) rfl (by first | rfl | decide) (by decide) rfl (fun ls hl => ?_)
        refine lv_goto (tgt := 10) hx hb dX7_acted_35 (by decide) ?_
        have e0 : nI k1 + 1 = nI (k1 + 1) := nI_1 k1
        rw [e0] at hl
        rw [shN_succ μ hkNn1] at w
        exact ih1 (k1 + 1) (by omega) _ _ w ls (lv_sub hl [0, 1, 2] rfl)
    exact loop1 219 0 (by omega) _ _ w ls (lv_sub hl [0, 1, 2] rfl)
def fX7_clearText (μ : N2) (sp : UInt32) : Int32 × N2 := (μ 9 10, u2 μ 9 10 0)
theorem dX7_clearText_0 : decode cX7_clearText 0 = .ok (.aload_n 0, 1) := by decide +kernel
theorem dX7_clearText_1 : decode cX7_clearText 1 = .ok (.getfield 170, 3) := by decide +kernel
theorem dX7_clearText_4 : decode cX7_clearText 4 = .ok (.istore_n 1, 1) := by decide +kernel
theorem dX7_clearText_5 : decode cX7_clearText 5 = .ok (.aload_n 0, 1) := by decide +kernel
theorem dX7_clearText_6 : decode cX7_clearText 6 = .ok (.iconst 0, 1) := by decide +kernel
theorem dX7_clearText_7 : decode cX7_clearText 7 = .ok (.putfield 170, 3) := by decide +kernel
theorem dX7_clearText_10 : decode cX7_clearText 10 = .ok (.iload_n 1, 1) := by decide +kernel
theorem dX7_clearText_11 : decode cX7_clearText 11 = .ok (.ireturn, 1) := by decide +kernel
theorem ax_85 {E : Ev} {a0 : Nat → Nat} {σ0 : N2} {v0 : UInt32} {x : Int32} : (wMd E a0 σ0 v0).set 0 (a0 0, .inr (6, ([.ref (a0 1), .ref (a0 2), .ref (a0 3), .ref (a0 4), .int (σ0 9 0), .ref (a0 5), .int (σ0 9 1), .ref (a0 6), .ref (a0 7), .ref (a0 8), .int (σ0 9 2), .int (σ0 9 3), .int (σ0 9 4), .int (σ0 9 5), .float v0, .int (σ0 9 6), .int (σ0 9 7), .int (σ0 9 8), .int (σ0 9 9), .ref (a0 9), .int (σ0 9 10), .int (σ0 9 11), .int (σ0 9 12), .int (σ0 9 13), .int (σ0 9 14)] : List Value).set 20 (.int x))) = wMd E a0 (u2 σ0 9 10 x) v0 := rfl
set_option maxHeartbeats 4000000 in
set_option maxRecDepth 100000 in
theorem kX7_clearText (l : Launch) (E : Ev) (a : Nat → Nat) (μ : N2) (sp : UInt32) : KQ l yX7_clearText cX7_clearText 2 (some .int) 0 0 E [.ref (a 0)] (wMd E a μ sp) (QI E (wMd E a μ sp) (fX7_clearText μ sp).1 (wMd E a ((fX7_clearText μ sp).2) sp)) := by
  refine KQ.mk RX7 rfl (by decide +kernel) (Nat.le_of_ble_eq_true rfl) ?_
  intro p e s m below meth c ls X hr w hl
  have hx := X.1
  have hb := X.2.1
  have hl : lv_has ls 2 [(0, .ref (a 0))] := hl
  refine lv_aload_n hx hb dX7_clearText_0 rfl (lv_at hl 0 rfl) ?_
  refine r_get X w CL7 20 (by decide) wf_X7_170 0 rfl rfl dX7_clearText_1 ?_
  refine lv_istore_n (lv' := [(1, .int (μ 9 10)), (0, .ref (a 0))]) hx hb dX7_clearText_4 rfl hl (by decide) rfl (fun ls hl => ?_)
  refine lv_aload_n hx hb dX7_clearText_5 rfl (lv_at hl 1 rfl) ?_
  refine lv_iconst (v := 0) hx hb dX7_clearText_6 (by decide) ?_
  refine r_put X w (wMd E a (u2 μ 9 10 0) sp) CL7 20 (by decide) wf_X7_170 0 rfl rfl rfl rfl (Nat.le_of_ble_eq_true rfl) (ax_85 (E := E)) dX7_clearText_7 (fun H locs w => ?_)
  refine lv_iload_n hx hb dX7_clearText_10 rfl (lv_at hl 0 rfl) ?_
  have hq : fX7_clearText μ sp = (μ 9 10, u2 μ 9 10 0) := rfl
  obtain ⟨h0_, h1_⟩ := tup2 hq
  rw [h0_, h1_]
  exact r_iret X w hr rfl dX7_clearText_11
def gT (μ : N2) : Prop := 0 ≤ (μ 9 10).toInt ∧ (μ 9 10).toInt ≤ 60
theorem gT.ix {μ : N2} (h : gT μ) (h2 : ¬ μ 9 10 = 60) : vp_in (μ 9 10) 60 := by
  have h3 : ¬ (μ 9 10).toInt = 60 := ne_i h2
  rw [vp_in_iff]
  have := h.1
  have := h.2
  omega
def fX7_type (μ : N2) (sp : UInt32) (ch : Int32) : Int32 × N2 := if (μ 9 10) = 60 then (((-3), μ)) else (((u2 (u2 μ 8 (μ 9 10).toNatClampNeg ch) 9 10 (((u2 μ 8 (μ 9 10).toNatClampNeg ch) 9 10) + 1)) 9 10, u2 (u2 μ 8 (μ 9 10).toNatClampNeg ch) 9 10 (((u2 μ 8 (μ 9 10).toNatClampNeg ch) 9 10) + 1)))
theorem dX7_type_0 : decode cX7_type 0 = .ok (.aload_n 0, 1) := by decide +kernel
theorem dX7_type_1 : decode cX7_type 1 = .ok (.getfield 170, 3) := by decide +kernel
theorem dX7_type_4 : decode cX7_type 4 = .ok (.bipush 60, 2) := by decide +kernel
theorem dX7_type_6 : decode cX7_type 6 = .ok (.if_icmp .ne 6, 3) := by decide +kernel
theorem dX7_type_9 : decode cX7_type 9 = .ok (.bipush (-3), 2) := by decide +kernel
theorem dX7_type_11 : decode cX7_type 11 = .ok (.ireturn, 1) := by decide +kernel
theorem dX7_type_12 : decode cX7_type 12 = .ok (.aload_n 0, 1) := by decide +kernel
theorem dX7_type_13 : decode cX7_type 13 = .ok (.getfield 34, 3) := by decide +kernel
theorem dX7_type_16 : decode cX7_type 16 = .ok (.aload_n 0, 1) := by decide +kernel
theorem dX7_type_17 : decode cX7_type 17 = .ok (.getfield 170, 3) := by decide +kernel
theorem dX7_type_20 : decode cX7_type 20 = .ok (.iload_n 1, 1) := by decide +kernel
theorem dX7_type_21 : decode cX7_type 21 = .ok (.iastore, 1) := by decide +kernel
theorem dX7_type_22 : decode cX7_type 22 = .ok (.aload_n 0, 1) := by decide +kernel
theorem dX7_type_23 : decode cX7_type 23 = .ok (.dup, 1) := by decide +kernel
theorem dX7_type_24 : decode cX7_type 24 = .ok (.getfield 170, 3) := by decide +kernel
theorem dX7_type_27 : decode cX7_type 27 = .ok (.iconst 1, 1) := by decide +kernel
theorem dX7_type_28 : decode cX7_type 28 = .ok (.iadd, 1) := by decide +kernel
theorem dX7_type_29 : decode cX7_type 29 = .ok (.putfield 170, 3) := by decide +kernel
theorem dX7_type_32 : decode cX7_type 32 = .ok (.aload_n 0, 1) := by decide +kernel
theorem dX7_type_33 : decode cX7_type 33 = .ok (.getfield 170, 3) := by decide +kernel
theorem dX7_type_36 : decode cX7_type 36 = .ok (.ireturn, 1) := by decide +kernel
theorem ax_86 {E : Ev} {a0 : Nat → Nat} {σ0 : N2} {v0 : UInt32} {i x : Int32} : (wMd E a0 σ0 v0).set 9 (a0 9, .inl (E.2.1.1, 60, .inl (upd (σ0 8) i.toNatClampNeg x))) = wMd E a0 (u2 σ0 8 i.toNatClampNeg x) v0 := rfl
set_option maxHeartbeats 4000000 in
set_option maxRecDepth 100000 in
theorem kX7_type (l : Launch) (E : Ev) (a : Nat → Nat) (μ : N2) (sp : UInt32) (ch : Int32) (hT : gT μ) : KQ l yX7_type cX7_type 2 (some .int) 0 0 E [.ref (a 0), .int ch] (wMd E a μ sp) (QI E (wMd E a μ sp) (fX7_type μ sp ch).1 (wMd E a ((fX7_type μ sp ch).2) sp)) := by
  refine KQ.mk RX7 rfl (by decide +kernel) (Nat.le_of_ble_eq_true rfl) ?_
  intro p e s m below meth c ls X hr w hl
  have hx := X.1
  have hb := X.2.1
  have hl : lv_has ls 2 [(0, .ref (a 0)), (1, .int ch)] := hl
  refine lv_aload_n hx hb dX7_type_0 rfl (lv_at hl 0 rfl) ?_
  refine r_get X w CL7 20 (by decide) wf_X7_170 0 rfl rfl dX7_type_1 ?_
  refine lv_bipush (v := 60) hx hb dX7_type_4 (by decide) ?_
  refine lv_icmp_ne (tgt := 12) hx hb dX7_type_6 (by decide) (fun c6_1 => ?_) (fun c6_1 => ?_)
  · refine lv_aload_n hx hb dX7_type_12 rfl (lv_at hl 0 rfl) ?_
    refine r_get X w CL7 19 (by decide) wf_X7_34 0 rfl rfl dX7_type_13 ?_
    refine lv_aload_n hx hb dX7_type_16 rfl (lv_at hl 0 rfl) ?_
    refine r_get X w CL7 20 (by decide) wf_X7_170 0 rfl rfl dX7_type_17 ?_
    refine lv_iload_n hx hb dX7_type_20 rfl (lv_at hl 1 rfl) ?_
    refine r_iast X w (wMd E a (u2 μ 8 (μ 9 10).toNatClampNeg ch) sp) 9 rfl (hT.ix c6_1) (ax_86 (E := E)) dX7_type_21 (fun H locs w => ?_)
    refine lv_aload_n hx hb dX7_type_22 rfl (lv_at hl 0 rfl) ?_
    refine lv_dup hx hb dX7_type_23 rfl ?_
    refine r_get X w CL7 20 (by decide) wf_X7_170 0 rfl rfl dX7_type_24 ?_
    refine lv_iconst (v := 1) hx hb dX7_type_27 (by decide) ?_
    refine lv_iadd hx hb dX7_type_28 ?_
    refine r_put X w (wMd E a (u2 (u2 μ 8 (μ 9 10).toNatClampNeg ch) 9 10 (((u2 μ 8 (μ 9 10).toNatClampNeg ch) 9 10) + 1)) sp) CL7 20 (by decide) wf_X7_170 0 rfl rfl rfl rfl (Nat.le_of_ble_eq_true rfl) (ax_85 (E := E)) dX7_type_29 (fun H locs w => ?_)
    refine lv_aload_n hx hb dX7_type_32 rfl (lv_at hl 0 rfl) ?_
    refine r_get X w CL7 20 (by decide) wf_X7_170 0 rfl rfl dX7_type_33 ?_
    have hq : fX7_type μ sp ch = ((u2 (u2 μ 8 (μ 9 10).toNatClampNeg ch) 9 10 (((u2 μ 8 (μ 9 10).toNatClampNeg ch) 9 10) + 1)) 9 10, u2 (u2 μ 8 (μ 9 10).toNatClampNeg ch) 9 10 (((u2 μ 8 (μ 9 10).toNatClampNeg ch) 9 10) + 1)) := by simp only [fX7_type, if_neg c6_1]
    obtain ⟨h0_, h1_⟩ := tup2 hq
    rw [h0_, h1_]
    exact r_iret X w hr rfl dX7_type_36
  · refine lv_bipush (v := (-3)) hx hb dX7_type_9 (by decide) ?_
    have hq : fX7_type μ sp ch = ((-3), μ) := by simp only [fX7_type, if_pos c6_1]
    obtain ⟨h0_, h1_⟩ := tup2 hq
    rw [h0_, h1_]
    exact r_iret X w hr rfl dX7_type_11
def fX7_cell (μ : N2) (sp : UInt32) (q : Int32) (r : Int32) : Int32 := ((fX7_cellAt μ sp q r))
theorem dX7_cell_0 : decode cX7_cell 0 = .ok (.aload_n 0, 1) := by decide +kernel
theorem dX7_cell_1 : decode cX7_cell 1 = .ok (.iload_n 1, 1) := by decide +kernel
theorem dX7_cell_2 : decode cX7_cell 2 = .ok (.iload_n 2, 1) := by decide +kernel
theorem dX7_cell_3 : decode cX7_cell 3 = .ok (.invokevirtual 62, 3) := by decide +kernel
theorem dX7_cell_6 : decode cX7_cell 6 = .ok (.ireturn, 1) := by decide +kernel
set_option maxHeartbeats 4000000 in
set_option maxRecDepth 100000 in
theorem kX7_cell (l : Launch) (E : Ev) (a : Nat → Nat) (μ : N2) (sp : UInt32) (q : Int32) (r : Int32) : KQ l yX7_cell cX7_cell 3 (some .int) 2 47 E [.ref (a 0), .int q, .int r] (wMd E a μ sp) (QI E (wMd E a μ sp) (fX7_cell μ sp q r) (wMd E a μ sp)) := by
  refine KQ.mk RX7 rfl (by decide +kernel) (Nat.le_of_ble_eq_true rfl) ?_
  intro p e s m below meth c ls X hr w hl
  have hx := X.1
  have hb := X.2.1
  have hl : lv_has ls 3 [(0, .ref (a 0)), (1, .int q), (2, .int r)] := hl
  refine lv_aload_n hx hb dX7_cell_0 rfl (lv_at hl 0 rfl) ?_
  refine lv_iload_n hx hb dX7_cell_1 rfl (lv_at hl 1 rfl) ?_
  refine lv_iload_n hx hb dX7_cell_2 rfl (lv_at hl 2 rfl) ?_
  refine r_ci w (r_runV (As := [.int q, .int r]) (rest := []) X w (kX7_cellAt l E a μ sp q r ) ck_X7_62 ⟨Nat.le_of_ble_eq_true rfl, Nat.le_of_ble_eq_true rfl⟩ [0, 1, 2, 3, 4, 5, 6, 7, 8, 9] (hc_81 (E := E)) (by decide +kernel) (k0 := 0) CL7 rfl hl.1 (Nat.le_of_ble_eq_true rfl) rfl dX7_cell_3 ⟨Nat.le_of_ble_eq_true rfl, Nat.le_of_ble_eq_true rfl⟩) (wMd E a μ sp) [0, 1, 2, 3, 4, 5, 6, 7, 8, 9] (hc_81 (E := E)) (by decide +kernel) (ha_81 (E := E)) (hw_81 (E := E)) (fun H locs w => ?_)
  have hq : fX7_cell μ sp q r = ((fX7_cellAt μ sp q r)) := rfl
  rw [hq]
  exact r_iret X w hr rfl dX7_cell_6
