/-! the reference: along (printed by wip/whole/gen/p23.py) -/
/-- the cells on the way: a cell further, n times -/
def alN (μ : N2) (sp : UInt32) (qs : Int32) : Nat → Nat → Int32 → Int32 → Int32
  | 0, _, c, _ => c
  | n + 1, k, c, d => if nI k = qs then (if fX7_ahead μ sp c ((d + 3) - (d + 3) / 6 * 6) = (-5) then alN μ sp qs n (k + 1) (fX7_ahead μ sp c (fX7_turned μ sp c ((d + 3) - (d + 3) / 6 * 6))) (fX7_turned μ sp c ((d + 3) - (d + 3) / 6 * 6)) else alN μ sp qs n (k + 1) (fX7_ahead μ sp c ((d + 3) - (d + 3) / 6 * 6)) ((d + 3) - (d + 3) / 6 * 6)) else (if fX7_ahead μ sp c d = (-5) then alN μ sp qs n (k + 1) (fX7_ahead μ sp c (fX7_turned μ sp c d)) (fX7_turned μ sp c d) else alN μ sp qs n (k + 1) (fX7_ahead μ sp c d) d)
def alM (bk qs : Int32) : Nat := if bk = 0 then ((1 : Int32) * qs).toNatClampNeg else ((2 : Int32) * qs).toNatClampNeg
def fX7_along (μ : N2) (sp : UInt32) (ce di qs bk : Int32) : Int32 := if fX7_isCell ce = 0 then (-1) else if fX7_in di.toInt64 0 5 = 0 then (-2) else if fX7_in qs.toInt64 0 99 = 0 then (-2) else alN μ sp qs (alM bk qs) 0 ce di
theorem in_pos {x : Int32} {n : Nat} {b : Int64} (hb : b.toInt = (n : Int)) (h : ¬ fX7_in x.toInt64 0 b = 0) : vp_in x (n + 1) := by
  rw [in_iff] at h
  have e0 : (0 : Int64).toInt = 0 := rfl
  rw [vp_in_iff]
  omega
theorem al_le {bk qs : Int32} {m : Int32} {n : Nat} (hm : m = 1 ∨ m = 2) (h : (if bk = 0 then ((1 : Int32) * qs).toNatClampNeg else ((2 : Int32) * qs).toNatClampNeg) = (m * qs).toNatClampNeg) (hq : vp_in qs 100) : 0 ≤ (m * qs).toInt ∧ (m * qs).toInt ≤ 198 ∧ alM bk qs = (m * qs).toNatClampNeg := by
  have e1 : (1 : Int32).toInt = 1 := rfl
  have e2 : (2 : Int32).toInt = 2 := rfl
  rw [vp_in_iff] at hq
  refine ⟨?_, ?_, h⟩
  · rcases hm with rfl | rfl
    · rw [ti_mul (by rw [e1]; omega) (by rw [e1]; omega), e1]; omega
    · rw [ti_mul (by rw [e2]; omega) (by rw [e2]; omega), e2]; omega
  · rcases hm with rfl | rfl
    · rw [ti_mul (by rw [e1]; omega) (by rw [e1]; omega), e1]; omega
    · rw [ti_mul (by rw [e2]; omega) (by rw [e2]; omega), e2]; omega
theorem al_z1 {bk qs : Int32} (hb : bk = 0) (hq : vp_in qs 100) : (1 : Int32) * qs ≤ nI (alM bk qs) := by
  have h := al_le (bk := bk) (qs := qs) (m := 1) (n := 0) (Or.inl rfl) (by rw [if_pos hb]) hq
  rw [h.2.2]
  exact le_cl _
theorem al_z2 {bk qs : Int32} (hb : ¬ bk = 0) (hq : vp_in qs 100) : (2 : Int32) * qs ≤ nI (alM bk qs) := by
  have h := al_le (bk := bk) (qs := qs) (m := 2) (n := 0) (Or.inr rfl) (by rw [if_neg hb]) hq
  rw [h.2.2]
  exact le_cl _
theorem al_s1 {bk qs : Int32} {k : Nat} (hb : bk = 0) (hq : vp_in qs 100) (hk : k < alM bk qs) : ¬ (1 : Int32) * qs ≤ nI k := by
  have h := al_le (bk := bk) (qs := qs) (m := 1) (n := 0) (Or.inl rfl) (by rw [if_pos hb]) hq
  rw [h.2.2] at hk
  exact lt_cl hk
theorem al_s2 {bk qs : Int32} {k : Nat} (hb : ¬ bk = 0) (hq : vp_in qs 100) (hk : k < alM bk qs) : ¬ (2 : Int32) * qs ≤ nI k := by
  have h := al_le (bk := bk) (qs := qs) (m := 2) (n := 0) (Or.inr rfl) (by rw [if_neg hb]) hq
  rw [h.2.2] at hk
  exact lt_cl hk
theorem fin_rv : ∀ w : Fin 6, ¬ ((((Int32.ofNat w.val + 3) - (Int32.ofNat w.val + 3) / 6 * 6)) < 0 ∨ 6 ≤ (((Int32.ofNat w.val + 3) - (Int32.ofNat w.val + 3) / 6 * 6)).toNatClampNeg) := by decide +kernel
theorem rv_in {d : Int32} (hd : vp_in d 6) : vp_in ((d + 3) - (d + 3) / 6 * 6) 6 := by
  obtain ⟨k, hk, rfl⟩ := vin_cases hd
  exact fin_rv ⟨k, hk⟩
/-- a turn: a direction, and open -/
theorem tu_in {μ : N2} {sp : UInt32} {c d : Int32} (hT : gTab μ) (hc : vp_in c 61) (hd : vp_in d 6) (h : fX7_ahead μ sp c d = (-5)) : vp_in (fX7_turned μ sp c d) 6 ∧ ¬ fX7_ahead μ sp c (fX7_turned μ sp c d) = (-5) := by
  rw [ahead_tab hT hc hd] at h
  rw [turned_tab hT hc]
  have h2 : vp_in (tuC c d) 6 ∧ ¬ ahC c (tuC c d) = (-5) := by
    obtain ⟨k, hk, rfl⟩ := vin_cases hc
    obtain ⟨j, hj, rfl⟩ := vin_cases hd
    exact fin_tu ⟨k, hk⟩ ⟨j, hj⟩ h
  exact ⟨h2.1, by rw [ahead_tab hT hc h2.1]; exact h2.2⟩
theorem dX7_along_0 : decode cX7_along 0 = .ok (.iload_n 1, 1) := by decide +kernel
theorem dX7_along_1 : decode cX7_along 1 = .ok (.invokestatic 130, 3) := by decide +kernel
theorem dX7_along_4 : decode cX7_along 4 = .ok (.ifCond .ne 5, 3) := by decide +kernel
theorem dX7_along_7 : decode cX7_along 7 = .ok (.iconst (-1), 1) := by decide +kernel
theorem dX7_along_8 : decode cX7_along 8 = .ok (.ireturn, 1) := by decide +kernel
theorem dX7_along_9 : decode cX7_along 9 = .ok (.iload_n 2, 1) := by decide +kernel
theorem dX7_along_10 : decode cX7_along 10 = .ok (.i2l, 1) := by decide +kernel
theorem dX7_along_11 : decode cX7_along 11 = .ok (.lconst 0, 1) := by decide +kernel
theorem dX7_along_12 : decode cX7_along 12 = .ok (.ldc2_w 118, 3) := by decide +kernel
theorem dX7_along_15 : decode cX7_along 15 = .ok (.invokestatic 41, 3) := by decide +kernel
theorem dX7_along_18 : decode cX7_along 18 = .ok (.ifCond .eq 15, 3) := by decide +kernel
theorem dX7_along_21 : decode cX7_along 21 = .ok (.iload_n 3, 1) := by decide +kernel
theorem dX7_along_22 : decode cX7_along 22 = .ok (.i2l, 1) := by decide +kernel
theorem dX7_along_23 : decode cX7_along 23 = .ok (.lconst 0, 1) := by decide +kernel
theorem dX7_along_24 : decode cX7_along 24 = .ok (.ldc2_w 154, 3) := by decide +kernel
theorem dX7_along_27 : decode cX7_along 27 = .ok (.invokestatic 41, 3) := by decide +kernel
theorem dX7_along_30 : decode cX7_along 30 = .ok (.ifCond .ne 6, 3) := by decide +kernel
theorem dX7_along_33 : decode cX7_along 33 = .ok (.bipush (-2), 2) := by decide +kernel
theorem dX7_along_35 : decode cX7_along 35 = .ok (.ireturn, 1) := by decide +kernel
theorem dX7_along_36 : decode cX7_along 36 = .ok (.iload_n 1, 1) := by decide +kernel
theorem dX7_along_37 : decode cX7_along 37 = .ok (.istore 5, 2) := by decide +kernel
theorem dX7_along_39 : decode cX7_along 39 = .ok (.iload_n 2, 1) := by decide +kernel
theorem dX7_along_40 : decode cX7_along 40 = .ok (.istore 6, 2) := by decide +kernel
theorem dX7_along_42 : decode cX7_along 42 = .ok (.iconst 0, 1) := by decide +kernel
theorem dX7_along_43 : decode cX7_along 43 = .ok (.istore 7, 2) := by decide +kernel
theorem dX7_along_45 : decode cX7_along 45 = .ok (.iload 7, 2) := by decide +kernel
theorem dX7_along_47 : decode cX7_along 47 = .ok (.iload 4, 2) := by decide +kernel
theorem dX7_along_49 : decode cX7_along 49 = .ok (.ifCond .eq 7, 3) := by decide +kernel
theorem dX7_along_52 : decode cX7_along 52 = .ok (.iconst 2, 1) := by decide +kernel
theorem dX7_along_53 : decode cX7_along 53 = .ok (.goto 4, 3) := by decide +kernel
theorem dX7_along_56 : decode cX7_along 56 = .ok (.iconst 1, 1) := by decide +kernel
theorem dX7_along_57 : decode cX7_along 57 = .ok (.iload_n 3, 1) := by decide +kernel
theorem dX7_along_58 : decode cX7_along 58 = .ok (.imul, 1) := by decide +kernel
theorem dX7_along_59 : decode cX7_along 59 = .ok (.if_icmp .ge 65, 3) := by decide +kernel
theorem dX7_along_62 : decode cX7_along 62 = .ok (.iload 7, 2) := by decide +kernel
theorem dX7_along_64 : decode cX7_along 64 = .ok (.iload_n 3, 1) := by decide +kernel
theorem dX7_along_65 : decode cX7_along 65 = .ok (.if_icmp .ne 13, 3) := by decide +kernel
theorem dX7_along_68 : decode cX7_along 68 = .ok (.iload 6, 2) := by decide +kernel
theorem dX7_along_70 : decode cX7_along 70 = .ok (.iconst 3, 1) := by decide +kernel
theorem dX7_along_71 : decode cX7_along 71 = .ok (.iadd, 1) := by decide +kernel
theorem dX7_along_72 : decode cX7_along 72 = .ok (.bipush 6, 2) := by decide +kernel
theorem dX7_along_74 : decode cX7_along 74 = .ok (.irem, 1) := by decide +kernel
theorem dX7_along_75 : decode cX7_along 75 = .ok (.goto 5, 3) := by decide +kernel
theorem dX7_along_78 : decode cX7_along 78 = .ok (.iload 6, 2) := by decide +kernel
theorem dX7_along_80 : decode cX7_along 80 = .ok (.istore 6, 2) := by decide +kernel
theorem dX7_along_82 : decode cX7_along 82 = .ok (.aload_n 0, 1) := by decide +kernel
theorem dX7_along_83 : decode cX7_along 83 = .ok (.iload 5, 2) := by decide +kernel
theorem dX7_along_85 : decode cX7_along 85 = .ok (.iload 6, 2) := by decide +kernel
theorem dX7_along_87 : decode cX7_along 87 = .ok (.invokevirtual 86, 3) := by decide +kernel
theorem dX7_along_90 : decode cX7_along 90 = .ok (.bipush (-5), 2) := by decide +kernel
theorem dX7_along_92 : decode cX7_along 92 = .ok (.if_icmp .ne 16, 3) := by decide +kernel
theorem dX7_along_95 : decode cX7_along 95 = .ok (.aload_n 0, 1) := by decide +kernel
theorem dX7_along_96 : decode cX7_along 96 = .ok (.iload 5, 2) := by decide +kernel
theorem dX7_along_98 : decode cX7_along 98 = .ok (.iload 6, 2) := by decide +kernel
theorem dX7_along_100 : decode cX7_along 100 = .ok (.invokevirtual 77, 3) := by decide +kernel
theorem dX7_along_103 : decode cX7_along 103 = .ok (.istore 6, 2) := by decide +kernel
theorem dX7_along_105 : decode cX7_along 105 = .ok (.goto (-23), 3) := by decide +kernel
theorem dX7_along_108 : decode cX7_along 108 = .ok (.aload_n 0, 1) := by decide +kernel
theorem dX7_along_109 : decode cX7_along 109 = .ok (.iload 5, 2) := by decide +kernel
theorem dX7_along_111 : decode cX7_along 111 = .ok (.iload 6, 2) := by decide +kernel
theorem dX7_along_113 : decode cX7_along 113 = .ok (.invokevirtual 86, 3) := by decide +kernel
theorem dX7_along_116 : decode cX7_along 116 = .ok (.istore 5, 2) := by decide +kernel
theorem dX7_along_118 : decode cX7_along 118 = .ok (.iinc 7 1, 3) := by decide +kernel
theorem dX7_along_121 : decode cX7_along 121 = .ok (.goto (-76), 3) := by decide +kernel
theorem dX7_along_124 : decode cX7_along 124 = .ok (.iload 5, 2) := by decide +kernel
theorem dX7_along_126 : decode cX7_along 126 = .ok (.ireturn, 1) := by decide +kernel
set_option maxHeartbeats 4000000 in
set_option maxRecDepth 100000 in
theorem kX7_along (l : Launch) (E : Ev) (a : Nat → Nat) (μ : N2) (sp : UInt32) (ce : Int32) (di : Int32) (qs : Int32) (bk : Int32) (hTb : gTab μ) : KQ l yX7_along cX7_along 8 (some .int) 3 69 E [.ref (a 0), .int ce, .int di, .int qs, .int bk] (wMd E a μ sp) (QI E (wMd E a μ sp) (fX7_along μ sp ce di qs bk) (wMd E a μ sp)) := by
  refine KQ.mk RX7 rfl (by decide +kernel) (Nat.le_of_ble_eq_true rfl) ?_
  intro p e s m below meth c ls X hr w hl
  have hx := X.1
  have hb := X.2.1
  have hl : lv_has ls 8 [(0, .ref (a 0)), (1, .int ce), (2, .int di), (3, .int qs), (4, .int bk)] := hl
  refine lv_iload_n hx hb dX7_along_0 rfl (lv_at hl 1 rfl) ?_
  refine r_ci w (r_runS (As := [.int ce]) (rest := []) X w (kX7_isCell l E ce ) ck_X7_130 ⟨Nat.le_of_ble_eq_true rfl, Nat.le_of_ble_eq_true rfl⟩ [] rfl (by decide +kernel) hl.1 (Nat.le_of_ble_eq_true rfl) rfl dX7_along_1 ⟨Nat.le_of_ble_eq_true rfl, Nat.le_of_ble_eq_true rfl⟩) (wMd E a μ sp) [] rfl (by decide +kernel) rfl rfl (fun H locs w => ?_)
  refine lv_if_ne (tgt := 9) hx hb dX7_along_4 (by decide) (fun c4_1 => ?_) (fun c4_1 => ?_)
  · refine lv_iload_n hx hb dX7_along_9 rfl (lv_at hl 2 rfl) ?_
    refine lv_i2l hx hb dX7_along_10 rfl ?_
    refine lv_lconst (v := 0) hx hb dX7_along_11 (by decide) ?_
    refine r_ldcl X wk_X7_118 dX7_along_12 ?_
    refine r_ci w (r_runS (As := [.long di.toInt64, .long 0, .long 5]) (rest := []) X w (kX7_in l E di.toInt64 0 5 ) ck_X7_41 ⟨Nat.le_of_ble_eq_true rfl, Nat.le_of_ble_eq_true rfl⟩ [] rfl (by decide +kernel) hl.1 (Nat.le_of_ble_eq_true rfl) rfl dX7_along_15 ⟨Nat.le_of_ble_eq_true rfl, Nat.le_of_ble_eq_true rfl⟩) (wMd E a μ sp) [] rfl (by decide +kernel) rfl rfl (fun H locs w => ?_)
    refine lv_if_eq (tgt := 33) hx hb dX7_along_18 (by decide) (fun c18_2 => ?_) (fun c18_2 => ?_)
    · refine lv_bipush (v := (-2)) hx hb dX7_along_33 (by decide) ?_
      have hq : fX7_along μ sp ce di qs bk = ((-2)) := by simp only [fX7_along, if_neg c4_1, if_pos c18_2]
      rw [hq]
      exact r_iret X w hr rfl dX7_along_35
    · refine lv_iload_n hx hb dX7_along_21 rfl (lv_at hl 3 rfl) ?_
      refine lv_i2l hx hb dX7_along_22 rfl ?_
      refine lv_lconst (v := 0) hx hb dX7_along_23 (by decide) ?_
      refine r_ldcl X wk_X7_154 dX7_along_24 ?_
      refine r_ci w (r_runS (As := [.long qs.toInt64, .long 0, .long 99]) (rest := []) X w (kX7_in l E qs.toInt64 0 99 ) ck_X7_41 ⟨Nat.le_of_ble_eq_true rfl, Nat.le_of_ble_eq_true rfl⟩ [] rfl (by decide +kernel) hl.1 (Nat.le_of_ble_eq_true rfl) rfl dX7_along_27 ⟨Nat.le_of_ble_eq_true rfl, Nat.le_of_ble_eq_true rfl⟩) (wMd E a μ sp) [] rfl (by decide +kernel) rfl rfl (fun H locs w => ?_)
      refine lv_if_ne (tgt := 36) hx hb dX7_along_30 (by decide) (fun c30_3 => ?_) (fun c30_3 => ?_)
      · refine lv_iload_n hx hb dX7_along_36 rfl (lv_at hl 1 rfl) ?_
        refine lv_istore (lv' := [(5, .int ce), (0, .ref (a 0)), (1, .int ce), (2, .int di), (3, .int qs), (4, .int bk)]) hx hb dX7_along_37 hl (by decide) rfl (fun ls hl => ?_)
        refine lv_iload_n hx hb dX7_along_39 rfl (lv_at hl 3 rfl) ?_
        refine lv_istore (lv' := [(6, .int di), (5, .int ce), (0, .ref (a 0)), (1, .int ce), (2, .int di), (3, .int qs), (4, .int bk)]) hx hb dX7_along_40 hl (by decide) rfl (fun ls hl => ?_)
        refine lv_iconst (v := 0) hx hb dX7_along_42 (by decide) ?_
        refine lv_istore (lv' := [(7, .int 0), (6, .int di), (5, .int ce), (0, .ref (a 0)), (1, .int ce), (2, .int di), (3, .int qs), (4, .int bk)]) hx hb dX7_along_43 hl (by decide) rfl (fun ls hl => ?_)
        have loop : ∀ (n k : Nat), k + n = (alM bk qs) → ∀ (c1 d1 : Int32), vp_in c1 61 → vp_in d1 6 → alN μ sp qs n k c1 d1 = alN μ sp qs (alM bk qs) 0 ce di → ∀ (H : Heap) (locs : List Loc), Wd E (hB (wMd E a μ sp)) s (wMd E a μ sp) H locs → ∀ (ls : Array Slot), lv_has ls 8 [(7, .int (nI k)), (6, .int d1), (5, .int c1), (0, .ref (a 0)), (1, .int ce), (2, .int di), (3, .int qs), (4, .int bk)] → W p l e { frames := 3, cells := 0, slots := 0, locals := 69 } s m (([.ref (a 0), .int ce, .int di, .int qs, .int bk] : List Value)).toArray below meth c H locs 0 0 (MQ below (QI E (wMd E a μ sp) (fX7_along μ sp ce di qs bk) (wMd E a μ sp)) (([.ref (a 0), .int ce, .int di, .int qs, .int bk] : List Value)).toArray s 0 0 (hB (wMd E a μ sp))) (F0 m 45 ls []) := by
          intro n
          induction n with
          | zero =>
            intro k hk_k c1 d1 hc1 hd1 hR H locs w ls hl
            obtain rfl : (alM bk qs) = k := by omega
            refine lv_iload hx hb dX7_along_45 (lv_at hl 0 rfl) ?_
            refine lv_iload hx hb dX7_along_47 (lv_at hl 7 rfl) ?_
            refine lv_if_eq (tgt := 56) hx hb dX7_along_49 (by decide) (fun c49_4 => ?_) (fun c49_4 => ?_)
            · refine lv_iconst (v := 1) hx hb dX7_along_56 (by decide) ?_
              refine lv_iload_n hx hb dX7_along_57 rfl (lv_at hl 6 rfl) ?_
              refine lv_imul hx hb dX7_along_58 ?_
              refine lv_icmp_ge (tgt := 124) hx hb dX7_along_59 (by decide) (fun _ => ?_) (fun h => absurd (al_z1 c49_4 (in_pos (n := 99) rfl c30_3)) h)
              refine lv_iload hx hb dX7_along_124 (lv_at hl 2 rfl) ?_
              have hq : fX7_along μ sp ce di qs bk = (c1) := by have hq2 : c1 = alN μ sp qs (alM bk qs) 0 ce di := hR; rw [hq2]; simp only [fX7_along, if_neg c4_1, if_neg c18_2, if_neg c30_3]
              rw [hq]
              exact r_iret X w hr rfl dX7_along_126
            · refine lv_iconst (v := 2) hx hb dX7_along_52 (by decide) ?_
              refine lv_goto (tgt := 57) hx hb dX7_along_53 (by decide) ?_
              refine lv_iload_n hx hb dX7_along_57 rfl (lv_at hl 6 rfl) ?_
              refine lv_imul hx hb dX7_along_58 ?_
              refine lv_icmp_ge (tgt := 124) hx hb dX7_along_59 (by decide) (fun _ => ?_) (fun h => absurd (al_z2 c49_4 (in_pos (n := 99) rfl c30_3)) h)
              refine lv_iload hx hb dX7_along_124 (lv_at hl 2 rfl) ?_
              have hq : fX7_along μ sp ce di qs bk = (c1) := by have hq2 : c1 = alN μ sp qs (alM bk qs) 0 ce di := hR; rw [hq2]; simp only [fX7_along, if_neg c4_1, if_neg c18_2, if_neg c30_3]
              rw [hq]
              exact r_iret X w hr rfl dX7_along_126
          | succ n ih =>
            intro k hk_k c1 d1 hc1 hd1 hR H locs w ls hl
            have hkN : k < (alM bk qs) := by omega
            refine lv_iload hx hb dX7_along_45 (lv_at hl 0 rfl) ?_
            refine lv_iload hx hb dX7_along_47 (lv_at hl 7 rfl) ?_
            refine lv_if_eq (tgt := 56) hx hb dX7_along_49 (by decide) (fun c49_7 => ?_) (fun c49_7 => ?_)
            · refine lv_iconst (v := 1) hx hb dX7_along_56 (by decide) ?_
              refine lv_iload_n hx hb dX7_along_57 rfl (lv_at hl 6 rfl) ?_
              refine lv_imul hx hb dX7_along_58 ?_
              refine lv_icmp_ge (tgt := 124) hx hb dX7_along_59 (by decide) (fun h => absurd h (al_s1 c49_7 (in_pos (n := 99) rfl c30_3) hkN)) (fun _ => ?_)
              refine lv_iload hx hb dX7_along_62 (lv_at hl 0 rfl) ?_
              refine lv_iload_n hx hb dX7_along_64 rfl (lv_at hl 6 rfl) ?_
              refine lv_icmp_ne (tgt := 78) hx hb dX7_along_65 (by decide) (fun c65_9 => ?_) (fun c65_9 => ?_)
              · refine lv_iload hx hb dX7_along_78 (lv_at hl 1 rfl) ?_
                refine lv_istore (lv' := [(6, .int d1), (7, .int (nI k)), (5, .int c1), (0, .ref (a 0)), (1, .int ce), (2, .int di), (3, .int qs), (4, .int bk)]) hx hb dX7_along_80 hl (by decide) rfl (fun ls hl => ?_)
                refine lv_aload_n hx hb dX7_along_82 rfl (lv_at hl 3 rfl) ?_
                refine lv_iload hx hb dX7_along_83 (lv_at hl 2 rfl) ?_
                refine lv_iload hx hb dX7_along_85 (lv_at hl 0 rfl) ?_
                refine r_ci w (r_runV (As := [.int c1, .int d1]) (rest := []) X w (kX7_ahead l E a μ sp c1 d1 hc1) ck_X7_86 ⟨Nat.le_of_ble_eq_true rfl, Nat.le_of_ble_eq_true rfl⟩ [0, 1, 2, 3, 4, 5, 6, 7, 8, 9] (hc_81 (E := E)) (by decide +kernel) (k0 := 0) CL7 rfl hl.1 (Nat.le_of_ble_eq_true rfl) rfl dX7_along_87 ⟨Nat.le_of_ble_eq_true rfl, Nat.le_of_ble_eq_true rfl⟩) (wMd E a μ sp) [0, 1, 2, 3, 4, 5, 6, 7, 8, 9] (hc_81 (E := E)) (by decide +kernel) (ha_81 (E := E)) (hw_81 (E := E)) (fun H locs w => ?_)
                refine lv_bipush (v := (-5)) hx hb dX7_along_90 (by decide) ?_
                refine lv_icmp_ne (tgt := 108) hx hb dX7_along_92 (by decide) (fun c92_10 => ?_) (fun c92_10 => ?_)
                · refine lv_aload_n hx hb dX7_along_108 rfl (lv_at hl 3 rfl) ?_
                  refine lv_iload hx hb dX7_along_109 (lv_at hl 2 rfl) ?_
                  refine lv_iload hx hb dX7_along_111 (lv_at hl 0 rfl) ?_
                  refine r_ci w (r_runV (As := [.int c1, .int d1]) (rest := []) X w (kX7_ahead l E a μ sp c1 d1 hc1) ck_X7_86 ⟨Nat.le_of_ble_eq_true rfl, Nat.le_of_ble_eq_true rfl⟩ [0, 1, 2, 3, 4, 5, 6, 7, 8, 9] (hc_81 (E := E)) (by decide +kernel) (k0 := 0) CL7 rfl hl.1 (Nat.le_of_ble_eq_true rfl) rfl dX7_along_113 ⟨Nat.le_of_ble_eq_true rfl, Nat.le_of_ble_eq_true rfl⟩) (wMd E a μ sp) [0, 1, 2, 3, 4, 5, 6, 7, 8, 9] (hc_81 (E := E)) (by decide +kernel) (ha_81 (E := E)) (hw_81 (E := E)) (fun H locs w => ?_)
                  refine lv_istore (lv' := [(5, .int (fX7_ahead μ sp c1 d1)), (6, .int d1), (7, .int (nI k)), (0, .ref (a 0)), (1, .int ce), (2, .int di), (3, .int qs), (4, .int bk)]) hx hb dX7_along_116 hl (by decide) rfl (fun ls hl => ?_)
                  refine lv_iinc (v := (nI k) + 1) (lv' := [(7, .int ((nI k) + 1)), (5, .int (fX7_ahead μ sp c1 d1)), (6, .int d1), (0, .ref (a 0)), (1, .int ce), (2, .int di), (3, .int qs), (4, .int bk)]) hx hb dX7_along_118 hl (k := 2) rfl (by first | rfl | decide) (by decide) rfl (fun ls hl => ?_)
                  refine lv_goto (tgt := 45) hx hb dX7_along_121 (by decide) ?_
                  have e0 : nI k + 1 = nI (k + 1) := nI_1 k
                  rw [e0] at hl
                  exact ih (k + 1) (by omega) _ _ (ahead_in hTb hc1 hd1 c92_10) hd1 (by rw [← hR]; simp only [alN, if_neg c65_9, if_neg c92_10]) _ _ w ls (lv_sub hl [0, 2, 1, 3, 4, 5, 6, 7] rfl)
                · refine lv_aload_n hx hb dX7_along_95 rfl (lv_at hl 3 rfl) ?_
                  refine lv_iload hx hb dX7_along_96 (lv_at hl 2 rfl) ?_
                  refine lv_iload hx hb dX7_along_98 (lv_at hl 0 rfl) ?_
                  refine r_ci w (r_runV (As := [.int c1, .int d1]) (rest := []) X w (kX7_turned l E a μ sp c1 d1 hc1) ck_X7_77 ⟨Nat.le_of_ble_eq_true rfl, Nat.le_of_ble_eq_true rfl⟩ [0, 1, 2, 3, 4, 5, 6, 7, 8, 9] (hc_81 (E := E)) (by decide +kernel) (k0 := 0) CL7 rfl hl.1 (Nat.le_of_ble_eq_true rfl) rfl dX7_along_100 ⟨Nat.le_of_ble_eq_true rfl, Nat.le_of_ble_eq_true rfl⟩) (wMd E a μ sp) [0, 1, 2, 3, 4, 5, 6, 7, 8, 9] (hc_81 (E := E)) (by decide +kernel) (ha_81 (E := E)) (hw_81 (E := E)) (fun H locs w => ?_)
                  refine lv_istore (lv' := [(6, .int (fX7_turned μ sp c1 d1)), (7, .int (nI k)), (5, .int c1), (0, .ref (a 0)), (1, .int ce), (2, .int di), (3, .int qs), (4, .int bk)]) hx hb dX7_along_103 hl (by decide) rfl (fun ls hl => ?_)
                  refine lv_goto (tgt := 82) hx hb dX7_along_105 (by decide) ?_
                  refine lv_aload_n hx hb dX7_along_82 rfl (lv_at hl 3 rfl) ?_
                  refine lv_iload hx hb dX7_along_83 (lv_at hl 2 rfl) ?_
                  refine lv_iload hx hb dX7_along_85 (lv_at hl 0 rfl) ?_
                  refine r_ci w (r_runV (As := [.int c1, .int (fX7_turned μ sp c1 d1)]) (rest := []) X w (kX7_ahead l E a μ sp c1 (fX7_turned μ sp c1 d1) hc1) ck_X7_86 ⟨Nat.le_of_ble_eq_true rfl, Nat.le_of_ble_eq_true rfl⟩ [0, 1, 2, 3, 4, 5, 6, 7, 8, 9] (hc_81 (E := E)) (by decide +kernel) (k0 := 0) CL7 rfl hl.1 (Nat.le_of_ble_eq_true rfl) rfl dX7_along_87 ⟨Nat.le_of_ble_eq_true rfl, Nat.le_of_ble_eq_true rfl⟩) (wMd E a μ sp) [0, 1, 2, 3, 4, 5, 6, 7, 8, 9] (hc_81 (E := E)) (by decide +kernel) (ha_81 (E := E)) (hw_81 (E := E)) (fun H locs w => ?_)
                  refine lv_bipush (v := (-5)) hx hb dX7_along_90 (by decide) ?_
                  refine lv_icmp_ne (tgt := 108) hx hb dX7_along_92 (by decide) (fun _ => ?_) (fun h => absurd h (tu_in hTb hc1 hd1 c92_10).2)
                  refine lv_aload_n hx hb dX7_along_108 rfl (lv_at hl 3 rfl) ?_
                  refine lv_iload hx hb dX7_along_109 (lv_at hl 2 rfl) ?_
                  refine lv_iload hx hb dX7_along_111 (lv_at hl 0 rfl) ?_
                  refine r_ci w (r_runV (As := [.int c1, .int (fX7_turned μ sp c1 d1)]) (rest := []) X w (kX7_ahead l E a μ sp c1 (fX7_turned μ sp c1 d1) hc1) ck_X7_86 ⟨Nat.le_of_ble_eq_true rfl, Nat.le_of_ble_eq_true rfl⟩ [0, 1, 2, 3, 4, 5, 6, 7, 8, 9] (hc_81 (E := E)) (by decide +kernel) (k0 := 0) CL7 rfl hl.1 (Nat.le_of_ble_eq_true rfl) rfl dX7_along_113 ⟨Nat.le_of_ble_eq_true rfl, Nat.le_of_ble_eq_true rfl⟩) (wMd E a μ sp) [0, 1, 2, 3, 4, 5, 6, 7, 8, 9] (hc_81 (E := E)) (by decide +kernel) (ha_81 (E := E)) (hw_81 (E := E)) (fun H locs w => ?_)
                  refine lv_istore (lv' := [(5, .int (fX7_ahead μ sp c1 (fX7_turned μ sp c1 d1))), (6, .int (fX7_turned μ sp c1 d1)), (7, .int (nI k)), (0, .ref (a 0)), (1, .int ce), (2, .int di), (3, .int qs), (4, .int bk)]) hx hb dX7_along_116 hl (by decide) rfl (fun ls hl => ?_)
                  refine lv_iinc (v := (nI k) + 1) (lv' := [(7, .int ((nI k) + 1)), (5, .int (fX7_ahead μ sp c1 (fX7_turned μ sp c1 d1))), (6, .int (fX7_turned μ sp c1 d1)), (0, .ref (a 0)), (1, .int ce), (2, .int di), (3, .int qs), (4, .int bk)]) hx hb dX7_along_118 hl (k := 2) rfl (by first | rfl | decide) (by decide) rfl (fun ls hl => ?_)
                  refine lv_goto (tgt := 45) hx hb dX7_along_121 (by decide) ?_
                  have e0 : nI k + 1 = nI (k + 1) := nI_1 k
                  rw [e0] at hl
                  exact ih (k + 1) (by omega) _ _ (ahead_in hTb hc1 (tu_in hTb hc1 hd1 c92_10).1 (tu_in hTb hc1 hd1 c92_10).2) (tu_in hTb hc1 hd1 c92_10).1 (by rw [← hR]; simp only [alN, if_neg c65_9, if_pos c92_10]) _ _ w ls (lv_sub hl [0, 2, 1, 3, 4, 5, 6, 7] rfl)
              · refine lv_iload hx hb dX7_along_68 (lv_at hl 1 rfl) ?_
                refine lv_iconst (v := 3) hx hb dX7_along_70 (by decide) ?_
                refine lv_iadd hx hb dX7_along_71 ?_
                refine lv_bipush (v := 6) hx hb dX7_along_72 (by decide) ?_
                refine lv_irem hx hb dX7_along_74 (by decide) ?_
                refine lv_goto (tgt := 80) hx hb dX7_along_75 (by decide) ?_
                refine lv_istore (lv' := [(6, .int ((d1 + 3) - (d1 + 3) / 6 * 6)), (7, .int (nI k)), (5, .int c1), (0, .ref (a 0)), (1, .int ce), (2, .int di), (3, .int qs), (4, .int bk)]) hx hb dX7_along_80 hl (by decide) rfl (fun ls hl => ?_)
                refine lv_aload_n hx hb dX7_along_82 rfl (lv_at hl 3 rfl) ?_
                refine lv_iload hx hb dX7_along_83 (lv_at hl 2 rfl) ?_
                refine lv_iload hx hb dX7_along_85 (lv_at hl 0 rfl) ?_
                refine r_ci w (r_runV (As := [.int c1, .int ((d1 + 3) - (d1 + 3) / 6 * 6)]) (rest := []) X w (kX7_ahead l E a μ sp c1 ((d1 + 3) - (d1 + 3) / 6 * 6) hc1) ck_X7_86 ⟨Nat.le_of_ble_eq_true rfl, Nat.le_of_ble_eq_true rfl⟩ [0, 1, 2, 3, 4, 5, 6, 7, 8, 9] (hc_81 (E := E)) (by decide +kernel) (k0 := 0) CL7 rfl hl.1 (Nat.le_of_ble_eq_true rfl) rfl dX7_along_87 ⟨Nat.le_of_ble_eq_true rfl, Nat.le_of_ble_eq_true rfl⟩) (wMd E a μ sp) [0, 1, 2, 3, 4, 5, 6, 7, 8, 9] (hc_81 (E := E)) (by decide +kernel) (ha_81 (E := E)) (hw_81 (E := E)) (fun H locs w => ?_)
                refine lv_bipush (v := (-5)) hx hb dX7_along_90 (by decide) ?_
                refine lv_icmp_ne (tgt := 108) hx hb dX7_along_92 (by decide) (fun c92_12 => ?_) (fun c92_12 => ?_)
                · refine lv_aload_n hx hb dX7_along_108 rfl (lv_at hl 3 rfl) ?_
                  refine lv_iload hx hb dX7_along_109 (lv_at hl 2 rfl) ?_
                  refine lv_iload hx hb dX7_along_111 (lv_at hl 0 rfl) ?_
                  refine r_ci w (r_runV (As := [.int c1, .int ((d1 + 3) - (d1 + 3) / 6 * 6)]) (rest := []) X w (kX7_ahead l E a μ sp c1 ((d1 + 3) - (d1 + 3) / 6 * 6) hc1) ck_X7_86 ⟨Nat.le_of_ble_eq_true rfl, Nat.le_of_ble_eq_true rfl⟩ [0, 1, 2, 3, 4, 5, 6, 7, 8, 9] (hc_81 (E := E)) (by decide +kernel) (k0 := 0) CL7 rfl hl.1 (Nat.le_of_ble_eq_true rfl) rfl dX7_along_113 ⟨Nat.le_of_ble_eq_true rfl, Nat.le_of_ble_eq_true rfl⟩) (wMd E a μ sp) [0, 1, 2, 3, 4, 5, 6, 7, 8, 9] (hc_81 (E := E)) (by decide +kernel) (ha_81 (E := E)) (hw_81 (E := E)) (fun H locs w => ?_)
                  refine lv_istore (lv' := [(5, .int (fX7_ahead μ sp c1 ((d1 + 3) - (d1 + 3) / 6 * 6))), (6, .int ((d1 + 3) - (d1 + 3) / 6 * 6)), (7, .int (nI k)), (0, .ref (a 0)), (1, .int ce), (2, .int di), (3, .int qs), (4, .int bk)]) hx hb dX7_along_116 hl (by decide) rfl (fun ls hl => ?_)
                  refine lv_iinc (v := (nI k) + 1) (lv' := [(7, .int ((nI k) + 1)), (5, .int (fX7_ahead μ sp c1 ((d1 + 3) - (d1 + 3) / 6 * 6))), (6, .int ((d1 + 3) - (d1 + 3) / 6 * 6)), (0, .ref (a 0)), (1, .int ce), (2, .int di), (3, .int qs), (4, .int bk)]) hx hb dX7_along_118 hl (k := 2) rfl (by first | rfl | decide) (by decide) rfl (fun ls hl => ?_)
                  refine lv_goto (tgt := 45) hx hb dX7_along_121 (by decide) ?_
                  have e0 : nI k + 1 = nI (k + 1) := nI_1 k
                  rw [e0] at hl
                  exact ih (k + 1) (by omega) _ _ (ahead_in hTb hc1 (rv_in hd1) c92_12) (rv_in hd1) (by rw [← hR]; simp only [alN, if_pos c65_9, if_neg c92_12]) _ _ w ls (lv_sub hl [0, 2, 1, 3, 4, 5, 6, 7] rfl)
                · refine lv_aload_n hx hb dX7_along_95 rfl (lv_at hl 3 rfl) ?_
                  refine lv_iload hx hb dX7_along_96 (lv_at hl 2 rfl) ?_
                  refine lv_iload hx hb dX7_along_98 (lv_at hl 0 rfl) ?_
                  refine r_ci w (r_runV (As := [.int c1, .int ((d1 + 3) - (d1 + 3) / 6 * 6)]) (rest := []) X w (kX7_turned l E a μ sp c1 ((d1 + 3) - (d1 + 3) / 6 * 6) hc1) ck_X7_77 ⟨Nat.le_of_ble_eq_true rfl, Nat.le_of_ble_eq_true rfl⟩ [0, 1, 2, 3, 4, 5, 6, 7, 8, 9] (hc_81 (E := E)) (by decide +kernel) (k0 := 0) CL7 rfl hl.1 (Nat.le_of_ble_eq_true rfl) rfl dX7_along_100 ⟨Nat.le_of_ble_eq_true rfl, Nat.le_of_ble_eq_true rfl⟩) (wMd E a μ sp) [0, 1, 2, 3, 4, 5, 6, 7, 8, 9] (hc_81 (E := E)) (by decide +kernel) (ha_81 (E := E)) (hw_81 (E := E)) (fun H locs w => ?_)
                  refine lv_istore (lv' := [(6, .int (fX7_turned μ sp c1 ((d1 + 3) - (d1 + 3) / 6 * 6))), (7, .int (nI k)), (5, .int c1), (0, .ref (a 0)), (1, .int ce), (2, .int di), (3, .int qs), (4, .int bk)]) hx hb dX7_along_103 hl (by decide) rfl (fun ls hl => ?_)
                  refine lv_goto (tgt := 82) hx hb dX7_along_105 (by decide) ?_
                  refine lv_aload_n hx hb dX7_along_82 rfl (lv_at hl 3 rfl) ?_
                  refine lv_iload hx hb dX7_along_83 (lv_at hl 2 rfl) ?_
                  refine lv_iload hx hb dX7_along_85 (lv_at hl 0 rfl) ?_
                  refine r_ci w (r_runV (As := [.int c1, .int (fX7_turned μ sp c1 ((d1 + 3) - (d1 + 3) / 6 * 6))]) (rest := []) X w (kX7_ahead l E a μ sp c1 (fX7_turned μ sp c1 ((d1 + 3) - (d1 + 3) / 6 * 6)) hc1) ck_X7_86 ⟨Nat.le_of_ble_eq_true rfl, Nat.le_of_ble_eq_true rfl⟩ [0, 1, 2, 3, 4, 5, 6, 7, 8, 9] (hc_81 (E := E)) (by decide +kernel) (k0 := 0) CL7 rfl hl.1 (Nat.le_of_ble_eq_true rfl) rfl dX7_along_87 ⟨Nat.le_of_ble_eq_true rfl, Nat.le_of_ble_eq_true rfl⟩) (wMd E a μ sp) [0, 1, 2, 3, 4, 5, 6, 7, 8, 9] (hc_81 (E := E)) (by decide +kernel) (ha_81 (E := E)) (hw_81 (E := E)) (fun H locs w => ?_)
                  refine lv_bipush (v := (-5)) hx hb dX7_along_90 (by decide) ?_
                  refine lv_icmp_ne (tgt := 108) hx hb dX7_along_92 (by decide) (fun _ => ?_) (fun h => absurd h (tu_in hTb hc1 (rv_in hd1) c92_12).2)
                  refine lv_aload_n hx hb dX7_along_108 rfl (lv_at hl 3 rfl) ?_
                  refine lv_iload hx hb dX7_along_109 (lv_at hl 2 rfl) ?_
                  refine lv_iload hx hb dX7_along_111 (lv_at hl 0 rfl) ?_
                  refine r_ci w (r_runV (As := [.int c1, .int (fX7_turned μ sp c1 ((d1 + 3) - (d1 + 3) / 6 * 6))]) (rest := []) X w (kX7_ahead l E a μ sp c1 (fX7_turned μ sp c1 ((d1 + 3) - (d1 + 3) / 6 * 6)) hc1) ck_X7_86 ⟨Nat.le_of_ble_eq_true rfl, Nat.le_of_ble_eq_true rfl⟩ [0, 1, 2, 3, 4, 5, 6, 7, 8, 9] (hc_81 (E := E)) (by decide +kernel) (k0 := 0) CL7 rfl hl.1 (Nat.le_of_ble_eq_true rfl) rfl dX7_along_113 ⟨Nat.le_of_ble_eq_true rfl, Nat.le_of_ble_eq_true rfl⟩) (wMd E a μ sp) [0, 1, 2, 3, 4, 5, 6, 7, 8, 9] (hc_81 (E := E)) (by decide +kernel) (ha_81 (E := E)) (hw_81 (E := E)) (fun H locs w => ?_)
                  refine lv_istore (lv' := [(5, .int (fX7_ahead μ sp c1 (fX7_turned μ sp c1 ((d1 + 3) - (d1 + 3) / 6 * 6)))), (6, .int (fX7_turned μ sp c1 ((d1 + 3) - (d1 + 3) / 6 * 6))), (7, .int (nI k)), (0, .ref (a 0)), (1, .int ce), (2, .int di), (3, .int qs), (4, .int bk)]) hx hb dX7_along_116 hl (by decide) rfl (fun ls hl => ?_)
                  refine lv_iinc (v := (nI k) + 1) (lv' := [(7, .int ((nI k) + 1)), (5, .int (fX7_ahead μ sp c1 (fX7_turned μ sp c1 ((d1 + 3) - (d1 + 3) / 6 * 6)))), (6, .int (fX7_turned μ sp c1 ((d1 + 3) - (d1 + 3) / 6 * 6))), (0, .ref (a 0)), (1, .int ce), (2, .int di), (3, .int qs), (4, .int bk)]) hx hb dX7_along_118 hl (k := 2) rfl (by first | rfl | decide) (by decide) rfl (fun ls hl => ?_)
                  refine lv_goto (tgt := 45) hx hb dX7_along_121 (by decide) ?_
                  have e0 : nI k + 1 = nI (k + 1) := nI_1 k
                  rw [e0] at hl
                  exact ih (k + 1) (by omega) _ _ (ahead_in hTb hc1 (tu_in hTb hc1 (rv_in hd1) c92_12).1 (tu_in hTb hc1 (rv_in hd1) c92_12).2) (tu_in hTb hc1 (rv_in hd1) c92_12).1 (by rw [← hR]; simp only [alN, if_pos c65_9, if_pos c92_12]) _ _ w ls (lv_sub hl [0, 2, 1, 3, 4, 5, 6, 7] rfl)
            · refine lv_iconst (v := 2) hx hb dX7_along_52 (by decide) ?_
              refine lv_goto (tgt := 57) hx hb dX7_along_53 (by decide) ?_
              refine lv_iload_n hx hb dX7_along_57 rfl (lv_at hl 6 rfl) ?_
              refine lv_imul hx hb dX7_along_58 ?_
              refine lv_icmp_ge (tgt := 124) hx hb dX7_along_59 (by decide) (fun h => absurd h (al_s2 c49_7 (in_pos (n := 99) rfl c30_3) hkN)) (fun _ => ?_)
              refine lv_iload hx hb dX7_along_62 (lv_at hl 0 rfl) ?_
              refine lv_iload_n hx hb dX7_along_64 rfl (lv_at hl 6 rfl) ?_
              refine lv_icmp_ne (tgt := 78) hx hb dX7_along_65 (by decide) (fun c65_15 => ?_) (fun c65_15 => ?_)
              · refine lv_iload hx hb dX7_along_78 (lv_at hl 1 rfl) ?_
                refine lv_istore (lv' := [(6, .int d1), (7, .int (nI k)), (5, .int c1), (0, .ref (a 0)), (1, .int ce), (2, .int di), (3, .int qs), (4, .int bk)]) hx hb dX7_along_80 hl (by decide) rfl (fun ls hl => ?_)
                refine lv_aload_n hx hb dX7_along_82 rfl (lv_at hl 3 rfl) ?_
                refine lv_iload hx hb dX7_along_83 (lv_at hl 2 rfl) ?_
                refine lv_iload hx hb dX7_along_85 (lv_at hl 0 rfl) ?_
                refine r_ci w (r_runV (As := [.int c1, .int d1]) (rest := []) X w (kX7_ahead l E a μ sp c1 d1 hc1) ck_X7_86 ⟨Nat.le_of_ble_eq_true rfl, Nat.le_of_ble_eq_true rfl⟩ [0, 1, 2, 3, 4, 5, 6, 7, 8, 9] (hc_81 (E := E)) (by decide +kernel) (k0 := 0) CL7 rfl hl.1 (Nat.le_of_ble_eq_true rfl) rfl dX7_along_87 ⟨Nat.le_of_ble_eq_true rfl, Nat.le_of_ble_eq_true rfl⟩) (wMd E a μ sp) [0, 1, 2, 3, 4, 5, 6, 7, 8, 9] (hc_81 (E := E)) (by decide +kernel) (ha_81 (E := E)) (hw_81 (E := E)) (fun H locs w => ?_)
                refine lv_bipush (v := (-5)) hx hb dX7_along_90 (by decide) ?_
                refine lv_icmp_ne (tgt := 108) hx hb dX7_along_92 (by decide) (fun c92_16 => ?_) (fun c92_16 => ?_)
                · refine lv_aload_n hx hb dX7_along_108 rfl (lv_at hl 3 rfl) ?_
                  refine lv_iload hx hb dX7_along_109 (lv_at hl 2 rfl) ?_
                  refine lv_iload hx hb dX7_along_111 (lv_at hl 0 rfl) ?_
                  refine r_ci w (r_runV (As := [.int c1, .int d1]) (rest := []) X w (kX7_ahead l E a μ sp c1 d1 hc1) ck_X7_86 ⟨Nat.le_of_ble_eq_true rfl, Nat.le_of_ble_eq_true rfl⟩ [0, 1, 2, 3, 4, 5, 6, 7, 8, 9] (hc_81 (E := E)) (by decide +kernel) (k0 := 0) CL7 rfl hl.1 (Nat.le_of_ble_eq_true rfl) rfl dX7_along_113 ⟨Nat.le_of_ble_eq_true rfl, Nat.le_of_ble_eq_true rfl⟩) (wMd E a μ sp) [0, 1, 2, 3, 4, 5, 6, 7, 8, 9] (hc_81 (E := E)) (by decide +kernel) (ha_81 (E := E)) (hw_81 (E := E)) (fun H locs w => ?_)
                  refine lv_istore (lv' := [(5, .int (fX7_ahead μ sp c1 d1)), (6, .int d1), (7, .int (nI k)), (0, .ref (a 0)), (1, .int ce), (2, .int di), (3, .int qs), (4, .int bk)]) hx hb dX7_along_116 hl (by decide) rfl (fun ls hl => ?_)
                  refine lv_iinc (v := (nI k) + 1) (lv' := [(7, .int ((nI k) + 1)), (5, .int (fX7_ahead μ sp c1 d1)), (6, .int d1), (0, .ref (a 0)), (1, .int ce), (2, .int di), (3, .int qs), (4, .int bk)]) hx hb dX7_along_118 hl (k := 2) rfl (by first | rfl | decide) (by decide) rfl (fun ls hl => ?_)
                  refine lv_goto (tgt := 45) hx hb dX7_along_121 (by decide) ?_
                  have e0 : nI k + 1 = nI (k + 1) := nI_1 k
                  rw [e0] at hl
                  exact ih (k + 1) (by omega) _ _ (ahead_in hTb hc1 hd1 c92_16) hd1 (by rw [← hR]; simp only [alN, if_neg c65_15, if_neg c92_16]) _ _ w ls (lv_sub hl [0, 2, 1, 3, 4, 5, 6, 7] rfl)
                · refine lv_aload_n hx hb dX7_along_95 rfl (lv_at hl 3 rfl) ?_
                  refine lv_iload hx hb dX7_along_96 (lv_at hl 2 rfl) ?_
                  refine lv_iload hx hb dX7_along_98 (lv_at hl 0 rfl) ?_
                  refine r_ci w (r_runV (As := [.int c1, .int d1]) (rest := []) X w (kX7_turned l E a μ sp c1 d1 hc1) ck_X7_77 ⟨Nat.le_of_ble_eq_true rfl, Nat.le_of_ble_eq_true rfl⟩ [0, 1, 2, 3, 4, 5, 6, 7, 8, 9] (hc_81 (E := E)) (by decide +kernel) (k0 := 0) CL7 rfl hl.1 (Nat.le_of_ble_eq_true rfl) rfl dX7_along_100 ⟨Nat.le_of_ble_eq_true rfl, Nat.le_of_ble_eq_true rfl⟩) (wMd E a μ sp) [0, 1, 2, 3, 4, 5, 6, 7, 8, 9] (hc_81 (E := E)) (by decide +kernel) (ha_81 (E := E)) (hw_81 (E := E)) (fun H locs w => ?_)
                  refine lv_istore (lv' := [(6, .int (fX7_turned μ sp c1 d1)), (7, .int (nI k)), (5, .int c1), (0, .ref (a 0)), (1, .int ce), (2, .int di), (3, .int qs), (4, .int bk)]) hx hb dX7_along_103 hl (by decide) rfl (fun ls hl => ?_)
                  refine lv_goto (tgt := 82) hx hb dX7_along_105 (by decide) ?_
                  refine lv_aload_n hx hb dX7_along_82 rfl (lv_at hl 3 rfl) ?_
                  refine lv_iload hx hb dX7_along_83 (lv_at hl 2 rfl) ?_
                  refine lv_iload hx hb dX7_along_85 (lv_at hl 0 rfl) ?_
                  refine r_ci w (r_runV (As := [.int c1, .int (fX7_turned μ sp c1 d1)]) (rest := []) X w (kX7_ahead l E a μ sp c1 (fX7_turned μ sp c1 d1) hc1) ck_X7_86 ⟨Nat.le_of_ble_eq_true rfl, Nat.le_of_ble_eq_true rfl⟩ [0, 1, 2, 3, 4, 5, 6, 7, 8, 9] (hc_81 (E := E)) (by decide +kernel) (k0 := 0) CL7 rfl hl.1 (Nat.le_of_ble_eq_true rfl) rfl dX7_along_87 ⟨Nat.le_of_ble_eq_true rfl, Nat.le_of_ble_eq_true rfl⟩) (wMd E a μ sp) [0, 1, 2, 3, 4, 5, 6, 7, 8, 9] (hc_81 (E := E)) (by decide +kernel) (ha_81 (E := E)) (hw_81 (E := E)) (fun H locs w => ?_)
                  refine lv_bipush (v := (-5)) hx hb dX7_along_90 (by decide) ?_
                  refine lv_icmp_ne (tgt := 108) hx hb dX7_along_92 (by decide) (fun _ => ?_) (fun h => absurd h (tu_in hTb hc1 hd1 c92_16).2)
                  refine lv_aload_n hx hb dX7_along_108 rfl (lv_at hl 3 rfl) ?_
                  refine lv_iload hx hb dX7_along_109 (lv_at hl 2 rfl) ?_
                  refine lv_iload hx hb dX7_along_111 (lv_at hl 0 rfl) ?_
                  refine r_ci w (r_runV (As := [.int c1, .int (fX7_turned μ sp c1 d1)]) (rest := []) X w (kX7_ahead l E a μ sp c1 (fX7_turned μ sp c1 d1) hc1) ck_X7_86 ⟨Nat.le_of_ble_eq_true rfl, Nat.le_of_ble_eq_true rfl⟩ [0, 1, 2, 3, 4, 5, 6, 7, 8, 9] (hc_81 (E := E)) (by decide +kernel) (k0 := 0) CL7 rfl hl.1 (Nat.le_of_ble_eq_true rfl) rfl dX7_along_113 ⟨Nat.le_of_ble_eq_true rfl, Nat.le_of_ble_eq_true rfl⟩) (wMd E a μ sp) [0, 1, 2, 3, 4, 5, 6, 7, 8, 9] (hc_81 (E := E)) (by decide +kernel) (ha_81 (E := E)) (hw_81 (E := E)) (fun H locs w => ?_)
                  refine lv_istore (lv' := [(5, .int (fX7_ahead μ sp c1 (fX7_turned μ sp c1 d1))), (6, .int (fX7_turned μ sp c1 d1)), (7, .int (nI k)), (0, .ref (a 0)), (1, .int ce), (2, .int di), (3, .int qs), (4, .int bk)]) hx hb dX7_along_116 hl (by decide) rfl (fun ls hl => ?_)
                  refine lv_iinc (v := (nI k) + 1) (lv' := [(7, .int ((nI k) + 1)), (5, .int (fX7_ahead μ sp c1 (fX7_turned μ sp c1 d1))), (6, .int (fX7_turned μ sp c1 d1)), (0, .ref (a 0)), (1, .int ce), (2, .int di), (3, .int qs), (4, .int bk)]) hx hb dX7_along_118 hl (k := 2) rfl (by first | rfl | decide) (by decide) rfl (fun ls hl => ?_)
                  refine lv_goto (tgt := 45) hx hb dX7_along_121 (by decide) ?_
                  have e0 : nI k + 1 = nI (k + 1) := nI_1 k
                  rw [e0] at hl
                  exact ih (k + 1) (by omega) _ _ (ahead_in hTb hc1 (tu_in hTb hc1 hd1 c92_16).1 (tu_in hTb hc1 hd1 c92_16).2) (tu_in hTb hc1 hd1 c92_16).1 (by rw [← hR]; simp only [alN, if_neg c65_15, if_pos c92_16]) _ _ w ls (lv_sub hl [0, 2, 1, 3, 4, 5, 6, 7] rfl)
              · refine lv_iload hx hb dX7_along_68 (lv_at hl 1 rfl) ?_
                refine lv_iconst (v := 3) hx hb dX7_along_70 (by decide) ?_
                refine lv_iadd hx hb dX7_along_71 ?_
                refine lv_bipush (v := 6) hx hb dX7_along_72 (by decide) ?_
                refine lv_irem hx hb dX7_along_74 (by decide) ?_
                refine lv_goto (tgt := 80) hx hb dX7_along_75 (by decide) ?_
                refine lv_istore (lv' := [(6, .int ((d1 + 3) - (d1 + 3) / 6 * 6)), (7, .int (nI k)), (5, .int c1), (0, .ref (a 0)), (1, .int ce), (2, .int di), (3, .int qs), (4, .int bk)]) hx hb dX7_along_80 hl (by decide) rfl (fun ls hl => ?_)
                refine lv_aload_n hx hb dX7_along_82 rfl (lv_at hl 3 rfl) ?_
                refine lv_iload hx hb dX7_along_83 (lv_at hl 2 rfl) ?_
                refine lv_iload hx hb dX7_along_85 (lv_at hl 0 rfl) ?_
                refine r_ci w (r_runV (As := [.int c1, .int ((d1 + 3) - (d1 + 3) / 6 * 6)]) (rest := []) X w (kX7_ahead l E a μ sp c1 ((d1 + 3) - (d1 + 3) / 6 * 6) hc1) ck_X7_86 ⟨Nat.le_of_ble_eq_true rfl, Nat.le_of_ble_eq_true rfl⟩ [0, 1, 2, 3, 4, 5, 6, 7, 8, 9] (hc_81 (E := E)) (by decide +kernel) (k0 := 0) CL7 rfl hl.1 (Nat.le_of_ble_eq_true rfl) rfl dX7_along_87 ⟨Nat.le_of_ble_eq_true rfl, Nat.le_of_ble_eq_true rfl⟩) (wMd E a μ sp) [0, 1, 2, 3, 4, 5, 6, 7, 8, 9] (hc_81 (E := E)) (by decide +kernel) (ha_81 (E := E)) (hw_81 (E := E)) (fun H locs w => ?_)
                refine lv_bipush (v := (-5)) hx hb dX7_along_90 (by decide) ?_
                refine lv_icmp_ne (tgt := 108) hx hb dX7_along_92 (by decide) (fun c92_18 => ?_) (fun c92_18 => ?_)
                · refine lv_aload_n hx hb dX7_along_108 rfl (lv_at hl 3 rfl) ?_
                  refine lv_iload hx hb dX7_along_109 (lv_at hl 2 rfl) ?_
                  refine lv_iload hx hb dX7_along_111 (lv_at hl 0 rfl) ?_
                  refine r_ci w (r_runV (As := [.int c1, .int ((d1 + 3) - (d1 + 3) / 6 * 6)]) (rest := []) X w (kX7_ahead l E a μ sp c1 ((d1 + 3) - (d1 + 3) / 6 * 6) hc1) ck_X7_86 ⟨Nat.le_of_ble_eq_true rfl, Nat.le_of_ble_eq_true rfl⟩ [0, 1, 2, 3, 4, 5, 6, 7, 8, 9] (hc_81 (E := E)) (by decide +kernel) (k0 := 0) CL7 rfl hl.1 (Nat.le_of_ble_eq_true rfl) rfl dX7_along_113 ⟨Nat.le_of_ble_eq_true rfl, Nat.le_of_ble_eq_true rfl⟩) (wMd E a μ sp) [0, 1, 2, 3, 4, 5, 6, 7, 8, 9] (hc_81 (E := E)) (by decide +kernel) (ha_81 (E := E)) (hw_81 (E := E)) (fun H locs w => ?_)
                  refine lv_istore (lv' := [(5, .int (fX7_ahead μ sp c1 ((d1 + 3) - (d1 + 3) / 6 * 6))), (6, .int ((d1 + 3) - (d1 + 3) / 6 * 6)), (7, .int (nI k)), (0, .ref (a 0)), (1, .int ce), (2, .int di), (3, .int qs), (4, .int bk)]) hx hb dX7_along_116 hl (by decide) rfl (fun ls hl => ?_)
                  refine lv_iinc (v := (nI k) + 1) (lv' := [(7, .int ((nI k) + 1)), (5, .int (fX7_ahead μ sp c1 ((d1 + 3) - (d1 + 3) / 6 * 6))), (6, .int ((d1 + 3) - (d1 + 3) / 6 * 6)), (0, .ref (a 0)), (1, .int ce), (2, .int di), (3, .int qs), (4, .int bk)]) hx hb dX7_along_118 hl (k := 2) rfl (by first | rfl | decide) (by decide) rfl (fun ls hl => ?_)
                  refine lv_goto (tgt := 45) hx hb dX7_along_121 (by decide) ?_
                  have e0 : nI k + 1 = nI (k + 1) := nI_1 k
                  rw [e0] at hl
                  exact ih (k + 1) (by omega) _ _ (ahead_in hTb hc1 (rv_in hd1) c92_18) (rv_in hd1) (by rw [← hR]; simp only [alN, if_pos c65_15, if_neg c92_18]) _ _ w ls (lv_sub hl [0, 2, 1, 3, 4, 5, 6, 7] rfl)
                · refine lv_aload_n hx hb dX7_along_95 rfl (lv_at hl 3 rfl) ?_
                  refine lv_iload hx hb dX7_along_96 (lv_at hl 2 rfl) ?_
                  refine lv_iload hx hb dX7_along_98 (lv_at hl 0 rfl) ?_
                  refine r_ci w (r_runV (As := [.int c1, .int ((d1 + 3) - (d1 + 3) / 6 * 6)]) (rest := []) X w (kX7_turned l E a μ sp c1 ((d1 + 3) - (d1 + 3) / 6 * 6) hc1) ck_X7_77 ⟨Nat.le_of_ble_eq_true rfl, Nat.le_of_ble_eq_true rfl⟩ [0, 1, 2, 3, 4, 5, 6, 7, 8, 9] (hc_81 (E := E)) (by decide +kernel) (k0 := 0) CL7 rfl hl.1 (Nat.le_of_ble_eq_true rfl) rfl dX7_along_100 ⟨Nat.le_of_ble_eq_true rfl, Nat.le_of_ble_eq_true rfl⟩) (wMd E a μ sp) [0, 1, 2, 3, 4, 5, 6, 7, 8, 9] (hc_81 (E := E)) (by decide +kernel) (ha_81 (E := E)) (hw_81 (E := E)) (fun H locs w => ?_)
                  refine lv_istore (lv' := [(6, .int (fX7_turned μ sp c1 ((d1 + 3) - (d1 + 3) / 6 * 6))), (7, .int (nI k)), (5, .int c1), (0, .ref (a 0)), (1, .int ce), (2, .int di), (3, .int qs), (4, .int bk)]) hx hb dX7_along_103 hl (by decide) rfl (fun ls hl => ?_)
                  refine lv_goto (tgt := 82) hx hb dX7_along_105 (by decide) ?_
                  refine lv_aload_n hx hb dX7_along_82 rfl (lv_at hl 3 rfl) ?_
                  refine lv_iload hx hb dX7_along_83 (lv_at hl 2 rfl) ?_
                  refine lv_iload hx hb dX7_along_85 (lv_at hl 0 rfl) ?_
                  refine r_ci w (r_runV (As := [.int c1, .int (fX7_turned μ sp c1 ((d1 + 3) - (d1 + 3) / 6 * 6))]) (rest := []) X w (kX7_ahead l E a μ sp c1 (fX7_turned μ sp c1 ((d1 + 3) - (d1 + 3) / 6 * 6)) hc1) ck_X7_86 ⟨Nat.le_of_ble_eq_true rfl, Nat.le_of_ble_eq_true rfl⟩ [0, 1, 2, 3, 4, 5, 6, 7, 8, 9] (hc_81 (E := E)) (by decide +kernel) (k0 := 0) CL7 rfl hl.1 (Nat.le_of_ble_eq_true rfl) rfl dX7_along_87 ⟨Nat.le_of_ble_eq_true rfl, Nat.le_of_ble_eq_true rfl⟩) (wMd E a μ sp) [0, 1, 2, 3, 4, 5, 6, 7, 8, 9] (hc_81 (E := E)) (by decide +kernel) (ha_81 (E := E)) (hw_81 (E := E)) (fun H locs w => ?_)
                  refine lv_bipush (v := (-5)) hx hb dX7_along_90 (by decide) ?_
                  refine lv_icmp_ne (tgt := 108) hx hb dX7_along_92 (by decide) (fun _ => ?_) (fun h => absurd h (tu_in hTb hc1 (rv_in hd1) c92_18).2)
                  refine lv_aload_n hx hb dX7_along_108 rfl (lv_at hl 3 rfl) ?_
                  refine lv_iload hx hb dX7_along_109 (lv_at hl 2 rfl) ?_
                  refine lv_iload hx hb dX7_along_111 (lv_at hl 0 rfl) ?_
                  refine r_ci w (r_runV (As := [.int c1, .int (fX7_turned μ sp c1 ((d1 + 3) - (d1 + 3) / 6 * 6))]) (rest := []) X w (kX7_ahead l E a μ sp c1 (fX7_turned μ sp c1 ((d1 + 3) - (d1 + 3) / 6 * 6)) hc1) ck_X7_86 ⟨Nat.le_of_ble_eq_true rfl, Nat.le_of_ble_eq_true rfl⟩ [0, 1, 2, 3, 4, 5, 6, 7, 8, 9] (hc_81 (E := E)) (by decide +kernel) (k0 := 0) CL7 rfl hl.1 (Nat.le_of_ble_eq_true rfl) rfl dX7_along_113 ⟨Nat.le_of_ble_eq_true rfl, Nat.le_of_ble_eq_true rfl⟩) (wMd E a μ sp) [0, 1, 2, 3, 4, 5, 6, 7, 8, 9] (hc_81 (E := E)) (by decide +kernel) (ha_81 (E := E)) (hw_81 (E := E)) (fun H locs w => ?_)
                  refine lv_istore (lv' := [(5, .int (fX7_ahead μ sp c1 (fX7_turned μ sp c1 ((d1 + 3) - (d1 + 3) / 6 * 6)))), (6, .int (fX7_turned μ sp c1 ((d1 + 3) - (d1 + 3) / 6 * 6))), (7, .int (nI k)), (0, .ref (a 0)), (1, .int ce), (2, .int di), (3, .int qs), (4, .int bk)]) hx hb dX7_along_116 hl (by decide) rfl (fun ls hl => ?_)
                  refine lv_iinc (v := (nI k) + 1) (lv' := [(7, .int ((nI k) + 1)), (5, .int (fX7_ahead μ sp c1 (fX7_turned μ sp c1 ((d1 + 3) - (d1 + 3) / 6 * 6)))), (6, .int (fX7_turned μ sp c1 ((d1 + 3) - (d1 + 3) / 6 * 6))), (0, .ref (a 0)), (1, .int ce), (2, .int di), (3, .int qs), (4, .int bk)]) hx hb dX7_along_118 hl (k := 2) rfl (by first | rfl | decide) (by decide) rfl (fun ls hl => ?_)
                  refine lv_goto (tgt := 45) hx hb dX7_along_121 (by decide) ?_
                  have e0 : nI k + 1 = nI (k + 1) := nI_1 k
                  rw [e0] at hl
                  exact ih (k + 1) (by omega) _ _ (ahead_in hTb hc1 (tu_in hTb hc1 (rv_in hd1) c92_18).1 (tu_in hTb hc1 (rv_in hd1) c92_18).2) (tu_in hTb hc1 (rv_in hd1) c92_18).1 (by rw [← hR]; simp only [alN, if_pos c65_15, if_pos c92_18]) _ _ w ls (lv_sub hl [0, 2, 1, 3, 4, 5, 6, 7] rfl)
        exact loop (alM bk qs) 0 (by omega) _ _ (in61 c4_1) (in_pos (n := 5) rfl c18_2) rfl _ _ w ls (lv_sub hl [0, 1, 2, 3, 4, 5, 6, 7] rfl)
      · refine lv_bipush (v := (-2)) hx hb dX7_along_33 (by decide) ?_
        have hq : fX7_along μ sp ce di qs bk = ((-2)) := by simp only [fX7_along, if_neg c4_1, if_neg c18_2, if_pos c30_3]
        rw [hq]
        exact r_iret X w hr rfl dX7_along_35
  · refine lv_iconst (v := (-1)) hx hb dX7_along_7 (by decide) ?_
    have hq : fX7_along μ sp ce di qs bk = ((-1)) := by simp only [fX7_along, if_pos c4_1]
    rw [hq]
    exact r_iret X w hr rfl dX7_along_8
