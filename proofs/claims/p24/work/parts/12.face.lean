/-! HexBilliards: putAll, best (printed by wip/whole/gen/p12.py) -/
/-- the balls of a text that was read, put one after the other: -5, or the first refusal; the state then -/
def paN (t : N2) : Nat → Nat → N2 → Int32 × N2
  | 0, _, σ => ((-5), σ)
  | n + 1, k, σ => if fX4_refusalToAdd σ (fX0_cellOfBall t (nI k)) = (-5) then paN t n (k + 1) (fX4_addBall σ (fX0_cellOfBall t (nI k)) (fX0_valueOfBall t (nI k))).2 else (fX4_refusalToAdd σ (fX0_cellOfBall t (nI k)), σ)
def fX6_putAll (hs : Int32) (σ : N2) (σr : N2) (n : Int32) (o : Nat) (η : Nat → N2) (t : N2) : Int32 × N2 × N2 × Int32 × Nat × (Nat → N2) × N2 :=
  if (fX0_read t).1 = (-1) then
    (if (paN (fX0_read t).2 ((fX0_read t).2 3 1).toNatClampNeg 0 σ).1 = (-5) then
      ((fX0_read t).2 3 1, (paN (fX0_read t).2 ((fX0_read t).2 3 1).toNatClampNeg 0 σ).2, (paN (fX0_read t).2 ((fX0_read t).2 3 1).toNatClampNeg 0 σ).2, (fX2_record n o η σ).1, (fX2_record n o η σ).2.1, (fX2_record n o η σ).2.2, (fX0_read t).2)
    else ((paN (fX0_read t).2 ((fX0_read t).2 3 1).toNatClampNeg 0 σ).1, σ, (paN (fX0_read t).2 ((fX0_read t).2 3 1).toNatClampNeg 0 σ).2, n, o, η, (fX0_read t).2))
  else ((-100) - (fX0_read t).1, σ, σr, n, o, η, (fX0_read t).2)
theorem dX6_putAll_0 : decode cX6_putAll 0 = .ok (.aload_n 0, 1) := by decide +kernel
theorem dX6_putAll_1 : decode cX6_putAll 1 = .ok (.getfield 32, 3) := by decide +kernel
theorem dX6_putAll_4 : decode cX6_putAll 4 = .ok (.invokevirtual 61, 3) := by decide +kernel
theorem dX6_putAll_7 : decode cX6_putAll 7 = .ok (.istore_n 1, 1) := by decide +kernel
theorem dX6_putAll_8 : decode cX6_putAll 8 = .ok (.iload_n 1, 1) := by decide +kernel
theorem dX6_putAll_9 : decode cX6_putAll 9 = .ok (.iconst (-1), 1) := by decide +kernel
theorem dX6_putAll_10 : decode cX6_putAll 10 = .ok (.if_icmp .eq 8, 3) := by decide +kernel
theorem dX6_putAll_13 : decode cX6_putAll 13 = .ok (.bipush (-100), 2) := by decide +kernel
theorem dX6_putAll_15 : decode cX6_putAll 15 = .ok (.iload_n 1, 1) := by decide +kernel
theorem dX6_putAll_16 : decode cX6_putAll 16 = .ok (.isub, 1) := by decide +kernel
theorem dX6_putAll_17 : decode cX6_putAll 17 = .ok (.ireturn, 1) := by decide +kernel
theorem dX6_putAll_18 : decode cX6_putAll 18 = .ok (.aload_n 0, 1) := by decide +kernel
theorem dX6_putAll_19 : decode cX6_putAll 19 = .ok (.getfield 19, 3) := by decide +kernel
theorem dX6_putAll_22 : decode cX6_putAll 22 = .ok (.aload_n 0, 1) := by decide +kernel
theorem dX6_putAll_23 : decode cX6_putAll 23 = .ok (.getfield 10, 3) := by decide +kernel
theorem dX6_putAll_26 : decode cX6_putAll 26 = .ok (.invokevirtual 65, 3) := by decide +kernel
theorem dX6_putAll_29 : decode cX6_putAll 29 = .ok (.iconst 0, 1) := by decide +kernel
theorem dX6_putAll_30 : decode cX6_putAll 30 = .ok (.istore_n 2, 1) := by decide +kernel
theorem dX6_putAll_31 : decode cX6_putAll 31 = .ok (.iload_n 2, 1) := by decide +kernel
theorem dX6_putAll_32 : decode cX6_putAll 32 = .ok (.aload_n 0, 1) := by decide +kernel
theorem dX6_putAll_33 : decode cX6_putAll 33 = .ok (.getfield 32, 3) := by decide +kernel
theorem dX6_putAll_36 : decode cX6_putAll 36 = .ok (.getfield 68, 3) := by decide +kernel
theorem dX6_putAll_39 : decode cX6_putAll 39 = .ok (.if_icmp .ge 55, 3) := by decide +kernel
theorem dX6_putAll_42 : decode cX6_putAll 42 = .ok (.aload_n 0, 1) := by decide +kernel
theorem dX6_putAll_43 : decode cX6_putAll 43 = .ok (.getfield 32, 3) := by decide +kernel
theorem dX6_putAll_46 : decode cX6_putAll 46 = .ok (.iload_n 2, 1) := by decide +kernel
theorem dX6_putAll_47 : decode cX6_putAll 47 = .ok (.invokevirtual 72, 3) := by decide +kernel
theorem dX6_putAll_50 : decode cX6_putAll 50 = .ok (.istore_n 3, 1) := by decide +kernel
theorem dX6_putAll_51 : decode cX6_putAll 51 = .ok (.aload_n 0, 1) := by decide +kernel
theorem dX6_putAll_52 : decode cX6_putAll 52 = .ok (.getfield 19, 3) := by decide +kernel
theorem dX6_putAll_55 : decode cX6_putAll 55 = .ok (.iload_n 3, 1) := by decide +kernel
theorem dX6_putAll_56 : decode cX6_putAll 56 = .ok (.invokevirtual 49, 3) := by decide +kernel
theorem dX6_putAll_59 : decode cX6_putAll 59 = .ok (.istore 4, 2) := by decide +kernel
theorem dX6_putAll_61 : decode cX6_putAll 61 = .ok (.iload 4, 2) := by decide +kernel
theorem dX6_putAll_63 : decode cX6_putAll 63 = .ok (.bipush (-5), 2) := by decide +kernel
theorem dX6_putAll_65 : decode cX6_putAll 65 = .ok (.if_icmp .eq 6, 3) := by decide +kernel
theorem dX6_putAll_68 : decode cX6_putAll 68 = .ok (.iload 4, 2) := by decide +kernel
theorem dX6_putAll_70 : decode cX6_putAll 70 = .ok (.ireturn, 1) := by decide +kernel
theorem dX6_putAll_71 : decode cX6_putAll 71 = .ok (.aload_n 0, 1) := by decide +kernel
theorem dX6_putAll_72 : decode cX6_putAll 72 = .ok (.getfield 19, 3) := by decide +kernel
theorem dX6_putAll_75 : decode cX6_putAll 75 = .ok (.iload_n 3, 1) := by decide +kernel
theorem dX6_putAll_76 : decode cX6_putAll 76 = .ok (.aload_n 0, 1) := by decide +kernel
theorem dX6_putAll_77 : decode cX6_putAll 77 = .ok (.getfield 32, 3) := by decide +kernel
theorem dX6_putAll_80 : decode cX6_putAll 80 = .ok (.iload_n 2, 1) := by decide +kernel
theorem dX6_putAll_81 : decode cX6_putAll 81 = .ok (.invokevirtual 75, 3) := by decide +kernel
theorem dX6_putAll_84 : decode cX6_putAll 84 = .ok (.invokevirtual 57, 3) := by decide +kernel
theorem dX6_putAll_87 : decode cX6_putAll 87 = .ok (.pop, 1) := by decide +kernel
theorem dX6_putAll_88 : decode cX6_putAll 88 = .ok (.iinc 2 1, 3) := by decide +kernel
theorem dX6_putAll_91 : decode cX6_putAll 91 = .ok (.goto (-60), 3) := by decide +kernel
theorem dX6_putAll_94 : decode cX6_putAll 94 = .ok (.aload_n 0, 1) := by decide +kernel
theorem dX6_putAll_95 : decode cX6_putAll 95 = .ok (.getfield 25, 3) := by decide +kernel
theorem dX6_putAll_98 : decode cX6_putAll 98 = .ok (.aload_n 0, 1) := by decide +kernel
theorem dX6_putAll_99 : decode cX6_putAll 99 = .ok (.getfield 10, 3) := by decide +kernel
theorem dX6_putAll_102 : decode cX6_putAll 102 = .ok (.invokevirtual 53, 3) := by decide +kernel
theorem dX6_putAll_105 : decode cX6_putAll 105 = .ok (.aload_n 0, 1) := by decide +kernel
theorem dX6_putAll_106 : decode cX6_putAll 106 = .ok (.getfield 10, 3) := by decide +kernel
theorem dX6_putAll_109 : decode cX6_putAll 109 = .ok (.aload_n 0, 1) := by decide +kernel
theorem dX6_putAll_110 : decode cX6_putAll 110 = .ok (.getfield 19, 3) := by decide +kernel
theorem dX6_putAll_113 : decode cX6_putAll 113 = .ok (.invokevirtual 65, 3) := by decide +kernel
theorem dX6_putAll_116 : decode cX6_putAll 116 = .ok (.aload_n 0, 1) := by decide +kernel
theorem dX6_putAll_117 : decode cX6_putAll 117 = .ok (.getfield 32, 3) := by decide +kernel
theorem dX6_putAll_120 : decode cX6_putAll 120 = .ok (.getfield 68, 3) := by decide +kernel
theorem dX6_putAll_123 : decode cX6_putAll 123 = .ok (.ireturn, 1) := by decide +kernel
theorem ck_X6_61 : CkV RX6 61 RX0 yX0_read cX0_read 2 (some .int) 0 := ⟨wm_X6_61, wim_yX0_read, wse_yX0_read, wi_X0, wc_yX0_read, by decide +kernel⟩
theorem ck_X6_72 : CkV RX6 72 RX0 yX0_cellOfBall cX0_cellOfBall 2 (some .int) 1 := ⟨wm_X6_72, wim_yX0_cellOfBall, wse_yX0_cellOfBall, wi_X0, wc_yX0_cellOfBall, by decide +kernel⟩
theorem ck_X6_75 : CkV RX6 75 RX0 yX0_valueOfBall cX0_valueOfBall 2 (some .int) 1 := ⟨wm_X6_75, wim_yX0_valueOfBall, wse_yX0_valueOfBall, wi_X0, wc_yX0_valueOfBall, by decide +kernel⟩
theorem hc_68 {E : Ev} {a0 p0_0 p0_1 p0_2 p0_3 p0_4 p0_5 : Nat} {n0 : Int32} {a1 : Nat → Nat} {σ1 : N2} {a2 : Nat → Nat} {σ2 : N2} {a3 : Nat → Nat} {h3 : Nat → Nat → Nat} {n3 : Int32} {η3 : Nat → N2} {o3 : Nat} {a4 : Nat → Nat} {σ4 : N2} : ([57, 58, 59, 60] : List Nat).map (fun i => (wHb a0 p0_0 p0_1 p0_2 p0_3 p0_4 p0_5 n0 ++ (wSt E a1 σ1 ++ (wSt E a2 σ2 ++ (wHs E a3 h3 n3 o3 η3 ++ wTx E a4 σ4))))[i]?) = (wTx E a4 σ4).map some := by rw [show wHb a0 p0_0 p0_1 p0_2 p0_3 p0_4 p0_5 n0 ++ (wSt E a1 σ1 ++ (wSt E a2 σ2 ++ (wHs E a3 h3 n3 o3 η3 ++ (wTx E a4 σ4)))) = (wHb a0 p0_0 p0_1 p0_2 p0_3 p0_4 p0_5 n0 ++ (wSt E a1 σ1 ++ (wSt E a2 σ2 ++ (wHs E a3 h3 n3 o3 η3)))) ++ (wTx E a4 σ4 ++ (([] : va_W))) by simp only [List.append_assoc, List.nil_append, List.append_nil]]; exact get1 (s := 57) (n := 4) rfl rfl
theorem ha_68 {E : Ev} {a4 : Nat → Nat} {σ4 : N2} {τ0_0 : N2} : (wTx E a4 τ0_0).map Prod.fst = (wTx E a4 σ4).map Prod.fst := fst_Tx
theorem hw_68 {E : Ev} {a0 p0_0 p0_1 p0_2 p0_3 p0_4 p0_5 : Nat} {n0 : Int32} {a1 : Nat → Nat} {σ1 : N2} {a2 : Nat → Nat} {σ2 : N2} {a3 : Nat → Nat} {h3 : Nat → Nat → Nat} {n3 : Int32} {η3 : Nat → N2} {o3 : Nat} {a4 : Nat → Nat} {σ4 : N2} {τ0_0 : N2} : wput (wHb a0 p0_0 p0_1 p0_2 p0_3 p0_4 p0_5 n0 ++ (wSt E a1 σ1 ++ (wSt E a2 σ2 ++ (wHs E a3 h3 n3 o3 η3 ++ wTx E a4 σ4)))) [57, 58, 59, 60] (wTx E a4 τ0_0) = wHb a0 p0_0 p0_1 p0_2 p0_3 p0_4 p0_5 n0 ++ (wSt E a1 σ1 ++ (wSt E a2 σ2 ++ (wHs E a3 h3 n3 o3 η3 ++ wTx E a4 τ0_0))) := by
  show wput (wHb a0 p0_0 p0_1 p0_2 p0_3 p0_4 p0_5 n0 ++ (wSt E a1 σ1 ++ (wSt E a2 σ2 ++ (wHs E a3 h3 n3 o3 η3 ++ (wTx E a4 σ4))))) (rg 57 4) (wTx E a4 τ0_0) = _
  rw [show wHb a0 p0_0 p0_1 p0_2 p0_3 p0_4 p0_5 n0 ++ (wSt E a1 σ1 ++ (wSt E a2 σ2 ++ (wHs E a3 h3 n3 o3 η3 ++ (wTx E a4 σ4)))) = (wHb a0 p0_0 p0_1 p0_2 p0_3 p0_4 p0_5 n0 ++ (wSt E a1 σ1 ++ (wSt E a2 σ2 ++ (wHs E a3 h3 n3 o3 η3)))) ++ (wTx E a4 σ4 ++ (([] : va_W))) by simp only [List.append_assoc, List.nil_append, List.append_nil], put1 (s := 57) (n := 4) rfl rfl rfl]
  try simp only [List.append_assoc, List.nil_append, List.append_nil]
theorem hc_69 {E : Ev} {a0 p0_0 p0_1 p0_2 p0_3 p0_4 p0_5 : Nat} {n0 : Int32} {a1 : Nat → Nat} {σ1 : N2} {a2 : Nat → Nat} {σ2 : N2} {a3 : Nat → Nat} {h3 : Nat → Nat → Nat} {n3 : Int32} {η3 : Nat → N2} {o3 : Nat} {a4 : Nat → Nat} {σ4 : N2} : ([10, 11, 12, 13, 14, 15, 16, 17, 18, 1, 2, 3, 4, 5, 6, 7, 8, 9] : List Nat).map (fun i => (wHb a0 p0_0 p0_1 p0_2 p0_3 p0_4 p0_5 n0 ++ (wSt E a1 σ1 ++ (wSt E a2 σ2 ++ (wHs E a3 h3 n3 o3 η3 ++ wTx E a4 σ4))))[i]?) = (wSt E a2 σ2 ++ wSt E a1 σ1).map some := get_app (is1 := rg 10 9) (is2 := rg 1 9) (by rw [show wHb a0 p0_0 p0_1 p0_2 p0_3 p0_4 p0_5 n0 ++ (wSt E a1 σ1 ++ (wSt E a2 σ2 ++ (wHs E a3 h3 n3 o3 η3 ++ (wTx E a4 σ4)))) = (wHb a0 p0_0 p0_1 p0_2 p0_3 p0_4 p0_5 n0 ++ (wSt E a1 σ1)) ++ (wSt E a2 σ2 ++ (wHs E a3 h3 n3 o3 η3 ++ (wTx E a4 σ4))) by simp only [List.append_assoc, List.nil_append, List.append_nil]]; exact get1 (s := 10) (n := 9) rfl rfl) ((by rw [show wHb a0 p0_0 p0_1 p0_2 p0_3 p0_4 p0_5 n0 ++ (wSt E a1 σ1 ++ (wSt E a2 σ2 ++ (wHs E a3 h3 n3 o3 η3 ++ (wTx E a4 σ4)))) = (wHb a0 p0_0 p0_1 p0_2 p0_3 p0_4 p0_5 n0) ++ (wSt E a1 σ1 ++ (wSt E a2 σ2 ++ (wHs E a3 h3 n3 o3 η3 ++ (wTx E a4 σ4)))) by simp only [List.append_assoc, List.nil_append, List.append_nil]]; exact get1 (s := 1) (n := 9) rfl rfl))
theorem ha_69 {E : Ev} {a1 : Nat → Nat} {σ1 : N2} {a2 : Nat → Nat} {σ2 : N2} {τ0_0 : N2} {τ1_0 : N2} : (wSt E a2 τ0_0 ++ wSt E a1 τ1_0).map Prod.fst = (wSt E a2 σ2 ++ wSt E a1 σ1).map Prod.fst := fst_app fst_St (fst_St)
theorem hw_69 {E : Ev} {a0 p0_0 p0_1 p0_2 p0_3 p0_4 p0_5 : Nat} {n0 : Int32} {a1 : Nat → Nat} {σ1 : N2} {a2 : Nat → Nat} {σ2 : N2} {a3 : Nat → Nat} {h3 : Nat → Nat → Nat} {n3 : Int32} {η3 : Nat → N2} {o3 : Nat} {a4 : Nat → Nat} {σ4 : N2} {τ0_0 : N2} {τ1_0 : N2} : wput (wHb a0 p0_0 p0_1 p0_2 p0_3 p0_4 p0_5 n0 ++ (wSt E a1 σ1 ++ (wSt E a2 σ2 ++ (wHs E a3 h3 n3 o3 η3 ++ wTx E a4 σ4)))) [10, 11, 12, 13, 14, 15, 16, 17, 18, 1, 2, 3, 4, 5, 6, 7, 8, 9] (wSt E a2 τ0_0 ++ wSt E a1 τ1_0) = wHb a0 p0_0 p0_1 p0_2 p0_3 p0_4 p0_5 n0 ++ (wSt E a1 τ1_0 ++ (wSt E a2 τ0_0 ++ (wHs E a3 h3 n3 o3 η3 ++ wTx E a4 σ4))) := by
  show wput (wHb a0 p0_0 p0_1 p0_2 p0_3 p0_4 p0_5 n0 ++ (wSt E a1 σ1 ++ (wSt E a2 σ2 ++ (wHs E a3 h3 n3 o3 η3 ++ (wTx E a4 σ4))))) (rg 10 9 ++ (rg 1 9)) (wSt E a2 τ0_0 ++ wSt E a1 τ1_0) = _
  rw [wput_app rfl]
  rw [show wHb a0 p0_0 p0_1 p0_2 p0_3 p0_4 p0_5 n0 ++ (wSt E a1 σ1 ++ (wSt E a2 σ2 ++ (wHs E a3 h3 n3 o3 η3 ++ (wTx E a4 σ4)))) = (wHb a0 p0_0 p0_1 p0_2 p0_3 p0_4 p0_5 n0 ++ (wSt E a1 σ1)) ++ (wSt E a2 σ2 ++ (wHs E a3 h3 n3 o3 η3 ++ (wTx E a4 σ4))) by simp only [List.append_assoc, List.nil_append, List.append_nil], put1 (s := 10) (n := 9) rfl rfl rfl]
  rw [show (wHb a0 p0_0 p0_1 p0_2 p0_3 p0_4 p0_5 n0 ++ (wSt E a1 σ1)) ++ (wSt E a2 τ0_0 ++ (wHs E a3 h3 n3 o3 η3 ++ (wTx E a4 σ4))) = (wHb a0 p0_0 p0_1 p0_2 p0_3 p0_4 p0_5 n0) ++ (wSt E a1 σ1 ++ (wSt E a2 τ0_0 ++ (wHs E a3 h3 n3 o3 η3 ++ (wTx E a4 σ4)))) by simp only [List.append_assoc, List.nil_append, List.append_nil], put1 (s := 1) (n := 9) rfl rfl rfl]
  try simp only [List.append_assoc, List.nil_append, List.append_nil]
theorem hc_70 {E : Ev} {a0 p0_0 p0_1 p0_2 p0_3 p0_4 p0_5 : Nat} {n0 : Int32} {a1 : Nat → Nat} {σ1 : N2} {a2 : Nat → Nat} {σ2 : N2} {a3 : Nat → Nat} {h3 : Nat → Nat → Nat} {n3 : Int32} {η3 : Nat → N2} {o3 : Nat} {a4 : Nat → Nat} {σ4 : N2} : ([19, 20, 21, 22, 23, 24, 25, 26, 27, 28, 29, 30, 31, 32, 33, 34, 35, 36, 37, 38, 39, 40, 41, 42, 43, 44, 45, 46, 47, 48, 49, 50, 51, 52, 53, 54, 55, 56, 1, 2, 3, 4, 5, 6, 7, 8, 9] : List Nat).map (fun i => (wHb a0 p0_0 p0_1 p0_2 p0_3 p0_4 p0_5 n0 ++ (wSt E a1 σ1 ++ (wSt E a2 σ2 ++ (wHs E a3 h3 n3 o3 η3 ++ wTx E a4 σ4))))[i]?) = (wHs E a3 h3 n3 o3 η3 ++ wSt E a1 σ1).map some := get_app (is1 := rg 19 38) (is2 := rg 1 9) (by rw [show wHb a0 p0_0 p0_1 p0_2 p0_3 p0_4 p0_5 n0 ++ (wSt E a1 σ1 ++ (wSt E a2 σ2 ++ (wHs E a3 h3 n3 o3 η3 ++ (wTx E a4 σ4)))) = (wHb a0 p0_0 p0_1 p0_2 p0_3 p0_4 p0_5 n0 ++ (wSt E a1 σ1 ++ (wSt E a2 σ2))) ++ (wHs E a3 h3 n3 o3 η3 ++ (wTx E a4 σ4)) by simp only [List.append_assoc, List.nil_append, List.append_nil]]; exact get1 (s := 19) (n := 38) rfl rfl) ((by rw [show wHb a0 p0_0 p0_1 p0_2 p0_3 p0_4 p0_5 n0 ++ (wSt E a1 σ1 ++ (wSt E a2 σ2 ++ (wHs E a3 h3 n3 o3 η3 ++ (wTx E a4 σ4)))) = (wHb a0 p0_0 p0_1 p0_2 p0_3 p0_4 p0_5 n0) ++ (wSt E a1 σ1 ++ (wSt E a2 σ2 ++ (wHs E a3 h3 n3 o3 η3 ++ (wTx E a4 σ4)))) by simp only [List.append_assoc, List.nil_append, List.append_nil]]; exact get1 (s := 1) (n := 9) rfl rfl))
theorem ha_70 {E : Ev} {a1 : Nat → Nat} {σ1 : N2} {a3 : Nat → Nat} {h3 : Nat → Nat → Nat} {n3 : Int32} {η3 : Nat → N2} {o3 : Nat} {τ0_0 : Int32} {τ0_1 : Nat} {τ0_2 : Nat → N2} {τ1_0 : N2} : (wHs E a3 h3 τ0_0 τ0_1 τ0_2 ++ wSt E a1 τ1_0).map Prod.fst = (wHs E a3 h3 n3 o3 η3 ++ wSt E a1 σ1).map Prod.fst := fst_app fst_Hs (fst_St)
theorem hw_70 {E : Ev} {a0 p0_0 p0_1 p0_2 p0_3 p0_4 p0_5 : Nat} {n0 : Int32} {a1 : Nat → Nat} {σ1 : N2} {a2 : Nat → Nat} {σ2 : N2} {a3 : Nat → Nat} {h3 : Nat → Nat → Nat} {n3 : Int32} {η3 : Nat → N2} {o3 : Nat} {a4 : Nat → Nat} {σ4 : N2} {τ0_0 : Int32} {τ0_1 : Nat} {τ0_2 : Nat → N2} {τ1_0 : N2} : wput (wHb a0 p0_0 p0_1 p0_2 p0_3 p0_4 p0_5 n0 ++ (wSt E a1 σ1 ++ (wSt E a2 σ2 ++ (wHs E a3 h3 n3 o3 η3 ++ wTx E a4 σ4)))) [19, 20, 21, 22, 23, 24, 25, 26, 27, 28, 29, 30, 31, 32, 33, 34, 35, 36, 37, 38, 39, 40, 41, 42, 43, 44, 45, 46, 47, 48, 49, 50, 51, 52, 53, 54, 55, 56, 1, 2, 3, 4, 5, 6, 7, 8, 9] (wHs E a3 h3 τ0_0 τ0_1 τ0_2 ++ wSt E a1 τ1_0) = wHb a0 p0_0 p0_1 p0_2 p0_3 p0_4 p0_5 n0 ++ (wSt E a1 τ1_0 ++ (wSt E a2 σ2 ++ (wHs E a3 h3 τ0_0 τ0_1 τ0_2 ++ wTx E a4 σ4))) := by
  show wput (wHb a0 p0_0 p0_1 p0_2 p0_3 p0_4 p0_5 n0 ++ (wSt E a1 σ1 ++ (wSt E a2 σ2 ++ (wHs E a3 h3 n3 o3 η3 ++ (wTx E a4 σ4))))) (rg 19 38 ++ (rg 1 9)) (wHs E a3 h3 τ0_0 τ0_1 τ0_2 ++ wSt E a1 τ1_0) = _
  rw [wput_app rfl]
  rw [show wHb a0 p0_0 p0_1 p0_2 p0_3 p0_4 p0_5 n0 ++ (wSt E a1 σ1 ++ (wSt E a2 σ2 ++ (wHs E a3 h3 n3 o3 η3 ++ (wTx E a4 σ4)))) = (wHb a0 p0_0 p0_1 p0_2 p0_3 p0_4 p0_5 n0 ++ (wSt E a1 σ1 ++ (wSt E a2 σ2))) ++ (wHs E a3 h3 n3 o3 η3 ++ (wTx E a4 σ4)) by simp only [List.append_assoc, List.nil_append, List.append_nil], put1 (s := 19) (n := 38) rfl rfl rfl]
  rw [show (wHb a0 p0_0 p0_1 p0_2 p0_3 p0_4 p0_5 n0 ++ (wSt E a1 σ1 ++ (wSt E a2 σ2))) ++ (wHs E a3 h3 τ0_0 τ0_1 τ0_2 ++ (wTx E a4 σ4)) = (wHb a0 p0_0 p0_1 p0_2 p0_3 p0_4 p0_5 n0) ++ (wSt E a1 σ1 ++ (wSt E a2 σ2 ++ (wHs E a3 h3 τ0_0 τ0_1 τ0_2 ++ (wTx E a4 σ4)))) by simp only [List.append_assoc, List.nil_append, List.append_nil], put1 (s := 1) (n := 9) rfl rfl rfl]
  try simp only [List.append_assoc, List.nil_append, List.append_nil]
theorem hc_71 {E : Ev} {a0 p0_0 p0_1 p0_2 p0_3 p0_4 p0_5 : Nat} {n0 : Int32} {a1 : Nat → Nat} {σ1 : N2} {a2 : Nat → Nat} {σ2 : N2} {a3 : Nat → Nat} {h3 : Nat → Nat → Nat} {n3 : Int32} {η3 : Nat → N2} {o3 : Nat} {a4 : Nat → Nat} {σ4 : N2} : ([1, 2, 3, 4, 5, 6, 7, 8, 9, 10, 11, 12, 13, 14, 15, 16, 17, 18] : List Nat).map (fun i => (wHb a0 p0_0 p0_1 p0_2 p0_3 p0_4 p0_5 n0 ++ (wSt E a1 σ1 ++ (wSt E a2 σ2 ++ (wHs E a3 h3 n3 o3 η3 ++ wTx E a4 σ4))))[i]?) = (wSt E a1 σ1 ++ wSt E a2 σ2).map some := get_app (is1 := rg 1 9) (is2 := rg 10 9) (by rw [show wHb a0 p0_0 p0_1 p0_2 p0_3 p0_4 p0_5 n0 ++ (wSt E a1 σ1 ++ (wSt E a2 σ2 ++ (wHs E a3 h3 n3 o3 η3 ++ (wTx E a4 σ4)))) = (wHb a0 p0_0 p0_1 p0_2 p0_3 p0_4 p0_5 n0) ++ (wSt E a1 σ1 ++ (wSt E a2 σ2 ++ (wHs E a3 h3 n3 o3 η3 ++ (wTx E a4 σ4)))) by simp only [List.append_assoc, List.nil_append, List.append_nil]]; exact get1 (s := 1) (n := 9) rfl rfl) ((by rw [show wHb a0 p0_0 p0_1 p0_2 p0_3 p0_4 p0_5 n0 ++ (wSt E a1 σ1 ++ (wSt E a2 σ2 ++ (wHs E a3 h3 n3 o3 η3 ++ (wTx E a4 σ4)))) = (wHb a0 p0_0 p0_1 p0_2 p0_3 p0_4 p0_5 n0 ++ (wSt E a1 σ1)) ++ (wSt E a2 σ2 ++ (wHs E a3 h3 n3 o3 η3 ++ (wTx E a4 σ4))) by simp only [List.append_assoc, List.nil_append, List.append_nil]]; exact get1 (s := 10) (n := 9) rfl rfl))
theorem ha_71 {E : Ev} {a1 : Nat → Nat} {σ1 : N2} {a2 : Nat → Nat} {σ2 : N2} {τ0_0 : N2} {τ1_0 : N2} : (wSt E a1 τ0_0 ++ wSt E a2 τ1_0).map Prod.fst = (wSt E a1 σ1 ++ wSt E a2 σ2).map Prod.fst := fst_app fst_St (fst_St)
theorem hw_71 {E : Ev} {a0 p0_0 p0_1 p0_2 p0_3 p0_4 p0_5 : Nat} {n0 : Int32} {a1 : Nat → Nat} {σ1 : N2} {a2 : Nat → Nat} {σ2 : N2} {a3 : Nat → Nat} {h3 : Nat → Nat → Nat} {n3 : Int32} {η3 : Nat → N2} {o3 : Nat} {a4 : Nat → Nat} {σ4 : N2} {τ0_0 : N2} {τ1_0 : N2} : wput (wHb a0 p0_0 p0_1 p0_2 p0_3 p0_4 p0_5 n0 ++ (wSt E a1 σ1 ++ (wSt E a2 σ2 ++ (wHs E a3 h3 n3 o3 η3 ++ wTx E a4 σ4)))) [1, 2, 3, 4, 5, 6, 7, 8, 9, 10, 11, 12, 13, 14, 15, 16, 17, 18] (wSt E a1 τ0_0 ++ wSt E a2 τ1_0) = wHb a0 p0_0 p0_1 p0_2 p0_3 p0_4 p0_5 n0 ++ (wSt E a1 τ0_0 ++ (wSt E a2 τ1_0 ++ (wHs E a3 h3 n3 o3 η3 ++ wTx E a4 σ4))) := by
  show wput (wHb a0 p0_0 p0_1 p0_2 p0_3 p0_4 p0_5 n0 ++ (wSt E a1 σ1 ++ (wSt E a2 σ2 ++ (wHs E a3 h3 n3 o3 η3 ++ (wTx E a4 σ4))))) (rg 1 9 ++ (rg 10 9)) (wSt E a1 τ0_0 ++ wSt E a2 τ1_0) = _
  rw [wput_app rfl]
  rw [show wHb a0 p0_0 p0_1 p0_2 p0_3 p0_4 p0_5 n0 ++ (wSt E a1 σ1 ++ (wSt E a2 σ2 ++ (wHs E a3 h3 n3 o3 η3 ++ (wTx E a4 σ4)))) = (wHb a0 p0_0 p0_1 p0_2 p0_3 p0_4 p0_5 n0) ++ (wSt E a1 σ1 ++ (wSt E a2 σ2 ++ (wHs E a3 h3 n3 o3 η3 ++ (wTx E a4 σ4)))) by simp only [List.append_assoc, List.nil_append, List.append_nil], put1 (s := 1) (n := 9) rfl rfl rfl]
  rw [show (wHb a0 p0_0 p0_1 p0_2 p0_3 p0_4 p0_5 n0) ++ (wSt E a1 τ0_0 ++ (wSt E a2 σ2 ++ (wHs E a3 h3 n3 o3 η3 ++ (wTx E a4 σ4)))) = (wHb a0 p0_0 p0_1 p0_2 p0_3 p0_4 p0_5 n0 ++ (wSt E a1 τ0_0)) ++ (wSt E a2 σ2 ++ (wHs E a3 h3 n3 o3 η3 ++ (wTx E a4 σ4))) by simp only [List.append_assoc, List.nil_append, List.append_nil], put1 (s := 10) (n := 9) rfl rfl rfl]
  try simp only [List.append_assoc, List.nil_append, List.append_nil]
theorem hc_72 {E : Ev} {a0 p0_0 p0_1 p0_2 p0_3 p0_4 p0_5 : Nat} {n0 : Int32} {a1 : Nat → Nat} {σ1 : N2} {a2 : Nat → Nat} {σ2 : N2} {a3 : Nat → Nat} {h3 : Nat → Nat → Nat} {n3 : Int32} {η3 : Nat → N2} {o3 : Nat} {a4 : Nat → Nat} {σ4 : N2} : ([10, 11, 12, 13, 14, 15, 16, 17, 18] : List Nat).map (fun i => (wHb a0 p0_0 p0_1 p0_2 p0_3 p0_4 p0_5 n0 ++ (wSt E a1 σ1 ++ (wSt E a2 σ2 ++ (wHs E a3 h3 n3 o3 η3 ++ wTx E a4 σ4))))[i]?) = (wSt E a2 σ2).map some := by rw [show wHb a0 p0_0 p0_1 p0_2 p0_3 p0_4 p0_5 n0 ++ (wSt E a1 σ1 ++ (wSt E a2 σ2 ++ (wHs E a3 h3 n3 o3 η3 ++ (wTx E a4 σ4)))) = (wHb a0 p0_0 p0_1 p0_2 p0_3 p0_4 p0_5 n0 ++ (wSt E a1 σ1)) ++ (wSt E a2 σ2 ++ (wHs E a3 h3 n3 o3 η3 ++ (wTx E a4 σ4))) by simp only [List.append_assoc, List.nil_append, List.append_nil]]; exact get1 (s := 10) (n := 9) rfl rfl
theorem ha_72 {E : Ev} {a2 : Nat → Nat} {σ2 : N2} {τ0_0 : N2} : (wSt E a2 τ0_0).map Prod.fst = (wSt E a2 σ2).map Prod.fst := fst_St
theorem hw_72 {E : Ev} {a0 p0_0 p0_1 p0_2 p0_3 p0_4 p0_5 : Nat} {n0 : Int32} {a1 : Nat → Nat} {σ1 : N2} {a2 : Nat → Nat} {σ2 : N2} {a3 : Nat → Nat} {h3 : Nat → Nat → Nat} {n3 : Int32} {η3 : Nat → N2} {o3 : Nat} {a4 : Nat → Nat} {σ4 : N2} {τ0_0 : N2} : wput (wHb a0 p0_0 p0_1 p0_2 p0_3 p0_4 p0_5 n0 ++ (wSt E a1 σ1 ++ (wSt E a2 σ2 ++ (wHs E a3 h3 n3 o3 η3 ++ wTx E a4 σ4)))) [10, 11, 12, 13, 14, 15, 16, 17, 18] (wSt E a2 τ0_0) = wHb a0 p0_0 p0_1 p0_2 p0_3 p0_4 p0_5 n0 ++ (wSt E a1 σ1 ++ (wSt E a2 τ0_0 ++ (wHs E a3 h3 n3 o3 η3 ++ wTx E a4 σ4))) := by
  show wput (wHb a0 p0_0 p0_1 p0_2 p0_3 p0_4 p0_5 n0 ++ (wSt E a1 σ1 ++ (wSt E a2 σ2 ++ (wHs E a3 h3 n3 o3 η3 ++ (wTx E a4 σ4))))) (rg 10 9) (wSt E a2 τ0_0) = _
  rw [show wHb a0 p0_0 p0_1 p0_2 p0_3 p0_4 p0_5 n0 ++ (wSt E a1 σ1 ++ (wSt E a2 σ2 ++ (wHs E a3 h3 n3 o3 η3 ++ (wTx E a4 σ4)))) = (wHb a0 p0_0 p0_1 p0_2 p0_3 p0_4 p0_5 n0 ++ (wSt E a1 σ1)) ++ (wSt E a2 σ2 ++ (wHs E a3 h3 n3 o3 η3 ++ (wTx E a4 σ4))) by simp only [List.append_assoc, List.nil_append, List.append_nil], put1 (s := 10) (n := 9) rfl rfl rfl]
  try simp only [List.append_assoc, List.nil_append, List.append_nil]
set_option maxHeartbeats 4000000 in
set_option maxRecDepth 100000 in
theorem kX6_putAll (l : Launch) (E : Ev) (h : Nat) (p1 : Nat) (p5 : Nat) (hs : Int32) (sa : Nat → Nat) (σ : N2) (ra : Nat → Nat) (σr : N2) (ya : Nat → Nat) (hh : Nat → Nat → Nat) (n : Int32) (o : Nat) (η : Nat → N2) (xa : Nat → Nat) (t : N2) : KQ l yX6_putAll cX6_putAll 5 (some .int) 4 102 E [.ref h] (wHb h (sa 0) p1 (ra 0) (ya 0) (xa 0) p5 hs ++ (wSt E sa σ ++ (wSt E ra σr ++ (wHs E ya hh n o η ++ wTx E xa t)))) (QI E (wHb h (sa 0) p1 (ra 0) (ya 0) (xa 0) p5 hs ++ (wSt E sa σ ++ (wSt E ra σr ++ (wHs E ya hh n o η ++ wTx E xa t)))) (fX6_putAll hs σ σr n o η t).1 (wHb h (sa 0) p1 (ra 0) (ya 0) (xa 0) p5 hs ++ (wSt E sa ((fX6_putAll hs σ σr n o η t).2.1) ++ (wSt E ra ((fX6_putAll hs σ σr n o η t).2.2.1) ++ (wHs E ya hh ((fX6_putAll hs σ σr n o η t).2.2.2.1) ((fX6_putAll hs σ σr n o η t).2.2.2.2.1) ((fX6_putAll hs σ σr n o η t).2.2.2.2.2.1) ++ wTx E xa ((fX6_putAll hs σ σr n o η t).2.2.2.2.2.2)))))) := by
  refine KQ.mk RX6 rfl (by decide +kernel) (Nat.le_of_ble_eq_true rfl) ?_
  intro p e s m below meth c ls X hr w hl
  have hx := X.1
  have hb := X.2.1
  have hl : lv_has ls 5 [(0, .ref h)] := hl
  refine lv_aload_n hx hb dX6_putAll_0 rfl (lv_at hl 0 rfl) ?_
  refine r_get X w CL6 4 (by decide) wf_X6_32 0 rfl rfl dX6_putAll_1 ?_
  refine r_ci w (r_runV (As := []) (rest := []) X w (kX0_read l E xa t ) ck_X6_61 ⟨Nat.le_of_ble_eq_true rfl, Nat.le_of_ble_eq_true rfl⟩ [57, 58, 59, 60] (hc_68 (E := E)) (by decide +kernel) (k0 := 0) CL0 rfl hl.1 (Nat.le_of_ble_eq_true rfl) rfl dX6_putAll_4 ⟨Nat.le_of_ble_eq_true rfl, Nat.le_of_ble_eq_true rfl⟩) (wHb h (sa 0) p1 (ra 0) (ya 0) (xa 0) p5 hs ++ (wSt E sa σ ++ (wSt E ra σr ++ (wHs E ya hh n o η ++ wTx E xa ((fX0_read t).2))))) [57, 58, 59, 60] (hc_68 (E := E)) (by decide +kernel) (ha_68 (E := E)) (hw_68 (E := E)) (fun H locs w => ?_)
  refine lv_istore_n (lv' := [(1, .int ((fX0_read t).1)), (0, .ref h)]) hx hb dX6_putAll_7 rfl hl (by decide) rfl (fun ls hl => ?_)
  refine lv_iload_n hx hb dX6_putAll_8 rfl (lv_at hl 0 rfl) ?_
  refine lv_iconst (v := (-1)) hx hb dX6_putAll_9 (by decide) ?_
  refine lv_icmp_eq (tgt := 18) hx hb dX6_putAll_10 (by decide) (fun c10_1 => ?_) (fun c10_1 => ?_)
  · refine lv_aload_n hx hb dX6_putAll_18 rfl (lv_at hl 1 rfl) ?_
    refine r_get X w CL6 2 (by decide) wf_X6_19 0 rfl rfl dX6_putAll_19 ?_
    refine lv_aload_n hx hb dX6_putAll_22 rfl (lv_at hl 1 rfl) ?_
    refine r_get X w CL6 0 (by decide) wf_X6_10 0 rfl rfl dX6_putAll_23 ?_
    refine r_cv w (r_runV (As := [.ref (sa 0)]) (rest := []) X w (kX4_copyFrom l E ra σr sa σ ) ck_X6_65 ⟨Nat.le_of_ble_eq_true rfl, Nat.le_of_ble_eq_true rfl⟩ [10, 11, 12, 13, 14, 15, 16, 17, 18, 1, 2, 3, 4, 5, 6, 7, 8, 9] (hc_69 (E := E)) (by decide +kernel) (k0 := 0) CL4 rfl hl.1 (Nat.le_of_ble_eq_true rfl) rfl dX6_putAll_26 ⟨Nat.le_of_ble_eq_true rfl, Nat.le_of_ble_eq_true rfl⟩) (wHb h (sa 0) p1 (ra 0) (ya 0) (xa 0) p5 hs ++ (wSt E sa σ ++ (wSt E ra (fX4_copyFrom σr σ) ++ (wHs E ya hh n o η ++ wTx E xa ((fX0_read t).2))))) [10, 11, 12, 13, 14, 15, 16, 17, 18, 1, 2, 3, 4, 5, 6, 7, 8, 9] (hc_69 (E := E)) (by decide +kernel) (ha_69 (E := E)) (hw_69 (E := E)) (fun H locs w => ?_)
    refine lv_iconst (v := 0) hx hb dX6_putAll_29 (by decide) ?_
    refine lv_istore_n (lv' := [(2, .int 0), (1, .int ((fX0_read t).1)), (0, .ref h)]) hx hb dX6_putAll_30 rfl hl (by decide) rfl (fun ls hl => ?_)
    have loop : ∀ (n1 k : Nat), k + n1 = ((fX0_read t).2 3 1).toNatClampNeg → ∀ (σ1 : N2), paN (fX0_read t).2 n1 k σ1 = paN (fX0_read t).2 ((fX0_read t).2 3 1).toNatClampNeg 0 σ → ∀ (H : Heap) (locs : List Loc), Wd E (hB (wHb h (sa 0) p1 (ra 0) (ya 0) (xa 0) p5 hs ++ (wSt E sa σ ++ (wSt E ra σr ++ (wHs E ya hh n o η ++ wTx E xa t))))) s (wHb h (sa 0) p1 (ra 0) (ya 0) (xa 0) p5 hs ++ (wSt E sa σ ++ (wSt E ra σ1 ++ (wHs E ya hh n o η ++ wTx E xa ((fX0_read t).2))))) H locs → ∀ (ls : Array Slot), lv_has ls 5 [(2, .int (nI k)), (1, .int ((fX0_read t).1)), (0, .ref h)] → W p l e { frames := 4, cells := 0, slots := 0, locals := 102 } s m (([.ref h] : List Value)).toArray below meth c H locs 0 0 (MQ below (QI E (wHb h (sa 0) p1 (ra 0) (ya 0) (xa 0) p5 hs ++ (wSt E sa σ ++ (wSt E ra σr ++ (wHs E ya hh n o η ++ wTx E xa t)))) (fX6_putAll hs σ σr n o η t).1 (wHb h (sa 0) p1 (ra 0) (ya 0) (xa 0) p5 hs ++ (wSt E sa ((fX6_putAll hs σ σr n o η t).2.1) ++ (wSt E ra ((fX6_putAll hs σ σr n o η t).2.2.1) ++ (wHs E ya hh ((fX6_putAll hs σ σr n o η t).2.2.2.1) ((fX6_putAll hs σ σr n o η t).2.2.2.2.1) ((fX6_putAll hs σ σr n o η t).2.2.2.2.2.1) ++ wTx E xa ((fX6_putAll hs σ σr n o η t).2.2.2.2.2.2)))))) (([.ref h] : List Value)).toArray s 0 0 (hB (wHb h (sa 0) p1 (ra 0) (ya 0) (xa 0) p5 hs ++ (wSt E sa σ ++ (wSt E ra σr ++ (wHs E ya hh n o η ++ wTx E xa t)))))) (F0 m 31 ls []) := by
      intro n1
      induction n1 with
      | zero =>
        intro k hk_k σ1 hR H locs w ls hl
        obtain rfl : ((fX0_read t).2 3 1).toNatClampNeg = k := by omega
        refine lv_iload_n hx hb dX6_putAll_31 rfl (lv_at hl 0 rfl) ?_
        refine lv_aload_n hx hb dX6_putAll_32 rfl (lv_at hl 2 rfl) ?_
        refine r_get X w CL6 4 (by decide) wf_X6_32 0 rfl rfl dX6_putAll_33 ?_
        refine r_getN X w CL0 4 (by decide) nl_23 57 rfl rfl dX6_putAll_36 ?_
        refine lv_icmp_ge (tgt := 94) hx hb dX6_putAll_39 (by decide) (fun _ => ?_) (fun h => absurd (le_cl _) h)
        refine lv_aload_n hx hb dX6_putAll_94 rfl (lv_at hl 2 rfl) ?_
        refine r_get X w CL6 3 (by decide) wf_X6_25 0 rfl rfl dX6_putAll_95 ?_
        refine lv_aload_n hx hb dX6_putAll_98 rfl (lv_at hl 2 rfl) ?_
        refine r_get X w CL6 0 (by decide) wf_X6_10 0 rfl rfl dX6_putAll_99 ?_
        refine r_cv w (r_runV (As := [.ref (sa 0)]) (rest := []) X w (kX2_record l E ya hh n o η sa σ ) ck_X6_53 ⟨Nat.le_of_ble_eq_true rfl, Nat.le_of_ble_eq_true rfl⟩ [19, 20, 21, 22, 23, 24, 25, 26, 27, 28, 29, 30, 31, 32, 33, 34, 35, 36, 37, 38, 39, 40, 41, 42, 43, 44, 45, 46, 47, 48, 49, 50, 51, 52, 53, 54, 55, 56, 1, 2, 3, 4, 5, 6, 7, 8, 9] (hc_70 (E := E)) (by decide +kernel) (k0 := 0) CL2 rfl hl.1 (Nat.le_of_ble_eq_true rfl) rfl dX6_putAll_102 ⟨Nat.le_of_ble_eq_true rfl, Nat.le_of_ble_eq_true rfl⟩) (wHb h (sa 0) p1 (ra 0) (ya 0) (xa 0) p5 hs ++ (wSt E sa σ ++ (wSt E ra σ1 ++ (wHs E ya hh ((fX2_record n o η σ).1) ((fX2_record n o η σ).2.1) ((fX2_record n o η σ).2.2) ++ wTx E xa ((fX0_read t).2))))) [19, 20, 21, 22, 23, 24, 25, 26, 27, 28, 29, 30, 31, 32, 33, 34, 35, 36, 37, 38, 39, 40, 41, 42, 43, 44, 45, 46, 47, 48, 49, 50, 51, 52, 53, 54, 55, 56, 1, 2, 3, 4, 5, 6, 7, 8, 9] (hc_70 (E := E)) (by decide +kernel) (ha_70 (E := E)) (hw_70 (E := E)) (fun H locs w => ?_)
        refine lv_aload_n hx hb dX6_putAll_105 rfl (lv_at hl 2 rfl) ?_
        refine r_get X w CL6 0 (by decide) wf_X6_10 0 rfl rfl dX6_putAll_106 ?_
        refine lv_aload_n hx hb dX6_putAll_109 rfl (lv_at hl 2 rfl) ?_
        refine r_get X w CL6 2 (by decide) wf_X6_19 0 rfl rfl dX6_putAll_110 ?_
        refine r_cv w (r_runV (As := [.ref (ra 0)]) (rest := []) X w (kX4_copyFrom l E sa σ ra σ1 ) ck_X6_65 ⟨Nat.le_of_ble_eq_true rfl, Nat.le_of_ble_eq_true rfl⟩ [1, 2, 3, 4, 5, 6, 7, 8, 9, 10, 11, 12, 13, 14, 15, 16, 17, 18] (hc_71 (E := E)) (by decide +kernel) (k0 := 0) CL4 rfl hl.1 (Nat.le_of_ble_eq_true rfl) rfl dX6_putAll_113 ⟨Nat.le_of_ble_eq_true rfl, Nat.le_of_ble_eq_true rfl⟩) (wHb h (sa 0) p1 (ra 0) (ya 0) (xa 0) p5 hs ++ (wSt E sa (fX4_copyFrom σ σ1) ++ (wSt E ra σ1 ++ (wHs E ya hh ((fX2_record n o η σ).1) ((fX2_record n o η σ).2.1) ((fX2_record n o η σ).2.2) ++ wTx E xa ((fX0_read t).2))))) [1, 2, 3, 4, 5, 6, 7, 8, 9, 10, 11, 12, 13, 14, 15, 16, 17, 18] (hc_71 (E := E)) (by decide +kernel) (ha_71 (E := E)) (hw_71 (E := E)) (fun H locs w => ?_)
        refine lv_aload_n hx hb dX6_putAll_116 rfl (lv_at hl 2 rfl) ?_
        refine r_get X w CL6 4 (by decide) wf_X6_32 0 rfl rfl dX6_putAll_117 ?_
        refine r_getN X w CL0 4 (by decide) nl_23 57 rfl rfl dX6_putAll_120 ?_
        have hq : fX6_putAll hs σ σr n o η t = (((fX0_read t).2) 3 1, (fX4_copyFrom σ σ1), σ1, (fX2_record n o η σ).1, (fX2_record n o η σ).2.1, (fX2_record n o η σ).2.2, (fX0_read t).2) := by have hq2 := hR; simp only [paN] at hq2; simp only [fX6_putAll, if_pos c10_1, ← hq2, if_true, fX4_copyFrom]
        obtain ⟨h0_, h1_, h2_, h3_, h4_, h5_, h6_⟩ := tup7 hq
        rw [h0_, h1_, h2_, h3_, h4_, h5_, h6_]
        exact r_iret X w hr rfl dX6_putAll_123
      | succ n1 ih =>
        intro k hk_k σ1 hR H locs w ls hl
        have hkNn1 : k < ((fX0_read t).2 3 1).toNatClampNeg := by omega
        refine lv_iload_n hx hb dX6_putAll_31 rfl (lv_at hl 0 rfl) ?_
        refine lv_aload_n hx hb dX6_putAll_32 rfl (lv_at hl 2 rfl) ?_
        refine r_get X w CL6 4 (by decide) wf_X6_32 0 rfl rfl dX6_putAll_33 ?_
        refine r_getN X w CL0 4 (by decide) nl_23 57 rfl rfl dX6_putAll_36 ?_
        refine lv_icmp_ge (tgt := 94) hx hb dX6_putAll_39 (by decide) (fun h => absurd h (lt_cl hkNn1)) (fun _ => ?_)
        refine lv_aload_n hx hb dX6_putAll_42 rfl (lv_at hl 2 rfl) ?_
        refine r_get X w CL6 4 (by decide) wf_X6_32 0 rfl rfl dX6_putAll_43 ?_
        refine lv_iload_n hx hb dX6_putAll_46 rfl (lv_at hl 0 rfl) ?_
        refine r_ci w (r_runV (As := [.int (nI k)]) (rest := []) X w (kX0_cellOfBall l E xa ((fX0_read t).2) (nI k) ) ck_X6_72 ⟨Nat.le_of_ble_eq_true rfl, Nat.le_of_ble_eq_true rfl⟩ [57, 58, 59, 60] (hc_68 (E := E)) (by decide +kernel) (k0 := 0) CL0 rfl hl.1 (Nat.le_of_ble_eq_true rfl) rfl dX6_putAll_47 ⟨Nat.le_of_ble_eq_true rfl, Nat.le_of_ble_eq_true rfl⟩) (wHb h (sa 0) p1 (ra 0) (ya 0) (xa 0) p5 hs ++ (wSt E sa σ ++ (wSt E ra σ1 ++ (wHs E ya hh n o η ++ wTx E xa ((fX0_read t).2))))) [57, 58, 59, 60] (hc_68 (E := E)) (by decide +kernel) (ha_68 (E := E)) (hw_68 (E := E)) (fun H locs w => ?_)
        refine lv_istore_n (lv' := [(3, .int (fX0_cellOfBall ((fX0_read t).2) (nI k))), (2, .int (nI k)), (1, .int ((fX0_read t).1)), (0, .ref h)]) hx hb dX6_putAll_50 rfl hl (by decide) rfl (fun ls hl => ?_)
        refine lv_aload_n hx hb dX6_putAll_51 rfl (lv_at hl 3 rfl) ?_
        refine r_get X w CL6 2 (by decide) wf_X6_19 0 rfl rfl dX6_putAll_52 ?_
        refine lv_iload_n hx hb dX6_putAll_55 rfl (lv_at hl 0 rfl) ?_
        refine r_ci w (r_runV (As := [.int (fX0_cellOfBall ((fX0_read t).2) (nI k))]) (rest := []) X w (kX4_refusalToAdd l E ra σ1 (fX0_cellOfBall ((fX0_read t).2) (nI k)) ) ck_X6_49 ⟨Nat.le_of_ble_eq_true rfl, Nat.le_of_ble_eq_true rfl⟩ [10, 11, 12, 13, 14, 15, 16, 17, 18] (hc_72 (E := E)) (by decide +kernel) (k0 := 0) CL4 rfl hl.1 (Nat.le_of_ble_eq_true rfl) rfl dX6_putAll_56 ⟨Nat.le_of_ble_eq_true rfl, Nat.le_of_ble_eq_true rfl⟩) (wHb h (sa 0) p1 (ra 0) (ya 0) (xa 0) p5 hs ++ (wSt E sa σ ++ (wSt E ra σ1 ++ (wHs E ya hh n o η ++ wTx E xa ((fX0_read t).2))))) [10, 11, 12, 13, 14, 15, 16, 17, 18] (hc_72 (E := E)) (by decide +kernel) (ha_72 (E := E)) (hw_72 (E := E)) (fun H locs w => ?_)
        refine lv_istore (lv' := [(4, .int (fX4_refusalToAdd σ1 (fX0_cellOfBall ((fX0_read t).2) (nI k)))), (3, .int (fX0_cellOfBall ((fX0_read t).2) (nI k))), (2, .int (nI k)), (1, .int ((fX0_read t).1)), (0, .ref h)]) hx hb dX6_putAll_59 hl (by decide) rfl (fun ls hl => ?_)
        refine lv_iload hx hb dX6_putAll_61 (lv_at hl 0 rfl) ?_
        refine lv_bipush (v := (-5)) hx hb dX6_putAll_63 (by decide) ?_
        refine lv_icmp_eq (tgt := 71) hx hb dX6_putAll_65 (by decide) (fun c65_4 => ?_) (fun c65_4 => ?_)
        · refine lv_aload_n hx hb dX6_putAll_71 rfl (lv_at hl 4 rfl) ?_
          refine r_get X w CL6 2 (by decide) wf_X6_19 0 rfl rfl dX6_putAll_72 ?_
          refine lv_iload_n hx hb dX6_putAll_75 rfl (lv_at hl 1 rfl) ?_
          refine lv_aload_n hx hb dX6_putAll_76 rfl (lv_at hl 4 rfl) ?_
          refine r_get X w CL6 4 (by decide) wf_X6_32 0 rfl rfl dX6_putAll_77 ?_
          refine lv_iload_n hx hb dX6_putAll_80 rfl (lv_at hl 2 rfl) ?_
          refine r_ci w (r_runV (As := [.int (nI k)]) (rest := [.int (fX0_cellOfBall ((fX0_read t).2) (nI k)), .ref (ra 0)]) X w (kX0_valueOfBall l E xa ((fX0_read t).2) (nI k) ) ck_X6_75 ⟨Nat.le_of_ble_eq_true rfl, Nat.le_of_ble_eq_true rfl⟩ [57, 58, 59, 60] (hc_68 (E := E)) (by decide +kernel) (k0 := 0) CL0 rfl hl.1 (Nat.le_of_ble_eq_true rfl) rfl dX6_putAll_81 ⟨Nat.le_of_ble_eq_true rfl, Nat.le_of_ble_eq_true rfl⟩) (wHb h (sa 0) p1 (ra 0) (ya 0) (xa 0) p5 hs ++ (wSt E sa σ ++ (wSt E ra σ1 ++ (wHs E ya hh n o η ++ wTx E xa ((fX0_read t).2))))) [57, 58, 59, 60] (hc_68 (E := E)) (by decide +kernel) (ha_68 (E := E)) (hw_68 (E := E)) (fun H locs w => ?_)
          refine r_ci w (r_runV (As := [.int (fX0_cellOfBall ((fX0_read t).2) (nI k)), .int (fX0_valueOfBall ((fX0_read t).2) (nI k))]) (rest := []) X w (kX4_addBall l E ra σ1 (fX0_cellOfBall ((fX0_read t).2) (nI k)) (fX0_valueOfBall ((fX0_read t).2) (nI k)) ) ck_X6_57 ⟨Nat.le_of_ble_eq_true rfl, Nat.le_of_ble_eq_true rfl⟩ [10, 11, 12, 13, 14, 15, 16, 17, 18] (hc_72 (E := E)) (by decide +kernel) (k0 := 0) CL4 rfl hl.1 (Nat.le_of_ble_eq_true rfl) rfl dX6_putAll_84 ⟨Nat.le_of_ble_eq_true rfl, Nat.le_of_ble_eq_true rfl⟩) (wHb h (sa 0) p1 (ra 0) (ya 0) (xa 0) p5 hs ++ (wSt E sa σ ++ (wSt E ra ((fX4_addBall σ1 (fX0_cellOfBall ((fX0_read t).2) (nI k)) (fX0_valueOfBall ((fX0_read t).2) (nI k))).2) ++ (wHs E ya hh n o η ++ wTx E xa ((fX0_read t).2))))) [10, 11, 12, 13, 14, 15, 16, 17, 18] (hc_72 (E := E)) (by decide +kernel) (ha_72 (E := E)) (hw_72 (E := E)) (fun H locs w => ?_)
          refine lv_pop hx hb dX6_putAll_87 rfl ?_
          refine lv_iinc (v := (nI k) + 1) (lv' := [(2, .int ((nI k) + 1)), (4, .int (fX4_refusalToAdd σ1 (fX0_cellOfBall ((fX0_read t).2) (nI k)))), (3, .int (fX0_cellOfBall ((fX0_read t).2) (nI k))), (1, .int ((fX0_read t).1)), (0, .ref h)]) hx hb dX6_putAll_88 hl (k := 2) rfl (by first | rfl | decide) (by decide) rfl (fun ls hl => ?_)
          refine lv_goto (tgt := 31) hx hb dX6_putAll_91 (by decide) ?_
          have e0 : nI k + 1 = nI (k + 1) := nI_1 k
          rw [e0] at hl
          exact ih (k + 1) (by omega) _ (by rw [← hR]; simp only [paN, if_pos c65_4]) _ _ w ls (lv_sub hl [0, 3, 4] rfl)
        · refine lv_iload hx hb dX6_putAll_68 (lv_at hl 0 rfl) ?_
          have hq : fX6_putAll hs σ σr n o η t = ((fX4_refusalToAdd σ1 (fX0_cellOfBall ((fX0_read t).2) (nI k))), σ, σ1, n, o, η, (fX0_read t).2) := by have hq2 := hR; simp only [paN, if_neg c65_4] at hq2; simp only [fX6_putAll, if_pos c10_1, ← hq2, if_neg c65_4, fX4_copyFrom]
          obtain ⟨h0_, h1_, h2_, h3_, h4_, h5_, h6_⟩ := tup7 hq
          rw [h0_, h1_, h2_, h3_, h4_, h5_, h6_]
          exact r_iret X w hr rfl dX6_putAll_70
    exact loop (((fX0_read t).2 3 1).toNatClampNeg) 0 (by omega) _ rfl _ _ w ls (lv_sub hl [0, 1, 2] rfl)
  · refine lv_bipush (v := (-100)) hx hb dX6_putAll_13 (by decide) ?_
    refine lv_iload_n hx hb dX6_putAll_15 rfl (lv_at hl 0 rfl) ?_
    refine lv_isub hx hb dX6_putAll_16 ?_
    have hq : fX6_putAll hs σ σr n o η t = ((-100) - ((fX0_read t).1), σ, σr, n, o, η, (fX0_read t).2) := by simp only [fX6_putAll, if_neg c10_1]
    obtain ⟨h0_, h1_, h2_, h3_, h4_, h5_, h6_⟩ := tup7 hq
    rw [h0_, h1_, h2_, h3_, h4_, h5_, h6_]
    exact r_iret X w hr rfl dX6_putAll_17
abbrev B7 : Type := Int32 × Int32 × Int32 × N2 × N1 × UInt32 × N1
/-- the directions of one ball tried, from j on -/
def bsI (hs : Int32) (σ : N2) (sg sn : Int32) : Nat → Nat → Nat → B7 → B7
  | 0, _, _, s => s
  | n + 1, j, k, s => if fX4_hasBall σ (nI k) = 0 then s else
      if fX4_valueOfBall σ ((fX6_tryShot hs σ s.2.2.2.1 s.2.2.2.2.1 s.2.2.2.2.2.1 s.2.2.2.2.2.2 (nI k) (nI j) sg sn).2.1 6) ≤ s.1 then
        bsI hs σ sg sn n (j + 1) k (s.1, s.2.1, s.2.2.1, fX6_tryShot hs σ s.2.2.2.1 s.2.2.2.2.1 s.2.2.2.2.2.1 s.2.2.2.2.2.2 (nI k) (nI j) sg sn)
      else bsI hs σ sg sn n (j + 1) k (fX4_valueOfBall σ ((fX6_tryShot hs σ s.2.2.2.1 s.2.2.2.2.1 s.2.2.2.2.2.1 s.2.2.2.2.2.2 (nI k) (nI j) sg sn).2.1 6), nI k, nI j, fX6_tryShot hs σ s.2.2.2.1 s.2.2.2.2.1 s.2.2.2.2.2.1 s.2.2.2.2.2.2 (nI k) (nI j) sg sn)
def bsO (hs : Int32) (σ : N2) (sg sn : Int32) : Nat → Nat → B7 → B7
  | 0, _, s => s
  | n + 1, k, s => bsO hs σ sg sn n (k + 1) (bsI hs σ sg sn 6 0 k s)
def fX6_best (hs : Int32) (σ : N2) (σr : N2) (z : N1) (sp : UInt32) (d : N1) (sg sn wt : Int32) : Int32 × N2 × N1 × UInt32 × N1 :=
  if fX6_isForce sg sn = 0 then ((-2), σr, z, sp, d) else if wt < 0 then ((-2), σr, z, sp, d) else if wt ≤ 2 then
    (if wt = 0 then (bsO hs σ sg sn 12 0 (0, (-5), (-5), σr, z, sp, d)).2.1 else if wt = 1 then (bsO hs σ sg sn 12 0 (0, (-5), (-5), σr, z, sp, d)).2.2.1 else if (bsO hs σ sg sn 12 0 (0, (-5), (-5), σr, z, sp, d)).1 ≤ 0 then (-5) else (bsO hs σ sg sn 12 0 (0, (-5), (-5), σr, z, sp, d)).1, (bsO hs σ sg sn 12 0 (0, (-5), (-5), σr, z, sp, d)).2.2.2)
  else ((-2), σr, z, sp, d)
theorem dX6_best_0 : decode cX6_best 0 = .ok (.iload_n 1, 1) := by decide +kernel
theorem dX6_best_1 : decode cX6_best 1 = .ok (.iload_n 2, 1) := by decide +kernel
theorem dX6_best_2 : decode cX6_best 2 = .ok (.invokestatic 232, 3) := by decide +kernel
theorem dX6_best_5 : decode cX6_best 5 = .ok (.ifCond .eq 12, 3) := by decide +kernel
theorem dX6_best_8 : decode cX6_best 8 = .ok (.iload_n 3, 1) := by decide +kernel
theorem dX6_best_9 : decode cX6_best 9 = .ok (.ifCond .lt 8, 3) := by decide +kernel
theorem dX6_best_12 : decode cX6_best 12 = .ok (.iload_n 3, 1) := by decide +kernel
theorem dX6_best_13 : decode cX6_best 13 = .ok (.iconst 2, 1) := by decide +kernel
theorem dX6_best_14 : decode cX6_best 14 = .ok (.if_icmp .le 6, 3) := by decide +kernel
theorem dX6_best_17 : decode cX6_best 17 = .ok (.bipush (-2), 2) := by decide +kernel
theorem dX6_best_19 : decode cX6_best 19 = .ok (.ireturn, 1) := by decide +kernel
theorem dX6_best_20 : decode cX6_best 20 = .ok (.iconst 0, 1) := by decide +kernel
theorem dX6_best_21 : decode cX6_best 21 = .ok (.istore 4, 2) := by decide +kernel
theorem dX6_best_23 : decode cX6_best 23 = .ok (.bipush (-5), 2) := by decide +kernel
theorem dX6_best_25 : decode cX6_best 25 = .ok (.istore 5, 2) := by decide +kernel
theorem dX6_best_27 : decode cX6_best 27 = .ok (.bipush (-5), 2) := by decide +kernel
theorem dX6_best_29 : decode cX6_best 29 = .ok (.istore 6, 2) := by decide +kernel
theorem dX6_best_31 : decode cX6_best 31 = .ok (.iconst 0, 1) := by decide +kernel
theorem dX6_best_32 : decode cX6_best 32 = .ok (.istore 7, 2) := by decide +kernel
theorem dX6_best_34 : decode cX6_best 34 = .ok (.iload 7, 2) := by decide +kernel
theorem dX6_best_36 : decode cX6_best 36 = .ok (.bipush 12, 2) := by decide +kernel
theorem dX6_best_38 : decode cX6_best 38 = .ok (.if_icmp .ge 82, 3) := by decide +kernel
theorem dX6_best_41 : decode cX6_best 41 = .ok (.iconst 0, 1) := by decide +kernel
theorem dX6_best_42 : decode cX6_best 42 = .ok (.istore 8, 2) := by decide +kernel
theorem dX6_best_44 : decode cX6_best 44 = .ok (.iload 8, 2) := by decide +kernel
theorem dX6_best_46 : decode cX6_best 46 = .ok (.bipush 6, 2) := by decide +kernel
theorem dX6_best_48 : decode cX6_best 48 = .ok (.if_icmp .ge 66, 3) := by decide +kernel
theorem dX6_best_51 : decode cX6_best 51 = .ok (.aload_n 0, 1) := by decide +kernel
theorem dX6_best_52 : decode cX6_best 52 = .ok (.getfield 10, 3) := by decide +kernel
theorem dX6_best_55 : decode cX6_best 55 = .ok (.iload 7, 2) := by decide +kernel
theorem dX6_best_57 : decode cX6_best 57 = .ok (.invokevirtual 78, 3) := by decide +kernel
theorem dX6_best_60 : decode cX6_best 60 = .ok (.ifCond .eq 54, 3) := by decide +kernel
theorem dX6_best_63 : decode cX6_best 63 = .ok (.aload_n 0, 1) := by decide +kernel
theorem dX6_best_64 : decode cX6_best 64 = .ok (.iload 7, 2) := by decide +kernel
theorem dX6_best_66 : decode cX6_best 66 = .ok (.iload 8, 2) := by decide +kernel
theorem dX6_best_68 : decode cX6_best 68 = .ok (.iload_n 1, 1) := by decide +kernel
theorem dX6_best_69 : decode cX6_best 69 = .ok (.iload_n 2, 1) := by decide +kernel
theorem dX6_best_70 : decode cX6_best 70 = .ok (.invokevirtual 184, 3) := by decide +kernel
theorem dX6_best_73 : decode cX6_best 73 = .ok (.aload_n 0, 1) := by decide +kernel
theorem dX6_best_74 : decode cX6_best 74 = .ok (.getfield 10, 3) := by decide +kernel
theorem dX6_best_77 : decode cX6_best 77 = .ok (.aload_n 0, 1) := by decide +kernel
theorem dX6_best_78 : decode cX6_best 78 = .ok (.getfield 39, 3) := by decide +kernel
theorem dX6_best_81 : decode cX6_best 81 = .ok (.getfield 120, 3) := by decide +kernel
theorem dX6_best_84 : decode cX6_best 84 = .ok (.invokevirtual 123, 3) := by decide +kernel
theorem dX6_best_87 : decode cX6_best 87 = .ok (.istore 9, 2) := by decide +kernel
theorem dX6_best_89 : decode cX6_best 89 = .ok (.iload 9, 2) := by decide +kernel
theorem dX6_best_91 : decode cX6_best 91 = .ok (.iload 4, 2) := by decide +kernel
theorem dX6_best_93 : decode cX6_best 93 = .ok (.if_icmp .le 15, 3) := by decide +kernel
theorem dX6_best_96 : decode cX6_best 96 = .ok (.iload 9, 2) := by decide +kernel
theorem dX6_best_98 : decode cX6_best 98 = .ok (.istore 4, 2) := by decide +kernel
theorem dX6_best_100 : decode cX6_best 100 = .ok (.iload 7, 2) := by decide +kernel
theorem dX6_best_102 : decode cX6_best 102 = .ok (.istore 5, 2) := by decide +kernel
theorem dX6_best_104 : decode cX6_best 104 = .ok (.iload 8, 2) := by decide +kernel
theorem dX6_best_106 : decode cX6_best 106 = .ok (.istore 6, 2) := by decide +kernel
theorem dX6_best_108 : decode cX6_best 108 = .ok (.iinc 8 1, 3) := by decide +kernel
theorem dX6_best_111 : decode cX6_best 111 = .ok (.goto (-67), 3) := by decide +kernel
theorem dX6_best_114 : decode cX6_best 114 = .ok (.iinc 7 1, 3) := by decide +kernel
theorem dX6_best_117 : decode cX6_best 117 = .ok (.goto (-83), 3) := by decide +kernel
theorem dX6_best_120 : decode cX6_best 120 = .ok (.iload_n 3, 1) := by decide +kernel
theorem dX6_best_121 : decode cX6_best 121 = .ok (.lookupswitch 33 #[(0, 27), (1, 30)], 27) := by decide +kernel
theorem dX6_best_148 : decode cX6_best 148 = .ok (.iload 5, 2) := by decide +kernel
theorem dX6_best_150 : decode cX6_best 150 = .ok (.ireturn, 1) := by decide +kernel
theorem dX6_best_151 : decode cX6_best 151 = .ok (.iload 6, 2) := by decide +kernel
theorem dX6_best_153 : decode cX6_best 153 = .ok (.ireturn, 1) := by decide +kernel
theorem dX6_best_154 : decode cX6_best 154 = .ok (.iload 4, 2) := by decide +kernel
theorem dX6_best_156 : decode cX6_best 156 = .ok (.ifCond .le 8, 3) := by decide +kernel
theorem dX6_best_159 : decode cX6_best 159 = .ok (.iload 4, 2) := by decide +kernel
theorem dX6_best_161 : decode cX6_best 161 = .ok (.goto 5, 3) := by decide +kernel
theorem dX6_best_164 : decode cX6_best 164 = .ok (.bipush (-5), 2) := by decide +kernel
theorem dX6_best_166 : decode cX6_best 166 = .ok (.ireturn, 1) := by decide +kernel
set_option maxHeartbeats 4000000 in
set_option maxRecDepth 100000 in
theorem kX6_best (l : Launch) (E : Ev) (h : Nat) (p1 : Nat) (p3 : Nat) (p4 : Nat) (k : Nat) (hs : Int32) (sa : Nat → Nat) (σ : N2) (ra : Nat → Nat) (σr : N2) (j : Nat) (z : N1) (sp : UInt32) (d : N1) (sg : Int32) (sn : Int32) (wt : Int32) (gs : gset σ) : KQ l yX6_best cX6_best 10 (some .int) 6 143 E [.ref h, .int sg, .int sn, .int wt] (wHb h (sa 0) p1 (ra 0) p3 p4 k hs ++ (wSt E sa σ ++ (wSt E ra σr ++ (wSh k j z sp ++ wWk j d)))) (QI E (wHb h (sa 0) p1 (ra 0) p3 p4 k hs ++ (wSt E sa σ ++ (wSt E ra σr ++ (wSh k j z sp ++ wWk j d)))) (fX6_best hs σ σr z sp d sg sn wt).1 (wHb h (sa 0) p1 (ra 0) p3 p4 k hs ++ (wSt E sa σ ++ (wSt E ra ((fX6_best hs σ σr z sp d sg sn wt).2.1) ++ (wSh k j ((fX6_best hs σ σr z sp d sg sn wt).2.2.1) ((fX6_best hs σ σr z sp d sg sn wt).2.2.2.1) ++ wWk j ((fX6_best hs σ σr z sp d sg sn wt).2.2.2.2)))))) := by
  refine KQ.mk RX6 rfl (by decide +kernel) (Nat.le_of_ble_eq_true rfl) ?_
  intro p e s m below meth c ls X hr w hl
  have hx := X.1
  have hb := X.2.1
  have hl : lv_has ls 10 [(0, .ref h), (1, .int sg), (2, .int sn), (3, .int wt)] := hl
  refine lv_iload_n hx hb dX6_best_0 rfl (lv_at hl 1 rfl) ?_
  refine lv_iload_n hx hb dX6_best_1 rfl (lv_at hl 2 rfl) ?_
  refine r_ci w (r_runS (As := [.int sg, .int sn]) (rest := []) X w (kX6_isForce l E sg sn ) ck_X6_232 ⟨Nat.le_of_ble_eq_true rfl, Nat.le_of_ble_eq_true rfl⟩ [] rfl (by decide +kernel) hl.1 (Nat.le_of_ble_eq_true rfl) rfl dX6_best_2 ⟨Nat.le_of_ble_eq_true rfl, Nat.le_of_ble_eq_true rfl⟩) (wHb h (sa 0) p1 (ra 0) p3 p4 k hs ++ (wSt E sa σ ++ (wSt E ra σr ++ (wSh k j z sp ++ wWk j d)))) [] rfl (by decide +kernel) rfl rfl (fun H locs w => ?_)
  refine lv_if_eq (tgt := 17) hx hb dX6_best_5 (by decide) (fun c5_1 => ?_) (fun c5_1 => ?_)
  · refine lv_bipush (v := (-2)) hx hb dX6_best_17 (by decide) ?_
    have hq : fX6_best hs σ σr z sp d sg sn wt = ((-2), σr, z, sp, d) := by simp only [fX6_best, if_pos c5_1]
    obtain ⟨h0_, h1_, h2_, h3_, h4_⟩ := tup5 hq
    rw [h0_, h1_, h2_, h3_, h4_]
    exact r_iret X w hr rfl dX6_best_19
  · refine lv_iload_n hx hb dX6_best_8 rfl (lv_at hl 3 rfl) ?_
    refine lv_if_lt (tgt := 17) hx hb dX6_best_9 (by decide) (fun c9_2 => ?_) (fun c9_2 => ?_)
    · refine lv_bipush (v := (-2)) hx hb dX6_best_17 (by decide) ?_
      have hq : fX6_best hs σ σr z sp d sg sn wt = ((-2), σr, z, sp, d) := by simp only [fX6_best, if_neg c5_1, if_pos c9_2]
      obtain ⟨h0_, h1_, h2_, h3_, h4_⟩ := tup5 hq
      rw [h0_, h1_, h2_, h3_, h4_]
      exact r_iret X w hr rfl dX6_best_19
    · refine lv_iload_n hx hb dX6_best_12 rfl (lv_at hl 3 rfl) ?_
      refine lv_iconst (v := 2) hx hb dX6_best_13 (by decide) ?_
      refine lv_icmp_le (tgt := 20) hx hb dX6_best_14 (by decide) (fun c14_3 => ?_) (fun c14_3 => ?_)
      · refine lv_iconst (v := 0) hx hb dX6_best_20 (by decide) ?_
        refine lv_istore (lv' := [(4, .int 0), (0, .ref h), (1, .int sg), (2, .int sn), (3, .int wt)]) hx hb dX6_best_21 hl (by decide) rfl (fun ls hl => ?_)
        refine lv_bipush (v := (-5)) hx hb dX6_best_23 (by decide) ?_
        refine lv_istore (lv' := [(5, .int (-5)), (4, .int 0), (0, .ref h), (1, .int sg), (2, .int sn), (3, .int wt)]) hx hb dX6_best_25 hl (by decide) rfl (fun ls hl => ?_)
        refine lv_bipush (v := (-5)) hx hb dX6_best_27 (by decide) ?_
        refine lv_istore (lv' := [(6, .int (-5)), (5, .int (-5)), (4, .int 0), (0, .ref h), (1, .int sg), (2, .int sn), (3, .int wt)]) hx hb dX6_best_29 hl (by decide) rfl (fun ls hl => ?_)
        refine lv_iconst (v := 0) hx hb dX6_best_31 (by decide) ?_
        refine lv_istore (lv' := [(7, .int 0), (6, .int (-5)), (5, .int (-5)), (4, .int 0), (0, .ref h), (1, .int sg), (2, .int sn), (3, .int wt)]) hx hb dX6_best_32 hl (by decide) rfl (fun ls hl => ?_)
        have loop : ∀ (n i1 : Nat), i1 + n = 12 → ∀ (m1 b1 e1 : Int32) (σr1 : N2) (z1 : N1) (sp1 : UInt32) (d1 : N1), bsO hs σ sg sn n i1 (m1, b1, e1, σr1, z1, sp1, d1) = bsO hs σ sg sn 12 0 (0, (-5), (-5), σr, z, sp, d) → ∀ (H : Heap) (locs : List Loc), Wd E (hB (wHb h (sa 0) p1 (ra 0) p3 p4 k hs ++ (wSt E sa σ ++ (wSt E ra σr ++ (wSh k j z sp ++ wWk j d))))) s (wHb h (sa 0) p1 (ra 0) p3 p4 k hs ++ (wSt E sa σ ++ (wSt E ra σr1 ++ (wSh k j z1 sp1 ++ wWk j d1)))) H locs → ∀ (ls : Array Slot), lv_has ls 10 [(7, .int (nI i1)), (6, .int e1), (5, .int b1), (4, .int m1), (0, .ref h), (1, .int sg), (2, .int sn), (3, .int wt)] → W p l e { frames := 6, cells := 0, slots := 0, locals := 143 } s m (([.ref h, .int sg, .int sn, .int wt] : List Value)).toArray below meth c H locs 0 0 (MQ below (QI E (wHb h (sa 0) p1 (ra 0) p3 p4 k hs ++ (wSt E sa σ ++ (wSt E ra σr ++ (wSh k j z sp ++ wWk j d)))) (fX6_best hs σ σr z sp d sg sn wt).1 (wHb h (sa 0) p1 (ra 0) p3 p4 k hs ++ (wSt E sa σ ++ (wSt E ra ((fX6_best hs σ σr z sp d sg sn wt).2.1) ++ (wSh k j ((fX6_best hs σ σr z sp d sg sn wt).2.2.1) ((fX6_best hs σ σr z sp d sg sn wt).2.2.2.1) ++ wWk j ((fX6_best hs σ σr z sp d sg sn wt).2.2.2.2)))))) (([.ref h, .int sg, .int sn, .int wt] : List Value)).toArray s 0 0 (hB (wHb h (sa 0) p1 (ra 0) p3 p4 k hs ++ (wSt E sa σ ++ (wSt E ra σr ++ (wSh k j z sp ++ wWk j d)))))) (F0 m 34 ls []) := by
          intro n
          induction n with
          | zero =>
            intro i1 hk_i1 m1 b1 e1 σr1 z1 sp1 d1 hR H locs w ls hl
            obtain rfl : i1 = 12 := by omega
            refine lv_iload hx hb dX6_best_34 (lv_at hl 0 rfl) ?_
            refine lv_bipush (v := 12) hx hb dX6_best_36 (by decide) ?_
            refine lv_icmp_ge (tgt := 120) hx hb dX6_best_38 (by decide) (fun _ => ?_) (fun h => absurd (by decide : (12 : Int32) ≤ nI 12) h)
            refine lv_iload_n hx hb dX6_best_120 rfl (lv_at hl 7 rfl) ?_
            by_cases c121_5 : wt = 0
            · refine lv_lookup (off := 27) (tgt := 148) hx hb dX6_best_121 (by decide) (by show Op.lookupswitch.offset [(0, 27), (1, 30)] _ _ = _; rw [c121_5]; rfl) (by decide) ?_
              refine lv_iload hx hb dX6_best_148 (lv_at hl 2 rfl) ?_
              have hq : fX6_best hs σ σr z sp d sg sn wt = (b1, σr1, z1, sp1, d1) := by have hq2 : ((m1, b1, e1, σr1, z1, sp1, d1) : B7) = bsO hs σ sg sn 12 0 (0, (-5), (-5), σr, z, sp, d) := hR; simp only [fX6_best, ← hq2, if_neg c5_1, if_neg c9_2, if_pos c14_3, if_pos c121_5]
              obtain ⟨h0_, h1_, h2_, h3_, h4_⟩ := tup5 hq
              rw [h0_, h1_, h2_, h3_, h4_]
              exact r_iret X w hr rfl dX6_best_150
            · by_cases c121_6 : wt = 1
              · refine lv_lookup (off := 30) (tgt := 151) hx hb dX6_best_121 (by decide) (by show Op.lookupswitch.offset [(0, 27), (1, 30)] _ _ = _; rw [lv_osw (a := 0) c121_5 rfl, c121_6]; rfl) (by decide) ?_
                refine lv_iload hx hb dX6_best_151 (lv_at hl 1 rfl) ?_
                have hq : fX6_best hs σ σr z sp d sg sn wt = (e1, σr1, z1, sp1, d1) := by have hq2 : ((m1, b1, e1, σr1, z1, sp1, d1) : B7) = bsO hs σ sg sn 12 0 (0, (-5), (-5), σr, z, sp, d) := hR; simp only [fX6_best, ← hq2, if_neg c5_1, if_neg c9_2, if_pos c14_3, if_neg c121_5, if_pos c121_6]
                obtain ⟨h0_, h1_, h2_, h3_, h4_⟩ := tup5 hq
                rw [h0_, h1_, h2_, h3_, h4_]
                exact r_iret X w hr rfl dX6_best_153
              · refine lv_lookup (off := 33) (tgt := 154) hx hb dX6_best_121 (by decide) (by show Op.lookupswitch.offset [(0, 27), (1, 30)] _ _ = _; rw [lv_osw (a := 0) c121_5 rfl, lv_osw (a := 1) c121_6 rfl]; rfl) (by decide) ?_
                refine lv_iload hx hb dX6_best_154 (lv_at hl 3 rfl) ?_
                refine lv_if_le (tgt := 164) hx hb dX6_best_156 (by decide) (fun c156_7 => ?_) (fun c156_7 => ?_)
                · refine lv_bipush (v := (-5)) hx hb dX6_best_164 (by decide) ?_
                  have hq : fX6_best hs σ σr z sp d sg sn wt = ((-5), σr1, z1, sp1, d1) := by have hq2 : ((m1, b1, e1, σr1, z1, sp1, d1) : B7) = bsO hs σ sg sn 12 0 (0, (-5), (-5), σr, z, sp, d) := hR; simp only [fX6_best, ← hq2, if_neg c5_1, if_neg c9_2, if_pos c14_3, if_neg c121_5, if_neg c121_6, if_pos c156_7]
                  obtain ⟨h0_, h1_, h2_, h3_, h4_⟩ := tup5 hq
                  rw [h0_, h1_, h2_, h3_, h4_]
                  exact r_iret X w hr rfl dX6_best_166
                · refine lv_iload hx hb dX6_best_159 (lv_at hl 3 rfl) ?_
                  refine lv_goto (tgt := 166) hx hb dX6_best_161 (by decide) ?_
                  have hq : fX6_best hs σ σr z sp d sg sn wt = (m1, σr1, z1, sp1, d1) := by have hq2 : ((m1, b1, e1, σr1, z1, sp1, d1) : B7) = bsO hs σ sg sn 12 0 (0, (-5), (-5), σr, z, sp, d) := hR; simp only [fX6_best, ← hq2, if_neg c5_1, if_neg c9_2, if_pos c14_3, if_neg c121_5, if_neg c121_6, if_neg c156_7]
                  obtain ⟨h0_, h1_, h2_, h3_, h4_⟩ := tup5 hq
                  rw [h0_, h1_, h2_, h3_, h4_]
                  exact r_iret X w hr rfl dX6_best_166
          | succ n ih =>
            intro i1 hk_i1 m1 b1 e1 σr1 z1 sp1 d1 hR H locs w ls hl
            have hkN : i1 < 12 := by omega
            refine lv_iload hx hb dX6_best_34 (lv_at hl 0 rfl) ?_
            refine lv_bipush (v := 12) hx hb dX6_best_36 (by decide) ?_
            refine lv_icmp_ge (tgt := 120) hx hb dX6_best_38 (by decide) (fun h => absurd h (nI_ge (b := 12) hkN (by decide))) (fun _ => ?_)
            refine lv_iconst (v := 0) hx hb dX6_best_41 (by decide) ?_
            refine lv_istore (lv' := [(8, .int 0), (7, .int (nI i1)), (6, .int e1), (5, .int b1), (4, .int m1), (0, .ref h), (1, .int sg), (2, .int sn), (3, .int wt)]) hx hb dX6_best_42 hl (by decide) rfl (fun ls hl => ?_)
            have loop2 : ∀ (n2 j1 : Nat), j1 + n2 = 6 → ∀ (m2 b2 e2 : Int32) (σr2 : N2) (z2 : N1) (sp2 : UInt32) (d2 : N1), bsO hs σ sg sn n (i1 + 1) (bsI hs σ sg sn n2 j1 i1 (m2, b2, e2, σr2, z2, sp2, d2)) = bsO hs σ sg sn 12 0 (0, (-5), (-5), σr, z, sp, d) → ∀ (H : Heap) (locs : List Loc), Wd E (hB (wHb h (sa 0) p1 (ra 0) p3 p4 k hs ++ (wSt E sa σ ++ (wSt E ra σr ++ (wSh k j z sp ++ wWk j d))))) s (wHb h (sa 0) p1 (ra 0) p3 p4 k hs ++ (wSt E sa σ ++ (wSt E ra σr2 ++ (wSh k j z2 sp2 ++ wWk j d2)))) H locs → ∀ (ls : Array Slot), lv_has ls 10 [(8, .int (nI j1)), (7, .int (nI i1)), (6, .int e2), (5, .int b2), (4, .int m2), (0, .ref h), (1, .int sg), (2, .int sn), (3, .int wt)] → W p l e { frames := 6, cells := 0, slots := 0, locals := 143 } s m (([.ref h, .int sg, .int sn, .int wt] : List Value)).toArray below meth c H locs 0 0 (MQ below (QI E (wHb h (sa 0) p1 (ra 0) p3 p4 k hs ++ (wSt E sa σ ++ (wSt E ra σr ++ (wSh k j z sp ++ wWk j d)))) (fX6_best hs σ σr z sp d sg sn wt).1 (wHb h (sa 0) p1 (ra 0) p3 p4 k hs ++ (wSt E sa σ ++ (wSt E ra ((fX6_best hs σ σr z sp d sg sn wt).2.1) ++ (wSh k j ((fX6_best hs σ σr z sp d sg sn wt).2.2.1) ((fX6_best hs σ σr z sp d sg sn wt).2.2.2.1) ++ wWk j ((fX6_best hs σ σr z sp d sg sn wt).2.2.2.2)))))) (([.ref h, .int sg, .int sn, .int wt] : List Value)).toArray s 0 0 (hB (wHb h (sa 0) p1 (ra 0) p3 p4 k hs ++ (wSt E sa σ ++ (wSt E ra σr ++ (wSh k j z sp ++ wWk j d)))))) (F0 m 44 ls []) := by
              intro n2
              induction n2 with
              | zero =>
                intro j1 hk_j1 m2 b2 e2 σr2 z2 sp2 d2 hR2 H locs w ls hl
                obtain rfl : j1 = 6 := by omega
                refine lv_iload hx hb dX6_best_44 (lv_at hl 0 rfl) ?_
                refine lv_bipush (v := 6) hx hb dX6_best_46 (by decide) ?_
                refine lv_icmp_ge (tgt := 114) hx hb dX6_best_48 (by decide) (fun _ => ?_) (fun h => absurd (by decide : (6 : Int32) ≤ nI 6) h)
                refine lv_iinc (v := (nI i1) + 1) (lv' := [(7, .int ((nI i1) + 1)), (8, .int (nI 6)), (6, .int e2), (5, .int b2), (4, .int m2), (0, .ref h), (1, .int sg), (2, .int sn), (3, .int wt)]) hx hb dX6_best_114 hl (k := 1) rfl (by first | rfl | decide) (by decide) rfl (fun ls hl => ?_)
                refine lv_goto (tgt := 34) hx hb dX6_best_117 (by decide) ?_
                have e0 : nI i1 + 1 = nI (i1 + 1) := nI_1 i1
                rw [e0] at hl
                exact ih (i1 + 1) (by omega) _ _ _ _ _ _ _ (by rw [← hR2]; simp only [bsI]) _ _ w ls (lv_sub hl [0, 2, 3, 4, 5, 6, 7, 8] rfl)
              | succ n2 ih2 =>
                intro j1 hk_j1 m2 b2 e2 σr2 z2 sp2 d2 hR2 H locs w ls hl
                have hkNn2 : j1 < 6 := by omega
                refine lv_iload hx hb dX6_best_44 (lv_at hl 0 rfl) ?_
                refine lv_bipush (v := 6) hx hb dX6_best_46 (by decide) ?_
                refine lv_icmp_ge (tgt := 114) hx hb dX6_best_48 (by decide) (fun h => absurd h (nI_ge (b := 6) hkNn2 (by decide))) (fun _ => ?_)
                refine lv_aload_n hx hb dX6_best_51 rfl (lv_at hl 5 rfl) ?_
                refine r_get X w CL6 0 (by decide) wf_X6_10 0 rfl rfl dX6_best_52 ?_
                refine lv_iload hx hb dX6_best_55 (lv_at hl 1 rfl) ?_
                refine r_ci w (r_runV (As := [.int (nI i1)]) (rest := []) X w (kX4_hasBall l E sa σ (nI i1) ) ck_X6_78 ⟨Nat.le_of_ble_eq_true rfl, Nat.le_of_ble_eq_true rfl⟩ [1, 2, 3, 4, 5, 6, 7, 8, 9] (hc_60 (E := E)) (by decide +kernel) (k0 := 0) CL4 rfl hl.1 (Nat.le_of_ble_eq_true rfl) rfl dX6_best_57 ⟨Nat.le_of_ble_eq_true rfl, Nat.le_of_ble_eq_true rfl⟩) (wHb h (sa 0) p1 (ra 0) p3 p4 k hs ++ (wSt E sa σ ++ (wSt E ra σr2 ++ (wSh k j z2 sp2 ++ wWk j d2)))) [1, 2, 3, 4, 5, 6, 7, 8, 9] (hc_60 (E := E)) (by decide +kernel) (ha_60 (E := E)) (hw_60 (E := E)) (fun H locs w => ?_)
                refine lv_if_eq (tgt := 114) hx hb dX6_best_60 (by decide) (fun c60_11 => ?_) (fun c60_11 => ?_)
                · refine lv_iinc (v := (nI i1) + 1) (lv' := [(7, .int ((nI i1) + 1)), (8, .int (nI j1)), (6, .int e2), (5, .int b2), (4, .int m2), (0, .ref h), (1, .int sg), (2, .int sn), (3, .int wt)]) hx hb dX6_best_114 hl (k := 1) rfl (by first | rfl | decide) (by decide) rfl (fun ls hl => ?_)
                  refine lv_goto (tgt := 34) hx hb dX6_best_117 (by decide) ?_
                  have e0 : nI i1 + 1 = nI (i1 + 1) := nI_1 i1
                  rw [e0] at hl
                  exact ih (i1 + 1) (by omega) _ _ _ _ _ _ _ (by rw [← hR2]; simp only [bsI, if_pos c60_11]) _ _ w ls (lv_sub hl [0, 2, 3, 4, 5, 6, 7, 8] rfl)
                · refine lv_aload_n hx hb dX6_best_63 rfl (lv_at hl 5 rfl) ?_
                  refine lv_iload hx hb dX6_best_64 (lv_at hl 1 rfl) ?_
                  refine lv_iload hx hb dX6_best_66 (lv_at hl 0 rfl) ?_
                  refine lv_iload_n hx hb dX6_best_68 rfl (lv_at hl 6 rfl) ?_
                  refine lv_iload_n hx hb dX6_best_69 rfl (lv_at hl 7 rfl) ?_
                  refine r_cv w (r_runV (As := [.int (nI i1), .int (nI j1), .int sg, .int sn]) (rest := []) X w (kX6_tryShot l E h p1 p3 p4 k hs sa σ ra σr2 j z2 sp2 d2 (nI i1) (nI j1) sg sn gs (fo_ok c5_1)) ck_X6_184 ⟨Nat.le_of_ble_eq_true rfl, Nat.le_of_ble_eq_true rfl⟩ [0, 1, 2, 3, 4, 5, 6, 7, 8, 9, 10, 11, 12, 13, 14, 15, 16, 17, 18, 19, 20] (hc_61 (E := E)) (by decide +kernel) (k0 := 0) CL6 rfl hl.1 (Nat.le_of_ble_eq_true rfl) rfl dX6_best_70 ⟨Nat.le_of_ble_eq_true rfl, Nat.le_of_ble_eq_true rfl⟩) (wHb h (sa 0) p1 (ra 0) p3 p4 k hs ++ (wSt E sa σ ++ (wSt E ra ((fX6_tryShot hs σ σr2 z2 sp2 d2 (nI i1) (nI j1) sg sn).1) ++ (wSh k j ((fX6_tryShot hs σ σr2 z2 sp2 d2 (nI i1) (nI j1) sg sn).2.1) ((fX6_tryShot hs σ σr2 z2 sp2 d2 (nI i1) (nI j1) sg sn).2.2.1) ++ wWk j ((fX6_tryShot hs σ σr2 z2 sp2 d2 (nI i1) (nI j1) sg sn).2.2.2))))) [0, 1, 2, 3, 4, 5, 6, 7, 8, 9, 10, 11, 12, 13, 14, 15, 16, 17, 18, 19, 20] (hc_61 (E := E)) (by decide +kernel) (ha_61 (E := E)) (hw_61 (E := E)) (fun H locs w => ?_)
                  refine lv_aload_n hx hb dX6_best_73 rfl (lv_at hl 5 rfl) ?_
                  refine r_get X w CL6 0 (by decide) wf_X6_10 0 rfl rfl dX6_best_74 ?_
                  refine lv_aload_n hx hb dX6_best_77 rfl (lv_at hl 5 rfl) ?_
                  refine r_get X w CL6 5 (by decide) wf_X6_39 0 rfl rfl dX6_best_78 ?_
                  refine r_getN X w CL3 8 (by decide) nl_1 19 rfl rfl dX6_best_81 ?_
                  refine r_ci w (r_runV (As := [.int (((fX6_tryShot hs σ σr2 z2 sp2 d2 (nI i1) (nI j1) sg sn).2.1) 6)]) (rest := []) X w (kX4_valueOfBall l E sa σ (((fX6_tryShot hs σ σr2 z2 sp2 d2 (nI i1) (nI j1) sg sn).2.1) 6) ) ck_X6_123 ⟨Nat.le_of_ble_eq_true rfl, Nat.le_of_ble_eq_true rfl⟩ [1, 2, 3, 4, 5, 6, 7, 8, 9] (hc_60 (E := E)) (by decide +kernel) (k0 := 0) CL4 rfl hl.1 (Nat.le_of_ble_eq_true rfl) rfl dX6_best_84 ⟨Nat.le_of_ble_eq_true rfl, Nat.le_of_ble_eq_true rfl⟩) (wHb h (sa 0) p1 (ra 0) p3 p4 k hs ++ (wSt E sa σ ++ (wSt E ra ((fX6_tryShot hs σ σr2 z2 sp2 d2 (nI i1) (nI j1) sg sn).1) ++ (wSh k j ((fX6_tryShot hs σ σr2 z2 sp2 d2 (nI i1) (nI j1) sg sn).2.1) ((fX6_tryShot hs σ σr2 z2 sp2 d2 (nI i1) (nI j1) sg sn).2.2.1) ++ wWk j ((fX6_tryShot hs σ σr2 z2 sp2 d2 (nI i1) (nI j1) sg sn).2.2.2))))) [1, 2, 3, 4, 5, 6, 7, 8, 9] (hc_60 (E := E)) (by decide +kernel) (ha_60 (E := E)) (hw_60 (E := E)) (fun H locs w => ?_)
                  refine lv_istore (lv' := [(9, .int (fX4_valueOfBall σ (((fX6_tryShot hs σ σr2 z2 sp2 d2 (nI i1) (nI j1) sg sn).2.1) 6))), (8, .int (nI j1)), (7, .int (nI i1)), (6, .int e2), (5, .int b2), (4, .int m2), (0, .ref h), (1, .int sg), (2, .int sn), (3, .int wt)]) hx hb dX6_best_87 hl (by decide) rfl (fun ls hl => ?_)
                  refine lv_iload hx hb dX6_best_89 (lv_at hl 0 rfl) ?_
                  refine lv_iload hx hb dX6_best_91 (lv_at hl 5 rfl) ?_
                  refine lv_icmp_le (tgt := 108) hx hb dX6_best_93 (by decide) (fun c93_12 => ?_) (fun c93_12 => ?_)
                  · refine lv_iinc (v := (nI j1) + 1) (lv' := [(8, .int ((nI j1) + 1)), (9, .int (fX4_valueOfBall σ (((fX6_tryShot hs σ σr2 z2 sp2 d2 (nI i1) (nI j1) sg sn).2.1) 6))), (7, .int (nI i1)), (6, .int e2), (5, .int b2), (4, .int m2), (0, .ref h), (1, .int sg), (2, .int sn), (3, .int wt)]) hx hb dX6_best_108 hl (k := 1) rfl (by first | rfl | decide) (by decide) rfl (fun ls hl => ?_)
                    refine lv_goto (tgt := 44) hx hb dX6_best_111 (by decide) ?_
                    have e0 : nI j1 + 1 = nI (j1 + 1) := nI_1 j1
                    rw [e0] at hl
                    exact ih2 (j1 + 1) (by omega) _ _ _ _ _ _ _ (by rw [← hR2]; simp only [bsI, if_neg c60_11, if_pos c93_12]) _ _ w ls (lv_sub hl [0, 2, 3, 4, 5, 6, 7, 8, 9] rfl)
                  · refine lv_iload hx hb dX6_best_96 (lv_at hl 0 rfl) ?_
                    refine lv_istore (lv' := [(4, .int (fX4_valueOfBall σ (((fX6_tryShot hs σ σr2 z2 sp2 d2 (nI i1) (nI j1) sg sn).2.1) 6))), (9, .int (fX4_valueOfBall σ (((fX6_tryShot hs σ σr2 z2 sp2 d2 (nI i1) (nI j1) sg sn).2.1) 6))), (8, .int (nI j1)), (7, .int (nI i1)), (6, .int e2), (5, .int b2), (0, .ref h), (1, .int sg), (2, .int sn), (3, .int wt)]) hx hb dX6_best_98 hl (by decide) rfl (fun ls hl => ?_)
                    refine lv_iload hx hb dX6_best_100 (lv_at hl 3 rfl) ?_
                    refine lv_istore (lv' := [(5, .int (nI i1)), (4, .int (fX4_valueOfBall σ (((fX6_tryShot hs σ σr2 z2 sp2 d2 (nI i1) (nI j1) sg sn).2.1) 6))), (9, .int (fX4_valueOfBall σ (((fX6_tryShot hs σ σr2 z2 sp2 d2 (nI i1) (nI j1) sg sn).2.1) 6))), (8, .int (nI j1)), (7, .int (nI i1)), (6, .int e2), (0, .ref h), (1, .int sg), (2, .int sn), (3, .int wt)]) hx hb dX6_best_102 hl (by decide) rfl (fun ls hl => ?_)
                    refine lv_iload hx hb dX6_best_104 (lv_at hl 3 rfl) ?_
                    refine lv_istore (lv' := [(6, .int (nI j1)), (5, .int (nI i1)), (4, .int (fX4_valueOfBall σ (((fX6_tryShot hs σ σr2 z2 sp2 d2 (nI i1) (nI j1) sg sn).2.1) 6))), (9, .int (fX4_valueOfBall σ (((fX6_tryShot hs σ σr2 z2 sp2 d2 (nI i1) (nI j1) sg sn).2.1) 6))), (8, .int (nI j1)), (7, .int (nI i1)), (0, .ref h), (1, .int sg), (2, .int sn), (3, .int wt)]) hx hb dX6_best_106 hl (by decide) rfl (fun ls hl => ?_)
                    refine lv_iinc (v := (nI j1) + 1) (lv' := [(8, .int ((nI j1) + 1)), (6, .int (nI j1)), (5, .int (nI i1)), (4, .int (fX4_valueOfBall σ (((fX6_tryShot hs σ σr2 z2 sp2 d2 (nI i1) (nI j1) sg sn).2.1) 6))), (9, .int (fX4_valueOfBall σ (((fX6_tryShot hs σ σr2 z2 sp2 d2 (nI i1) (nI j1) sg sn).2.1) 6))), (7, .int (nI i1)), (0, .ref h), (1, .int sg), (2, .int sn), (3, .int wt)]) hx hb dX6_best_108 hl (k := 4) rfl (by first | rfl | decide) (by decide) rfl (fun ls hl => ?_)
                    refine lv_goto (tgt := 44) hx hb dX6_best_111 (by decide) ?_
                    have e0 : nI j1 + 1 = nI (j1 + 1) := nI_1 j1
                    rw [e0] at hl
                    exact ih2 (j1 + 1) (by omega) _ _ _ _ _ _ _ (by rw [← hR2]; simp only [bsI, if_neg c60_11, if_neg c93_12]) _ _ w ls (lv_sub hl [0, 5, 1, 2, 3, 6, 7, 8, 9] rfl)
            exact loop2 6 0 (by omega) _ _ _ _ _ _ _ hR _ _ w ls (lv_sub hl [0, 1, 2, 3, 4, 5, 6, 7, 8] rfl)
        exact loop 12 0 (by omega) _ _ _ _ _ _ _ rfl _ _ w ls (lv_sub hl [0, 1, 2, 3, 4, 5, 6, 7] rfl)
      · refine lv_bipush (v := (-2)) hx hb dX6_best_17 (by decide) ?_
        have hq : fX6_best hs σ σr z sp d sg sn wt = ((-2), σr, z, sp, d) := by simp only [fX6_best, if_neg c5_1, if_neg c9_2, if_neg c14_3]
        obtain ⟨h0_, h1_, h2_, h3_, h4_⟩ := tup5 hq
        rw [h0_, h1_, h2_, h3_, h4_]
        exact r_iret X w hr rfl dX6_best_19
